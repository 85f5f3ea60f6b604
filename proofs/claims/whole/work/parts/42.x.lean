/-! machine: X5_leastPrice X5_reckon X5_price X5_found X5_crossings X5_hermits X5_firstGroup X5_groupAt X6_hasParty X6_partyNumber J7_fill_d0a16 X6_takeRow X6_takeParty X6_narrowed X6_put X7_append X7_tokenAt X7_step X7_isWord X7_numberAtHand X7_readNumber X7_readParty X7_readTwo X7_readTold (written by wip/gen/gen.py) -/
section
variable {p : Program} {l : Launch} {e : Env} {s : State} {m : MethodId} {args : Array Value} {below : List Frame} {meth : Method} {c : Code} {D : va_G} {ad : Nat → Nat} {cy : Nat → ClassId} {sa va : Nat → Nat}
abbrev r_X5_leastPrice : Room := { frames := 1, cells := 0, slots := 0, locals := 24 }
theorem in_X5_leastPrice_X5 : ∀ w ∈ u_ws RX5 TX5 3, w ∈ wsX5_leastPrice := by decide +kernel
set_option maxHeartbeats 4000000 in
set_option maxRecDepth 100000 in
theorem w_X5_leastPrice_24 (C : qC p s m args meth c cX5_leastPrice 7 RX5 wsX5_leastPrice (some .int)) (hK : qK D cy sa s) (hE : qEnv sa va (qA xS ad) s s.heap) (hN : qN xS ad)   {I : qI} {J : qJ} (hP : qP D xS ad (eX ad cy) I J s.heap) {r : Int32} : ∀ (n : Nat) (x1 : Int32) (x2 : Int32) (x3 : Int32) (x4 : Int32) (x5 : Int32) (x6 : Int32)  (ls : Array Slot), f_X5_leastPrice_24 I n x1 x2 x3 x4 x5 x6 = some r → lv_has ls 7 [(0, .ref (ad 45)), (1, .int x1), (2, .int x2), (3, .int x3), (4, .int x4), (5, .int x5), (6, .int x6)] → W p l e (headSpec wsX5_leastPrice r_X5_leastPrice).room s m args below meth c s.heap [] 0 0 (MQ below (vp_Si (fun x => x = r)) args s 0 0 (fun _ => False)) (F0 m 24 ls []) := by
  have C0 := C
  obtain ⟨⟨hx, hb, hml, hown, hts⟩, hr, hlocks⟩ := C0
  intro n
  induction n with
  | zero =>
    intro x1 x2 x3 x4 x5 x6 ls hf hl
    rw [f_X5_leastPrice_24] at hf
    cases hf
  | succ n ih =>
    intro x1 x2 x3 x4 x5 x6 ls hf hl
    rw [f_X5_leastPrice_24] at hf
    refine lv_iload hx hb dX5_leastPrice_24 (lv_at hl 6 rfl) ?_
    refine lv_iload_n hx hb dX5_leastPrice_26 rfl (lv_at hl 3 rfl) ?_
    refine lv_icmp_ge (tgt := 70) hx hb dX5_leastPrice_27 (by decide) (fun cc => ?_) (fun cc => ?_)
    · have hf := (if_ok hf).1 cc
      refine lv_iload hx hb dX5_leastPrice_70 (lv_at hl 4 rfl) ?_
      exact W.iret hx hb hr (fun t ht _ => ⟨_, rfl, Option.some.inj hf, ht⟩) (fun _ h => by cases h) dX5_leastPrice_72
    · have hf := (if_ok hf).2 cc
      refine lv_iload hx hb dX5_leastPrice_30 (lv_at hl 4 rfl) ?_
      refine lv_aload_n hx hb dX5_leastPrice_32 rfl (lv_at hl 0 rfl) ?_
      refine q_get (C := RX5) (T := TX5) (N := 3) (ci := 5) (v := .ref (ad 46)) hx hb hts in_X5_leastPrice_X5 hown hK hP oX5 rfl 0 (by decide) (hts (.fieldLink RX5 9 "RowsOnlyPrimes$Plans" "steps" "[I") (by decide +kernel)) (fun _ h9 => h9) rfl dX5_leastPrice_33 ?_
      refine lv_iload hx hb dX5_leastPrice_36 (lv_at hl 5 rfl) ?_
      obtain ⟨g1, hf⟩ := gd_ok hf
      refine q_iald hx hb hK hP aX5_1 g1 dX5_leastPrice_38 ?_
      refine lv_aload_n hx hb dX5_leastPrice_39 rfl (lv_at hl 0 rfl) ?_
      refine q_get (C := RX5) (T := TX5) (N := 3) (ci := 5) (v := .ref (ad 47)) hx hb hts in_X5_leastPrice_X5 hown hK hP oX5 rfl 1 (by decide) (hts (.fieldLink RX5 15 "RowsOnlyPrimes$Plans" "prices" "[I") (by decide +kernel)) (fun _ h9 => h9) rfl dX5_leastPrice_40 ?_
      refine lv_iload_n hx hb dX5_leastPrice_43 rfl (lv_at hl 1 rfl) ?_
      refine lv_iload hx hb dX5_leastPrice_44 (lv_at hl 5 rfl) ?_
      refine lv_ixor hx hb dX5_leastPrice_46 ?_
      obtain ⟨g2, hf⟩ := gd_ok hf
      refine q_iald hx hb hK hP aX5_2 g2 dX5_leastPrice_47 ?_
      refine lv_iadd hx hb dX5_leastPrice_48 ?_
      refine va_mmin (own := RX5) hx hb (hml.trans hl.1.symm) hown (hts (.methodLink RX5 45 Lib.Math.min.name) (by decide +kernel)) (hts (.static Lib.Math.min.name) (by decide +kernel)) (hts (.initialized "java/lang/Math") (by decide +kernel)) (hts (.code Lib.Math.min.name Lib.Math.min.code 2 (some .int)) (by decide +kernel)) (Nat.le_of_ble_eq_true rfl) (Nat.le_of_ble_eq_true rfl) (Nat.zero_le _) (Nat.zero_le _) dX5_leastPrice_49 ?_
      obtain ⟨v3, ev3, hf⟩ := lt_ok hf
      refine q_top ev3 ?_
      refine lv_istore (lv' := [(4, .int v3), (0, .ref (ad 45)), (1, .int x1), (2, .int x2), (3, .int x3), (5, .int x5), (6, .int x6)]) hx hb dX5_leastPrice_52 hl (by decide) rfl (fun ls hl => ?_)
      refine lv_iload hx hb dX5_leastPrice_54 (lv_at hl 5 rfl) ?_
      refine lv_iload_n hx hb dX5_leastPrice_56 rfl (lv_at hl 3 rfl) ?_
      refine lv_isub hx hb dX5_leastPrice_57 ?_
      refine lv_iconst (v := 1) hx hb dX5_leastPrice_58 (by decide) ?_
      refine lv_isub hx hb dX5_leastPrice_59 ?_
      refine lv_iload_n hx hb dX5_leastPrice_60 rfl (lv_at hl 2 rfl) ?_
      refine lv_iand hx hb dX5_leastPrice_61 ?_
      refine lv_istore (lv' := [(5, .int (((x5 - x2) - (1 : Int32)) &&& x1)), (4, .int v3), (0, .ref (ad 45)), (1, .int x1), (2, .int x2), (3, .int x3), (6, .int x6)]) hx hb dX5_leastPrice_62 hl (by decide) rfl (fun ls hl => ?_)
      refine lv_iinc (v := (x6 + (1 : Int32))) (lv' := [(6, .int (x6 + (1 : Int32))), (5, .int (((x5 - x2) - (1 : Int32)) &&& x1)), (4, .int v3), (0, .ref (ad 45)), (1, .int x1), (2, .int x2), (3, .int x3)]) hx hb dX5_leastPrice_64 hl (k := 6) rfl rfl (by decide) rfl (fun ls hl => ?_)
      refine lv_goto (tgt := 24) hx hb dX5_leastPrice_67 (by decide) ?_
      exact ih x1 x2 x3 v3 (((x5 - x2) - (1 : Int32)) &&& x1) (x6 + (1 : Int32)) _ hf (lv_sub hl [3, 4, 5, 6, 2, 1, 0] rfl)
set_option maxHeartbeats 4000000 in
set_option maxRecDepth 100000 in
theorem c_X5_leastPrice (l : Launch) {D : va_G} {ad : Nat → Nat} {cy : Nat → ClassId} {sa va : Nat → Nat} {I : qI} {J : qJ}   (p0 : Int32) {r : Int32} (hf : f_X5_leastPrice p0 I = some r) : Met l yX5_leastPrice wsX5_leastPrice r_X5_leastPrice (va_Pc [.ref (ad 45), .int p0] (qPre D xS ad cy sa va (eX ad cy) I J)) (vp_Si (fun x => x = r)) 0 0 (fun _ => False) := by
  refine Met.ofW (cc := cX5_leastPrice) (maxL := 7) (ret := (some .int)) (by decide) rfl ?_
  intro p e s m args below meth c s₁ B hml hv
  obtain ⟨rfl, hP, hK, hE, hN⟩ := hv
  have C : qC p s m _ meth c cX5_leastPrice 7 RX5 wsX5_leastPrice (some .int) := ⟨⟨B.exec, B.bytes, hml, findClass_of_methodNamed B.named, atoms_spec (ws := wsX5_leastPrice) B.pre⟩, B.returns, B.notSynchronized⟩
  have C0 := C
  obtain ⟨⟨hx, hb, hml, hown, hts⟩, hr, hlocks⟩ := C0
  have hl := lv_entry ([.ref (ad 45), .int p0]) (n := 7) (Nat.le_of_ble_eq_true rfl)
  rw [lg_entry_eq]
  generalize (lg_sl ([.ref (ad 45), .int p0]) ++ List.replicate (7 - (lg_sl ([.ref (ad 45), .int p0])).length) Slot.unset).toArray = ls at hl ⊢
  have hl : lv_has ls 7 [(0, .ref (ad 45)), (1, .int p0)] := hl
  unfold f_X5_leastPrice at hf
  refine lv_iload_n hx hb dX5_leastPrice_0 rfl (lv_at hl 1 rfl) ?_
  refine lv_iload_n hx hb dX5_leastPrice_1 rfl (lv_at hl 1 rfl) ?_
  refine lv_ineg hx hb dX5_leastPrice_2 ?_
  refine lv_iand hx hb dX5_leastPrice_3 ?_
  refine lv_istore_n (lv' := [(2, .int (p0 &&& (-p0))), (0, .ref (ad 45)), (1, .int p0)]) hx hb dX5_leastPrice_4 rfl hl (by decide) rfl (fun ls hl => ?_)
  refine lv_iconst (v := 1) hx hb dX5_leastPrice_5 (by decide) ?_
  refine lv_iload_n hx hb dX5_leastPrice_6 rfl (lv_at hl 2 rfl) ?_
  obtain ⟨v1, h2, hf⟩ := bd_ok hf
  refine q_cSi (va_runS (As := [.int p0]) (rest := [.int (1 : Int32)]) ⟨hx, hb, hml, hown, hts⟩ (c_J6_bitCount_0f7a4 l (S := xS) (ee := (eX ad cy)) (D := D) (ad := ad) (cy := cy) (sa := sa) (va := va) (I := I) (J := J) p0 h2) (va_cwS 1 hts gX5_leastPrice_J6_bitCount_0f7a4 rfl rfl rfl (by decide +kernel) ⟨Nat.le_of_ble_eq_true rfl, Nat.le_of_ble_eq_true rfl⟩) ⟨qPre_blind _, fun U hU hW => ⟨rfl, qPre_of hP hK hE hN va_S.rf U hU hW⟩⟩ rfl rfl hl.1 rfl (lv_room (Nat.le_of_ble_eq_true rfl)) dX5_leastPrice_7 ⟨Nat.le_of_ble_eq_true rfl, Nat.le_of_ble_eq_true rfl⟩) ?_
  refine lv_iconst (v := 1) hx hb dX5_leastPrice_10 (by decide) ?_
  refine lv_isub hx hb dX5_leastPrice_11 ?_
  refine lv_ishl hx hb dX5_leastPrice_12 ?_
  obtain ⟨v3, ev3, hf⟩ := lt_ok hf
  refine q_top ev3 ?_
  refine lv_istore_n (lv' := [(3, .int v3), (2, .int (p0 &&& (-p0))), (0, .ref (ad 45)), (1, .int p0)]) hx hb dX5_leastPrice_13 rfl hl (by decide) rfl (fun ls hl => ?_)
  refine lv_ldc (own := RX5) (v := 1000000) hx hb hown (hts (.constant RX5 35 (1000000)) (by decide +kernel)) dX5_leastPrice_14 ?_
  refine lv_istore (lv' := [(4, .int (1000000 : Int32)), (3, .int v3), (2, .int (p0 &&& (-p0))), (0, .ref (ad 45)), (1, .int p0)]) hx hb dX5_leastPrice_16 hl (by decide) rfl (fun ls hl => ?_)
  refine lv_iload_n hx hb dX5_leastPrice_18 rfl (lv_at hl 4 rfl) ?_
  refine lv_istore (lv' := [(5, .int p0), (4, .int (1000000 : Int32)), (3, .int v3), (2, .int (p0 &&& (-p0))), (0, .ref (ad 45)), (1, .int p0)]) hx hb dX5_leastPrice_19 hl (by decide) rfl (fun ls hl => ?_)
  refine lv_iconst (v := 0) hx hb dX5_leastPrice_21 (by decide) ?_
  refine lv_istore (lv' := [(6, .int (0 : Int32)), (5, .int p0), (4, .int (1000000 : Int32)), (3, .int v3), (2, .int (p0 &&& (-p0))), (0, .ref (ad 45)), (1, .int p0)]) hx hb dX5_leastPrice_22 hl (by decide) rfl (fun ls hl => ?_)
  exact w_X5_leastPrice_24 C hK hE hN hP  1000 p0 (p0 &&& (-p0)) v3 (1000000 : Int32) p0 (0 : Int32) _ hf (lv_sub hl [5, 6, 4, 3, 2, 1, 0] rfl)
abbrev r_X5_reckon : Room := { frames := 4, cells := 0, slots := 0, locals := 91 }
theorem in_X5_reckon_X2 : ∀ w ∈ u_ws RX2 TX2 13, w ∈ wsX5_reckon := by decide +kernel
theorem in_X5_reckon_X5 : ∀ w ∈ u_ws RX5 TX5 3, w ∈ wsX5_reckon := by decide +kernel
set_option maxHeartbeats 4000000 in
set_option maxRecDepth 100000 in
theorem w_X5_reckon_82 (C : qC p s m args meth c cX5_reckon 4 RX5 wsX5_reckon none) (hK : qK D cy sa s) (hE : qEnv sa va (qA xS ad) s s.heap) (hN : qN xS ad) (c0 : Nat) (zc0 : isB c0) {J : qJ} {Ie : qI} (k17 : Int32 → qI → Option qI) (hk17 : ∀ (x2 : Int32)  (I : qI) (ls : Array Slot) (H : Heap) (locs : List Loc), k17 x2 I = some Ie → lv_has ls 4 [(0, .ref (ad 45)), (1, .ref (ad c0)), (2, .int x2)] → qP D xS ad (eX ad cy) I J H → va_S (qA xS ad) s.heap H locs → W p l e (headSpec wsX5_reckon r_X5_reckon).room s m args below meth c H locs 0 0 (MQ below (va_Qv (S := Unit) (fun _ => True) (fun _ t => qP D xS ad (eX ad cy) Ie J t.heap) (qA xS ad)) args s 0 0 (qA xS ad)) (F0 m 17 ls [])) : ∀ (x2 : Int32) (xs0 : Int32) (xs1 : Int32)  (I : qI) (ls : Array Slot) (H : Heap) (locs : List Loc), f_X5_reckon_82 c0 k17 x2 xs0 xs1 I = some Ie → lv_has ls 4 [(0, .ref (ad 45)), (1, .ref (ad c0)), (2, .int x2)] → qP D xS ad (eX ad cy) I J H → va_S (qA xS ad) s.heap H locs → W p l e (headSpec wsX5_reckon r_X5_reckon).room s m args below meth c H locs 0 0 (MQ below (va_Qv (S := Unit) (fun _ => True) (fun _ t => qP D xS ad (eX ad cy) Ie J t.heap) (qA xS ad)) args s 0 0 (qA xS ad)) (F0 m 82 ls [.int xs0, .int xs1, .ref (ad 47)]) := by
  have C0 := C
  obtain ⟨⟨hx, hb, hml, hown, hts⟩, hr, hlocks⟩ := C0
  intro x2 xs0 xs1 I ls H locs hf hl hP hS
  unfold f_X5_reckon_82 at hf
  obtain ⟨g1, hf⟩ := gd_ok hf
  obtain ⟨I2, eI2, hf⟩ := lt_ok hf
  refine q_iast hx hb hK hP hN hS aX5_2 g1 dX5_reckon_82 (fun H locs hP hS => ?_)
  have hP : qP D xS ad (eX ad cy) I2 J H := by rw [eI2]; exact hP
  refine lv_iinc (v := (x2 + (1 : Int32))) (lv' := [(2, .int (x2 + (1 : Int32))), (0, .ref (ad 45)), (1, .ref (ad c0))]) hx hb dX5_reckon_83 hl (k := 2) rfl rfl (by decide) rfl (fun ls hl => ?_)
  refine lv_goto (tgt := 17) hx hb dX5_reckon_86 (by decide) ?_
  exact hk17 (x2 + (1 : Int32)) I2 _ _ _ hf (lv_sub hl [1, 2, 0] rfl) hP hS
set_option maxHeartbeats 4000000 in
set_option maxRecDepth 100000 in
theorem w_X5_reckon_55 (C : qC p s m args meth c cX5_reckon 4 RX5 wsX5_reckon none) (hK : qK D cy sa s) (hE : qEnv sa va (qA xS ad) s s.heap) (hN : qN xS ad) (c0 : Nat) (zc0 : isB c0) {J : qJ} {Ie : qI} (k17 : Int32 → qI → Option qI) (hk17 : ∀ (x2 : Int32)  (I : qI) (ls : Array Slot) (H : Heap) (locs : List Loc), k17 x2 I = some Ie → lv_has ls 4 [(0, .ref (ad 45)), (1, .ref (ad c0)), (2, .int x2)] → qP D xS ad (eX ad cy) I J H → va_S (qA xS ad) s.heap H locs → W p l e (headSpec wsX5_reckon r_X5_reckon).room s m args below meth c H locs 0 0 (MQ below (va_Qv (S := Unit) (fun _ => True) (fun _ t => qP D xS ad (eX ad cy) Ie J t.heap) (qA xS ad)) args s 0 0 (qA xS ad)) (F0 m 17 ls [])) : ∀ (x2 : Int32) (xs0 : Int32) (xs1 : Int32)  (I : qI) (ls : Array Slot) (H : Heap) (locs : List Loc), f_X5_reckon_55 c0 k17 x2 xs0 xs1 I = some Ie → lv_has ls 4 [(0, .ref (ad 45)), (1, .ref (ad c0)), (2, .int x2)] → qP D xS ad (eX ad cy) I J H → va_S (qA xS ad) s.heap H locs → W p l e (headSpec wsX5_reckon r_X5_reckon).room s m args below meth c H locs 0 0 (MQ below (va_Qv (S := Unit) (fun _ => True) (fun _ t => qP D xS ad (eX ad cy) Ie J t.heap) (qA xS ad)) args s 0 0 (qA xS ad)) (F0 m 55 ls [.int xs0, .int xs1, .ref (ad 46)]) := by
  have C0 := C
  obtain ⟨⟨hx, hb, hml, hown, hts⟩, hr, hlocks⟩ := C0
  intro x2 xs0 xs1 I ls H locs hf hl hP hS
  unfold f_X5_reckon_55 at hf
  obtain ⟨g1, hf⟩ := gd_ok hf
  obtain ⟨I2, eI2, hf⟩ := lt_ok hf
  refine q_iast hx hb hK hP hN hS aX5_1 g1 dX5_reckon_55 (fun H locs hP hS => ?_)
  have hP : qP D xS ad (eX ad cy) I2 J H := by rw [eI2]; exact hP
  refine lv_aload_n hx hb dX5_reckon_56 rfl (lv_at hl 0 rfl) ?_
  refine q_get (C := RX5) (T := TX5) (N := 3) (ci := 5) (v := .ref (ad 47)) hx hb hts in_X5_reckon_X5 hown hK hP oX5 rfl 1 (by decide) (hts (.fieldLink RX5 15 "RowsOnlyPrimes$Plans" "prices" "[I") (by decide +kernel)) (fun _ h9 => h9) rfl dX5_reckon_57 ?_
  refine lv_iload_n hx hb dX5_reckon_60 rfl (lv_at hl 2 rfl) ?_
  refine lv_iload_n hx hb dX5_reckon_61 rfl (lv_at hl 2 rfl) ?_
  refine lv_aload_n hx hb dX5_reckon_62 rfl (lv_at hl 0 rfl) ?_
  refine q_get (C := RX5) (T := TX5) (N := 3) (ci := 5) (v := .int (I2 45 2)) hx hb hts in_X5_reckon_X5 hown hK hP oX5 rfl 2 (by decide) (hts (.fieldLink RX5 24 "RowsOnlyPrimes$Plans" "all" "I") (by decide +kernel)) (fun _ h9 => h9) rfl dX5_reckon_63 ?_
  refine lv_iconst (v := -1) hx hb dX5_reckon_66 (by decide) ?_
  refine lv_ixor hx hb dX5_reckon_67 ?_
  refine lv_iand hx hb dX5_reckon_68 ?_
  refine lv_if_ne (tgt := 80) hx hb dX5_reckon_69 (by decide) (fun cc => ?_) (fun cc => ?_)
  · have hf := (if_ok hf).2 cc
    refine lv_ldc (own := RX5) (v := 1000000) hx hb hown (hts (.constant RX5 35 (1000000)) (by decide +kernel)) dX5_reckon_80 ?_
    exact w_X5_reckon_82 C hK hE hN c0 zc0 k17 hk17  x2 (1000000 : Int32) x2 I2 _ _ _ hf (lv_sub hl [0, 1, 2] rfl) hP hS
  · have hf := (if_ok hf).1 cc
    refine lv_aload_n hx hb dX5_reckon_72 rfl (lv_at hl 0 rfl) ?_
    refine lv_iload_n hx hb dX5_reckon_73 rfl (lv_at hl 2 rfl) ?_
    obtain ⟨v3, h4, hf⟩ := bd_ok hf
    refine q_cSi (va_runV (As := [.int x2]) (rest := [.int x2, .ref (ad 47)]) ⟨hx, hb, hml, hown, hts⟩ (c_X5_leastPrice l (D := D) (ad := ad) (cy := cy) (sa := sa) (va := va) (I := I2) (J := J) x2 h4) (cwV 1 hts gX5_reckon_X5_leastPrice rfl rfl rfl (by decide +kernel) ⟨Nat.le_of_ble_eq_true rfl, Nat.le_of_ble_eq_true rfl⟩) ⟨qPre_blind _, q_recv hK hP oX5 rfl, fun U hU hW => ⟨rfl, qPre_of hP hK hE hN hS U hU hW⟩⟩ rfl rfl hl.1 rfl (lv_room (Nat.le_of_ble_eq_true rfl)) dX5_reckon_74 ⟨Nat.le_of_ble_eq_true rfl, Nat.le_of_ble_eq_true rfl⟩) ?_
    refine lv_goto (tgt := 82) hx hb dX5_reckon_77 (by decide) ?_
    exact w_X5_reckon_82 C hK hE hN c0 zc0 k17 hk17  x2 v3 x2 I2 _ _ _ hf (lv_sub hl [0, 1, 2] rfl) hP hS
set_option maxHeartbeats 4000000 in
set_option maxRecDepth 100000 in
theorem w_X5_reckon_17 (C : qC p s m args meth c cX5_reckon 4 RX5 wsX5_reckon none) (hK : qK D cy sa s) (hE : qEnv sa va (qA xS ad) s s.heap) (hN : qN xS ad) (c0 : Nat) (zc0 : isB c0) {J : qJ} {Ie : qI} : ∀ (n : Nat) (x2 : Int32)  (I : qI) (ls : Array Slot) (H : Heap) (locs : List Loc), f_X5_reckon_17 c0 n x2 I = some Ie → lv_has ls 4 [(0, .ref (ad 45)), (1, .ref (ad c0)), (2, .int x2)] → qP D xS ad (eX ad cy) I J H → va_S (qA xS ad) s.heap H locs → W p l e (headSpec wsX5_reckon r_X5_reckon).room s m args below meth c H locs 0 0 (MQ below (va_Qv (S := Unit) (fun _ => True) (fun _ t => qP D xS ad (eX ad cy) Ie J t.heap) (qA xS ad)) args s 0 0 (qA xS ad)) (F0 m 17 ls []) := by
  have C0 := C
  obtain ⟨⟨hx, hb, hml, hown, hts⟩, hr, hlocks⟩ := C0
  intro n
  induction n with
  | zero =>
    intro x2 I ls H locs hf hl hP hS
    rw [f_X5_reckon_17] at hf
    cases hf
  | succ n ih =>
    intro x2 I ls H locs hf hl hP hS
    rw [f_X5_reckon_17] at hf
    refine lv_iload_n hx hb dX5_reckon_17 rfl (lv_at hl 2 rfl) ?_
    refine lv_aload_n hx hb dX5_reckon_18 rfl (lv_at hl 0 rfl) ?_
    refine q_get (C := RX5) (T := TX5) (N := 3) (ci := 5) (v := .int (I 45 2)) hx hb hts in_X5_reckon_X5 hown hK hP oX5 rfl 2 (by decide) (hts (.fieldLink RX5 24 "RowsOnlyPrimes$Plans" "all" "I") (by decide +kernel)) (fun _ h9 => h9) rfl dX5_reckon_19 ?_
    refine lv_icmp_gt (tgt := 89) hx hb dX5_reckon_22 (by decide) (fun cc => ?_) (fun cc => ?_)
    · have hf := (if_ok hf).1 cc
      have e9 := Option.some.inj hf
      have eI9 : I = Ie := e9
      exact W.vret hx hb hr (fun t ht _ => ⟨⟨(), rfl, trivial, by show qP D _ ad _ _ _ t.heap; rw [ht, ← eI9]; exact hP⟩, hS.F ht⟩) hS.2.2 dX5_reckon_89
    · have hf := (if_ok hf).2 cc
      refine lv_aload_n hx hb dX5_reckon_25 rfl (lv_at hl 1 rfl) ?_
      refine lv_iload_n hx hb dX5_reckon_26 rfl (lv_at hl 2 rfl) ?_
      refine lv_aload_n hx hb dX5_reckon_27 rfl (lv_at hl 1 rfl) ?_
      refine q_get (C := RX2) (T := TX2) (N := 13) (ci := 2) (v := .int (I c0 8)) hx hb hts in_X5_reckon_X2 hown hK hP (oX2 zc0) rfl 8 (by decide) (hts (.fieldLink RX5 28 "RowsOnlyPrimes$Bank" "over" "I") (by decide +kernel)) (fun _ h9 => h9) rfl dX5_reckon_28 ?_
      obtain ⟨v1, h2, hf⟩ := bd_ok hf
      refine q_cSi (va_runV (As := [.int x2, .int (I c0 8)]) (rest := []) ⟨hx, hb, hml, hown, hts⟩ (c_X2_hireBy l (D := D) (ad := ad) (cy := cy) (sa := sa) (va := va) (I := I) (J := J) c0 zc0 x2 (I c0 8) h2) (cwV 2 hts gX5_reckon_X2_hireBy rfl rfl rfl (by decide +kernel) ⟨Nat.le_of_ble_eq_true rfl, Nat.le_of_ble_eq_true rfl⟩) ⟨qPre_blind _, q_recv hK hP (oX2 zc0) rfl, fun U hU hW => ⟨rfl, qPre_of hP hK hE hN hS U hU hW⟩⟩ rfl rfl hl.1 rfl (lv_room (Nat.le_of_ble_eq_true rfl)) dX5_reckon_31 ⟨Nat.le_of_ble_eq_true rfl, Nat.le_of_ble_eq_true rfl⟩) ?_
      refine lv_istore_n (lv' := [(3, .int v1), (0, .ref (ad 45)), (1, .ref (ad c0)), (2, .int x2)]) hx hb dX5_reckon_34 rfl hl (by decide) rfl (fun ls hl => ?_)
      refine lv_aload_n hx hb dX5_reckon_35 rfl (lv_at hl 1 rfl) ?_
      refine q_get (C := RX5) (T := TX5) (N := 3) (ci := 5) (v := .ref (ad 46)) hx hb hts in_X5_reckon_X5 hown hK hP oX5 rfl 0 (by decide) (hts (.fieldLink RX5 9 "RowsOnlyPrimes$Plans" "steps" "[I") (by decide +kernel)) (fun _ h9 => h9) rfl dX5_reckon_36 ?_
      refine lv_iload_n hx hb dX5_reckon_39 rfl (lv_at hl 3 rfl) ?_
      refine lv_iload_n hx hb dX5_reckon_40 rfl (lv_at hl 0 rfl) ?_
      refine lv_iconst (v := -1) hx hb dX5_reckon_41 (by decide) ?_
      refine lv_icmp_ne (tgt := 50) hx hb dX5_reckon_42 (by decide) (fun cc => ?_) (fun cc => ?_)
      · have hf := (if_ok hf).2 cc
        refine lv_sipush (v := 1000) hx hb dX5_reckon_50 (by decide) ?_
        refine lv_iload_n hx hb dX5_reckon_53 rfl (lv_at hl 0 rfl) ?_
        refine lv_iadd hx hb dX5_reckon_54 ?_
        exact w_X5_reckon_55 C hK hE hN c0 zc0 (f_X5_reckon_17 c0 n) ih  x2 ((1000 : Int32) + v1) x2 I _ _ _ hf (lv_sub hl [1, 2, 3] rfl) hP hS
      · have hf := (if_ok hf).1 cc
        refine lv_ldc (own := RX5) (v := 1000000) hx hb hown (hts (.constant RX5 35 (1000000)) (by decide +kernel)) dX5_reckon_45 ?_
        refine lv_goto (tgt := 55) hx hb dX5_reckon_47 (by decide) ?_
        exact w_X5_reckon_55 C hK hE hN c0 zc0 (f_X5_reckon_17 c0 n) ih  x2 (1000000 : Int32) x2 I _ _ _ hf (lv_sub hl [1, 2, 3] rfl) hP hS
set_option maxHeartbeats 4000000 in
set_option maxRecDepth 100000 in
theorem c_X5_reckon (l : Launch) {D : va_G} {ad : Nat → Nat} {cy : Nat → ClassId} {sa va : Nat → Nat} {I : qI} {J : qJ} (c0 : Nat) (zc0 : isB c0)  {Ie : qI} (hf : f_X5_reckon c0 I = some Ie) : Met l yX5_reckon wsX5_reckon r_X5_reckon (va_Pc [.ref (ad 45), .ref (ad c0)] (qPre D xS ad cy sa va (eX ad cy) I J)) (va_Qv (S := Unit) (fun _ => True) (fun _ t => qP D xS ad (eX ad cy) Ie J t.heap) (qA xS ad)) 0 0 (qA xS ad) := by
  refine Met.ofW (cc := cX5_reckon) (maxL := 4) (ret := none) (by decide) rfl ?_
  intro p e s m args below meth c s₁ B hml hv
  obtain ⟨rfl, hP, hK, hE, hN⟩ := hv
  have C : qC p s m _ meth c cX5_reckon 4 RX5 wsX5_reckon none := ⟨⟨B.exec, B.bytes, hml, findClass_of_methodNamed B.named, atoms_spec (ws := wsX5_reckon) B.pre⟩, B.returns, B.notSynchronized⟩
  have C0 := C
  obtain ⟨⟨hx, hb, hml, hown, hts⟩, hr, hlocks⟩ := C0
  have hS : va_S (qA xS ad) s.heap s.heap [] := va_S.rf
  have hl := lv_entry ([.ref (ad 45), .ref (ad c0)]) (n := 4) (Nat.le_of_ble_eq_true rfl)
  rw [lg_entry_eq]
  generalize (lg_sl ([.ref (ad 45), .ref (ad c0)]) ++ List.replicate (4 - (lg_sl ([.ref (ad 45), .ref (ad c0)])).length) Slot.unset).toArray = ls at hl ⊢
  have hl : lv_has ls 4 [(0, .ref (ad 45)), (1, .ref (ad c0))] := hl
  unfold f_X5_reckon at hf
  refine lv_aload_n hx hb dX5_reckon_0 rfl (lv_at hl 0 rfl) ?_
  refine lv_aload_n hx hb dX5_reckon_1 rfl (lv_at hl 1 rfl) ?_
  obtain ⟨v1, h2, hf⟩ := bd_ok hf
  refine q_cSi (va_runV (As := []) (rest := [.ref (ad 45)]) ⟨hx, hb, hml, hown, hts⟩ (c_X2_here l (D := D) (ad := ad) (cy := cy) (sa := sa) (va := va) (I := I) (J := J) c0 zc0 h2) (cwV 0 hts gX5_reckon_X2_here rfl rfl rfl (by decide +kernel) ⟨Nat.le_of_ble_eq_true rfl, Nat.le_of_ble_eq_true rfl⟩) ⟨qPre_blind _, q_recv hK hP (oX2 zc0) rfl, fun U hU hW => ⟨rfl, qPre_of hP hK hE hN hS U hU hW⟩⟩ rfl rfl hl.1 rfl (lv_room (Nat.le_of_ble_eq_true rfl)) dX5_reckon_2 ⟨Nat.le_of_ble_eq_true rfl, Nat.le_of_ble_eq_true rfl⟩) ?_
  obtain ⟨I3, eI3, hf⟩ := lt_ok hf
  refine q_put (C := RX5) (T := TX5) (N := 3) (ci := 5) (v := .int v1) (x := v1) (ty := .int) hx hb hts in_X5_reckon_X5 tyX5 tyX5_ok nmX5 hown hK hP hN hS oX5 rfl 2 (by decide) (hts (.fieldLink RX5 24 "RowsOnlyPrimes$Plans" "all" "I") (by decide +kernel)) (fun _ h9 => h9) rfl (by decide +kernel) rfl rfl (fun _ _ => rfl) (fun _ _ => Nat.le_of_ble_eq_true rfl) dX5_reckon_5 (fun H locs hP hS => ?_)
  rw [← eI3] at hP
  refine lv_aload_n hx hb dX5_reckon_8 rfl (lv_at hl 0 rfl) ?_
  refine q_get (C := RX5) (T := TX5) (N := 3) (ci := 5) (v := .ref (ad 47)) hx hb hts in_X5_reckon_X5 hown hK hP oX5 rfl 1 (by decide) (hts (.fieldLink RX5 15 "RowsOnlyPrimes$Plans" "prices" "[I") (by decide +kernel)) (fun _ h9 => h9) rfl dX5_reckon_9 ?_
  refine lv_iconst (v := 0) hx hb dX5_reckon_12 (by decide) ?_
  refine lv_iconst (v := 0) hx hb dX5_reckon_13 (by decide) ?_
  obtain ⟨I4, eI4, hf⟩ := lt_ok hf
  refine q_iast hx hb hK hP hN hS aX5_2 (by decide) dX5_reckon_14 (fun H locs hP hS => ?_)
  have eI4 : I4 = _ := eI4
  have hP : qP D xS ad (eX ad cy) I4 J H := by rw [eI4]; exact hP
  refine lv_iconst (v := 1) hx hb dX5_reckon_15 (by decide) ?_
  refine lv_istore_n (lv' := [(2, .int (1 : Int32)), (0, .ref (ad 45)), (1, .ref (ad c0))]) hx hb dX5_reckon_16 rfl hl (by decide) rfl (fun ls hl => ?_)
  exact w_X5_reckon_17 C hK hE hN c0 zc0  1000 (1 : Int32) I4 _ _ _ hf (lv_sub hl [1, 2, 0] rfl) hP hS
abbrev r_X5_price : Room := { frames := 0, cells := 0, slots := 0, locals := 0 }
theorem in_X5_price_X5 : ∀ w ∈ u_ws RX5 TX5 3, w ∈ wsX5_price := by decide +kernel
set_option maxHeartbeats 4000000 in
set_option maxRecDepth 100000 in
theorem c_X5_price (l : Launch) {D : va_G} {ad : Nat → Nat} {cy : Nat → ClassId} {sa va : Nat → Nat} {I : qI} {J : qJ}    {r : Int32} (hf : f_X5_price I = some r) : Met l yX5_price wsX5_price r_X5_price (va_Pc [.ref (ad 45)] (qPre D xS ad cy sa va (eX ad cy) I J)) (vp_Si (fun x => x = r)) 0 0 (fun _ => False) := by
  refine Met.ofW (cc := cX5_price) (maxL := 1) (ret := (some .int)) (by decide) rfl ?_
  intro p e s m args below meth c s₁ B hml hv
  obtain ⟨rfl, hP, hK, hE, hN⟩ := hv
  have C : qC p s m _ meth c cX5_price 1 RX5 wsX5_price (some .int) := ⟨⟨B.exec, B.bytes, hml, findClass_of_methodNamed B.named, atoms_spec (ws := wsX5_price) B.pre⟩, B.returns, B.notSynchronized⟩
  have C0 := C
  obtain ⟨⟨hx, hb, hml, hown, hts⟩, hr, hlocks⟩ := C0
  have hl := lv_entry ([.ref (ad 45)]) (n := 1) (Nat.le_of_ble_eq_true rfl)
  rw [lg_entry_eq]
  generalize (lg_sl ([.ref (ad 45)]) ++ List.replicate (1 - (lg_sl ([.ref (ad 45)])).length) Slot.unset).toArray = ls at hl ⊢
  have hl : lv_has ls 1 [(0, .ref (ad 45))] := hl
  unfold f_X5_price at hf
  refine lv_aload_n hx hb dX5_price_0 rfl (lv_at hl 0 rfl) ?_
  refine q_get (C := RX5) (T := TX5) (N := 3) (ci := 5) (v := .ref (ad 47)) hx hb hts in_X5_price_X5 hown hK hP oX5 rfl 1 (by decide) (hts (.fieldLink RX5 15 "RowsOnlyPrimes$Plans" "prices" "[I") (by decide +kernel)) (fun _ h9 => h9) rfl dX5_price_1 ?_
  refine lv_aload_n hx hb dX5_price_4 rfl (lv_at hl 0 rfl) ?_
  refine q_get (C := RX5) (T := TX5) (N := 3) (ci := 5) (v := .int (I 45 2)) hx hb hts in_X5_price_X5 hown hK hP oX5 rfl 2 (by decide) (hts (.fieldLink RX5 24 "RowsOnlyPrimes$Plans" "all" "I") (by decide +kernel)) (fun _ h9 => h9) rfl dX5_price_5 ?_
  obtain ⟨g1, hf⟩ := gd_ok hf
  refine q_iald hx hb hK hP aX5_2 g1 dX5_price_8 ?_
  exact W.iret hx hb hr (fun t ht _ => ⟨_, rfl, Option.some.inj hf, ht⟩) (fun _ h => by cases h) dX5_price_9
abbrev r_X5_found : Room := { frames := 0, cells := 0, slots := 0, locals := 0 }
theorem in_X5_found_X5 : ∀ w ∈ u_ws RX5 TX5 3, w ∈ wsX5_found := by decide +kernel
set_option maxHeartbeats 4000000 in
set_option maxRecDepth 100000 in
theorem c_X5_found (l : Launch) {D : va_G} {ad : Nat → Nat} {cy : Nat → ClassId} {sa va : Nat → Nat} {I : qI} {J : qJ}    {r : Int32} (hf : f_X5_found I = some r) : Met l yX5_found wsX5_found r_X5_found (va_Pc [.ref (ad 45)] (qPre D xS ad cy sa va (eX ad cy) I J)) (vp_Si (fun x => x = r)) 0 0 (fun _ => False) := by
  refine Met.ofW (cc := cX5_found) (maxL := 1) (ret := (some .boolean)) (by decide) rfl ?_
  intro p e s m args below meth c s₁ B hml hv
  obtain ⟨rfl, hP, hK, hE, hN⟩ := hv
  have C : qC p s m _ meth c cX5_found 1 RX5 wsX5_found (some .boolean) := ⟨⟨B.exec, B.bytes, hml, findClass_of_methodNamed B.named, atoms_spec (ws := wsX5_found) B.pre⟩, B.returns, B.notSynchronized⟩
  have C0 := C
  obtain ⟨⟨hx, hb, hml, hown, hts⟩, hr, hlocks⟩ := C0
  have hl := lv_entry ([.ref (ad 45)]) (n := 1) (Nat.le_of_ble_eq_true rfl)
  rw [lg_entry_eq]
  generalize (lg_sl ([.ref (ad 45)]) ++ List.replicate (1 - (lg_sl ([.ref (ad 45)])).length) Slot.unset).toArray = ls at hl ⊢
  have hl : lv_has ls 1 [(0, .ref (ad 45))] := hl
  unfold f_X5_found at hf
  refine lv_aload_n hx hb dX5_found_0 rfl (lv_at hl 0 rfl) ?_
  refine q_get (C := RX5) (T := TX5) (N := 3) (ci := 5) (v := .ref (ad 47)) hx hb hts in_X5_found_X5 hown hK hP oX5 rfl 1 (by decide) (hts (.fieldLink RX5 15 "RowsOnlyPrimes$Plans" "prices" "[I") (by decide +kernel)) (fun _ h9 => h9) rfl dX5_found_1 ?_
  refine lv_aload_n hx hb dX5_found_4 rfl (lv_at hl 0 rfl) ?_
  refine q_get (C := RX5) (T := TX5) (N := 3) (ci := 5) (v := .int (I 45 2)) hx hb hts in_X5_found_X5 hown hK hP oX5 rfl 2 (by decide) (hts (.fieldLink RX5 24 "RowsOnlyPrimes$Plans" "all" "I") (by decide +kernel)) (fun _ h9 => h9) rfl dX5_found_5 ?_
  obtain ⟨g1, hf⟩ := gd_ok hf
  refine q_iald hx hb hK hP aX5_2 g1 dX5_found_8 ?_
  refine lv_ldc (own := RX5) (v := 1000000) hx hb hown (hts (.constant RX5 35 (1000000)) (by decide +kernel)) dX5_found_9 ?_
  refine lv_icmp_ge (tgt := 18) hx hb dX5_found_11 (by decide) (fun cc => ?_) (fun cc => ?_)
  · have hf := (if_ok hf).1 cc
    refine lv_iconst (v := 0) hx hb dX5_found_18 (by decide) ?_
    exact W.zret (ty := .boolean) hx hb hr rfl (fun t ht _ => ⟨_, rfl, Option.some.inj hf, ht⟩) (fun _ h => by cases h) dX5_found_19
  · have hf := (if_ok hf).2 cc
    refine lv_iconst (v := 1) hx hb dX5_found_14 (by decide) ?_
    refine lv_goto (tgt := 19) hx hb dX5_found_15 (by decide) ?_
    exact W.zret (ty := .boolean) hx hb hr rfl (fun t ht _ => ⟨_, rfl, Option.some.inj hf, ht⟩) (fun _ h => by cases h) dX5_found_19
abbrev r_X5_crossings : Room := { frames := 1, cells := 0, slots := 0, locals := 20 }
theorem in_X5_crossings_X5 : ∀ w ∈ u_ws RX5 TX5 3, w ∈ wsX5_crossings := by decide +kernel
set_option maxHeartbeats 4000000 in
set_option maxRecDepth 100000 in
theorem c_X5_crossings (l : Launch) {D : va_G} {ad : Nat → Nat} {cy : Nat → ClassId} {sa va : Nat → Nat} {I : qI} {J : qJ}    {r : Int32} (hf : f_X5_crossings I = some r) : Met l yX5_crossings wsX5_crossings r_X5_crossings (va_Pc [.ref (ad 45)] (qPre D xS ad cy sa va (eX ad cy) I J)) (vp_Si (fun x => x = r)) 0 0 (fun _ => False) := by
  refine Met.ofW (cc := cX5_crossings) (maxL := 1) (ret := (some .int)) (by decide) rfl ?_
  intro p e s m args below meth c s₁ B hml hv
  obtain ⟨rfl, hP, hK, hE, hN⟩ := hv
  have C : qC p s m _ meth c cX5_crossings 1 RX5 wsX5_crossings (some .int) := ⟨⟨B.exec, B.bytes, hml, findClass_of_methodNamed B.named, atoms_spec (ws := wsX5_crossings) B.pre⟩, B.returns, B.notSynchronized⟩
  have C0 := C
  obtain ⟨⟨hx, hb, hml, hown, hts⟩, hr, hlocks⟩ := C0
  have hl := lv_entry ([.ref (ad 45)]) (n := 1) (Nat.le_of_ble_eq_true rfl)
  rw [lg_entry_eq]
  generalize (lg_sl ([.ref (ad 45)]) ++ List.replicate (1 - (lg_sl ([.ref (ad 45)])).length) Slot.unset).toArray = ls at hl ⊢
  have hl : lv_has ls 1 [(0, .ref (ad 45))] := hl
  unfold f_X5_crossings at hf
  refine lv_aload_n hx hb dX5_crossings_0 rfl (lv_at hl 0 rfl) ?_
  obtain ⟨v1, h2, hf⟩ := bd_ok hf
  refine q_cSi (va_runV (As := []) (rest := []) ⟨hx, hb, hml, hown, hts⟩ (c_X5_found l (D := D) (ad := ad) (cy := cy) (sa := sa) (va := va) (I := I) (J := J)  h2) (cwV 0 hts gX5_crossings_X5_found rfl rfl rfl (by decide +kernel) ⟨Nat.le_of_ble_eq_true rfl, Nat.le_of_ble_eq_true rfl⟩) ⟨qPre_blind _, q_recv hK hP oX5 rfl, fun U hU hW => ⟨rfl, qPre_of hP hK hE hN va_S.rf U hU hW⟩⟩ rfl rfl hl.1 rfl (lv_room (Nat.le_of_ble_eq_true rfl)) dX5_crossings_1 ⟨Nat.le_of_ble_eq_true rfl, Nat.le_of_ble_eq_true rfl⟩) ?_
  refine lv_if_eq (tgt := 23) hx hb dX5_crossings_4 (by decide) (fun cc => ?_) (fun cc => ?_)
  · have hf := (if_ok hf).1 cc
    refine lv_iconst (v := -1) hx hb dX5_crossings_23 (by decide) ?_
    exact W.iret hx hb hr (fun t ht _ => ⟨_, rfl, Option.some.inj hf, ht⟩) (fun _ h => by cases h) dX5_crossings_24
  · have hf := (if_ok hf).2 cc
    refine lv_aload_n hx hb dX5_crossings_7 rfl (lv_at hl 0 rfl) ?_
    refine q_get (C := RX5) (T := TX5) (N := 3) (ci := 5) (v := .ref (ad 47)) hx hb hts in_X5_crossings_X5 hown hK hP oX5 rfl 1 (by decide) (hts (.fieldLink RX5 15 "RowsOnlyPrimes$Plans" "prices" "[I") (by decide +kernel)) (fun _ h9 => h9) rfl dX5_crossings_8 ?_
    refine lv_aload_n hx hb dX5_crossings_11 rfl (lv_at hl 0 rfl) ?_
    refine q_get (C := RX5) (T := TX5) (N := 3) (ci := 5) (v := .int (I 45 2)) hx hb hts in_X5_crossings_X5 hown hK hP oX5 rfl 2 (by decide) (hts (.fieldLink RX5 24 "RowsOnlyPrimes$Plans" "all" "I") (by decide +kernel)) (fun _ h9 => h9) rfl dX5_crossings_12 ?_
    obtain ⟨g3, hf⟩ := gd_ok hf
    refine q_iald hx hb hK hP aX5_2 g3 dX5_crossings_15 ?_
    refine lv_sipush (v := 1000) hx hb dX5_crossings_16 (by decide) ?_
    refine lv_idiv hx hb dX5_crossings_19 (by decide) ?_
    refine lv_goto (tgt := 24) hx hb dX5_crossings_20 (by decide) ?_
    exact W.iret hx hb hr (fun t ht _ => ⟨_, rfl, Option.some.inj hf, ht⟩) (fun _ h => by cases h) dX5_crossings_24
abbrev r_X5_hermits : Room := { frames := 1, cells := 0, slots := 0, locals := 20 }
theorem in_X5_hermits_X5 : ∀ w ∈ u_ws RX5 TX5 3, w ∈ wsX5_hermits := by decide +kernel
set_option maxHeartbeats 4000000 in
set_option maxRecDepth 100000 in
theorem c_X5_hermits (l : Launch) {D : va_G} {ad : Nat → Nat} {cy : Nat → ClassId} {sa va : Nat → Nat} {I : qI} {J : qJ}    {r : Int32} (hf : f_X5_hermits I = some r) : Met l yX5_hermits wsX5_hermits r_X5_hermits (va_Pc [.ref (ad 45)] (qPre D xS ad cy sa va (eX ad cy) I J)) (vp_Si (fun x => x = r)) 0 0 (fun _ => False) := by
  refine Met.ofW (cc := cX5_hermits) (maxL := 1) (ret := (some .int)) (by decide) rfl ?_
  intro p e s m args below meth c s₁ B hml hv
  obtain ⟨rfl, hP, hK, hE, hN⟩ := hv
  have C : qC p s m _ meth c cX5_hermits 1 RX5 wsX5_hermits (some .int) := ⟨⟨B.exec, B.bytes, hml, findClass_of_methodNamed B.named, atoms_spec (ws := wsX5_hermits) B.pre⟩, B.returns, B.notSynchronized⟩
  have C0 := C
  obtain ⟨⟨hx, hb, hml, hown, hts⟩, hr, hlocks⟩ := C0
  have hl := lv_entry ([.ref (ad 45)]) (n := 1) (Nat.le_of_ble_eq_true rfl)
  rw [lg_entry_eq]
  generalize (lg_sl ([.ref (ad 45)]) ++ List.replicate (1 - (lg_sl ([.ref (ad 45)])).length) Slot.unset).toArray = ls at hl ⊢
  have hl : lv_has ls 1 [(0, .ref (ad 45))] := hl
  unfold f_X5_hermits at hf
  refine lv_aload_n hx hb dX5_hermits_0 rfl (lv_at hl 0 rfl) ?_
  obtain ⟨v1, h2, hf⟩ := bd_ok hf
  refine q_cSi (va_runV (As := []) (rest := []) ⟨hx, hb, hml, hown, hts⟩ (c_X5_found l (D := D) (ad := ad) (cy := cy) (sa := sa) (va := va) (I := I) (J := J)  h2) (cwV 0 hts gX5_hermits_X5_found rfl rfl rfl (by decide +kernel) ⟨Nat.le_of_ble_eq_true rfl, Nat.le_of_ble_eq_true rfl⟩) ⟨qPre_blind _, q_recv hK hP oX5 rfl, fun U hU hW => ⟨rfl, qPre_of hP hK hE hN va_S.rf U hU hW⟩⟩ rfl rfl hl.1 rfl (lv_room (Nat.le_of_ble_eq_true rfl)) dX5_hermits_1 ⟨Nat.le_of_ble_eq_true rfl, Nat.le_of_ble_eq_true rfl⟩) ?_
  refine lv_if_eq (tgt := 23) hx hb dX5_hermits_4 (by decide) (fun cc => ?_) (fun cc => ?_)
  · have hf := (if_ok hf).1 cc
    refine lv_iconst (v := -1) hx hb dX5_hermits_23 (by decide) ?_
    exact W.iret hx hb hr (fun t ht _ => ⟨_, rfl, Option.some.inj hf, ht⟩) (fun _ h => by cases h) dX5_hermits_24
  · have hf := (if_ok hf).2 cc
    refine lv_aload_n hx hb dX5_hermits_7 rfl (lv_at hl 0 rfl) ?_
    refine q_get (C := RX5) (T := TX5) (N := 3) (ci := 5) (v := .ref (ad 47)) hx hb hts in_X5_hermits_X5 hown hK hP oX5 rfl 1 (by decide) (hts (.fieldLink RX5 15 "RowsOnlyPrimes$Plans" "prices" "[I") (by decide +kernel)) (fun _ h9 => h9) rfl dX5_hermits_8 ?_
    refine lv_aload_n hx hb dX5_hermits_11 rfl (lv_at hl 0 rfl) ?_
    refine q_get (C := RX5) (T := TX5) (N := 3) (ci := 5) (v := .int (I 45 2)) hx hb hts in_X5_hermits_X5 hown hK hP oX5 rfl 2 (by decide) (hts (.fieldLink RX5 24 "RowsOnlyPrimes$Plans" "all" "I") (by decide +kernel)) (fun _ h9 => h9) rfl dX5_hermits_12 ?_
    obtain ⟨g3, hf⟩ := gd_ok hf
    refine q_iald hx hb hK hP aX5_2 g3 dX5_hermits_15 ?_
    refine lv_sipush (v := 1000) hx hb dX5_hermits_16 (by decide) ?_
    refine lv_irem hx hb dX5_hermits_19 (by decide) ?_
    refine lv_goto (tgt := 24) hx hb dX5_hermits_20 (by decide) ?_
    exact W.iret hx hb hr (fun t ht _ => ⟨_, rfl, Option.some.inj hf, ht⟩) (fun _ h => by cases h) dX5_hermits_24
abbrev r_X5_firstGroup : Room := { frames := 0, cells := 0, slots := 0, locals := 0 }
theorem in_X5_firstGroup_X5 : ∀ w ∈ u_ws RX5 TX5 3, w ∈ wsX5_firstGroup := by decide +kernel
set_option maxHeartbeats 4000000 in
set_option maxRecDepth 100000 in
theorem w_X5_firstGroup_2 (C : qC p s m args meth c cX5_firstGroup 3 RX5 wsX5_firstGroup (some .int)) (hK : qK D cy sa s) (hE : qEnv sa va (qA xS ad) s s.heap) (hN : qN xS ad)   {I : qI} {J : qJ} (hP : qP D xS ad (eX ad cy) I J s.heap) {r : Int32} : ∀ (n : Nat) (x1 : Int32) (x2 : Int32)  (ls : Array Slot), f_X5_firstGroup_2 I n x1 x2 = some r → lv_has ls 3 [(0, .ref (ad 45)), (1, .int x1), (2, .int x2)] → W p l e (headSpec wsX5_firstGroup r_X5_firstGroup).room s m args below meth c s.heap [] 0 0 (MQ below (vp_Si (fun x => x = r)) args s 0 0 (fun _ => False)) (F0 m 2 ls []) := by
  have C0 := C
  obtain ⟨⟨hx, hb, hml, hown, hts⟩, hr, hlocks⟩ := C0
  intro n
  induction n with
  | zero =>
    intro x1 x2 ls hf hl
    rw [f_X5_firstGroup_2] at hf
    cases hf
  | succ n ih =>
    intro x1 x2 ls hf hl
    rw [f_X5_firstGroup_2] at hf
    refine lv_iload_n hx hb dX5_firstGroup_2 rfl (lv_at hl 2 rfl) ?_
    refine lv_iload_n hx hb dX5_firstGroup_3 rfl (lv_at hl 1 rfl) ?_
    refine lv_icmp_ge (tgt := 47) hx hb dX5_firstGroup_4 (by decide) (fun cc => ?_) (fun cc => ?_)
    · have hf := (if_ok hf).1 cc
      refine lv_iload_n hx hb dX5_firstGroup_47 rfl (lv_at hl 1 rfl) ?_
      exact W.iret hx hb hr (fun t ht _ => ⟨_, rfl, Option.some.inj hf, ht⟩) (fun _ h => by cases h) dX5_firstGroup_48
    · have hf := (if_ok hf).2 cc
      refine lv_iload_n hx hb dX5_firstGroup_7 rfl (lv_at hl 2 rfl) ?_
      refine lv_iload_n hx hb dX5_firstGroup_8 rfl (lv_at hl 1 rfl) ?_
      refine lv_iconst (v := -1) hx hb dX5_firstGroup_9 (by decide) ?_
      refine lv_ixor hx hb dX5_firstGroup_10 ?_
      refine lv_iand hx hb dX5_firstGroup_11 ?_
      refine lv_if_ne (tgt := 41) hx hb dX5_firstGroup_12 (by decide) (fun cc => ?_) (fun cc => ?_)
      · have hf := (if_ok hf).2 cc
        refine lv_iinc (v := (x2 + (1 : Int32))) (lv' := [(2, .int (x2 + (1 : Int32))), (0, .ref (ad 45)), (1, .int x1)]) hx hb dX5_firstGroup_41 hl (k := 2) rfl rfl (by decide) rfl (fun ls hl => ?_)
        refine lv_goto (tgt := 2) hx hb dX5_firstGroup_44 (by decide) ?_
        exact ih x1 (x2 + (1 : Int32)) _ hf (lv_sub hl [1, 2, 0] rfl)
      · have hf := (if_ok hf).1 cc
        refine lv_aload_n hx hb dX5_firstGroup_15 rfl (lv_at hl 0 rfl) ?_
        refine q_get (C := RX5) (T := TX5) (N := 3) (ci := 5) (v := .ref (ad 46)) hx hb hts in_X5_firstGroup_X5 hown hK hP oX5 rfl 0 (by decide) (hts (.fieldLink RX5 9 "RowsOnlyPrimes$Plans" "steps" "[I") (by decide +kernel)) (fun _ h9 => h9) rfl dX5_firstGroup_16 ?_
        refine lv_iload_n hx hb dX5_firstGroup_19 rfl (lv_at hl 2 rfl) ?_
        obtain ⟨g1, hf⟩ := gd_ok hf
        refine q_iald hx hb hK hP aX5_1 g1 dX5_firstGroup_20 ?_
        refine lv_aload_n hx hb dX5_firstGroup_21 rfl (lv_at hl 0 rfl) ?_
        refine q_get (C := RX5) (T := TX5) (N := 3) (ci := 5) (v := .ref (ad 47)) hx hb hts in_X5_firstGroup_X5 hown hK hP oX5 rfl 1 (by decide) (hts (.fieldLink RX5 15 "RowsOnlyPrimes$Plans" "prices" "[I") (by decide +kernel)) (fun _ h9 => h9) rfl dX5_firstGroup_22 ?_
        refine lv_iload_n hx hb dX5_firstGroup_25 rfl (lv_at hl 1 rfl) ?_
        refine lv_iload_n hx hb dX5_firstGroup_26 rfl (lv_at hl 2 rfl) ?_
        refine lv_ixor hx hb dX5_firstGroup_27 ?_
        obtain ⟨g2, hf⟩ := gd_ok hf
        refine q_iald hx hb hK hP aX5_2 g2 dX5_firstGroup_28 ?_
        refine lv_iadd hx hb dX5_firstGroup_29 ?_
        refine lv_aload_n hx hb dX5_firstGroup_30 rfl (lv_at hl 0 rfl) ?_
        refine q_get (C := RX5) (T := TX5) (N := 3) (ci := 5) (v := .ref (ad 47)) hx hb hts in_X5_firstGroup_X5 hown hK hP oX5 rfl 1 (by decide) (hts (.fieldLink RX5 15 "RowsOnlyPrimes$Plans" "prices" "[I") (by decide +kernel)) (fun _ h9 => h9) rfl dX5_firstGroup_31 ?_
        refine lv_iload_n hx hb dX5_firstGroup_34 rfl (lv_at hl 1 rfl) ?_
        obtain ⟨g3, hf⟩ := gd_ok hf
        refine q_iald hx hb hK hP aX5_2 g3 dX5_firstGroup_35 ?_
        refine lv_icmp_ne (tgt := 41) hx hb dX5_firstGroup_36 (by decide) (fun cc => ?_) (fun cc => ?_)
        · have hf := (if_ok hf).2 cc
          refine lv_iinc (v := (x2 + (1 : Int32))) (lv' := [(2, .int (x2 + (1 : Int32))), (0, .ref (ad 45)), (1, .int x1)]) hx hb dX5_firstGroup_41 hl (k := 2) rfl rfl (by decide) rfl (fun ls hl => ?_)
          refine lv_goto (tgt := 2) hx hb dX5_firstGroup_44 (by decide) ?_
          exact ih x1 (x2 + (1 : Int32)) _ hf (lv_sub hl [1, 2, 0] rfl)
        · have hf := (if_ok hf).1 cc
          refine lv_iload_n hx hb dX5_firstGroup_39 rfl (lv_at hl 2 rfl) ?_
          exact W.iret hx hb hr (fun t ht _ => ⟨_, rfl, Option.some.inj hf, ht⟩) (fun _ h => by cases h) dX5_firstGroup_40
set_option maxHeartbeats 4000000 in
set_option maxRecDepth 100000 in
theorem c_X5_firstGroup (l : Launch) {D : va_G} {ad : Nat → Nat} {cy : Nat → ClassId} {sa va : Nat → Nat} {I : qI} {J : qJ}   (p0 : Int32) {r : Int32} (hf : f_X5_firstGroup p0 I = some r) : Met l yX5_firstGroup wsX5_firstGroup r_X5_firstGroup (va_Pc [.ref (ad 45), .int p0] (qPre D xS ad cy sa va (eX ad cy) I J)) (vp_Si (fun x => x = r)) 0 0 (fun _ => False) := by
  refine Met.ofW (cc := cX5_firstGroup) (maxL := 3) (ret := (some .int)) (by decide) rfl ?_
  intro p e s m args below meth c s₁ B hml hv
  obtain ⟨rfl, hP, hK, hE, hN⟩ := hv
  have C : qC p s m _ meth c cX5_firstGroup 3 RX5 wsX5_firstGroup (some .int) := ⟨⟨B.exec, B.bytes, hml, findClass_of_methodNamed B.named, atoms_spec (ws := wsX5_firstGroup) B.pre⟩, B.returns, B.notSynchronized⟩
  have C0 := C
  obtain ⟨⟨hx, hb, hml, hown, hts⟩, hr, hlocks⟩ := C0
  have hl := lv_entry ([.ref (ad 45), .int p0]) (n := 3) (Nat.le_of_ble_eq_true rfl)
  rw [lg_entry_eq]
  generalize (lg_sl ([.ref (ad 45), .int p0]) ++ List.replicate (3 - (lg_sl ([.ref (ad 45), .int p0])).length) Slot.unset).toArray = ls at hl ⊢
  have hl : lv_has ls 3 [(0, .ref (ad 45)), (1, .int p0)] := hl
  unfold f_X5_firstGroup at hf
  refine lv_iconst (v := 1) hx hb dX5_firstGroup_0 (by decide) ?_
  refine lv_istore_n (lv' := [(2, .int (1 : Int32)), (0, .ref (ad 45)), (1, .int p0)]) hx hb dX5_firstGroup_1 rfl hl (by decide) rfl (fun ls hl => ?_)
  exact w_X5_firstGroup_2 C hK hE hN hP  1000 p0 (1 : Int32) _ hf (lv_sub hl [1, 2, 0] rfl)
abbrev r_X5_groupAt : Room := { frames := 1, cells := 0, slots := 0, locals := 22 }
theorem in_X5_groupAt_X5 : ∀ w ∈ u_ws RX5 TX5 3, w ∈ wsX5_groupAt := by decide +kernel
set_option maxHeartbeats 4000000 in
set_option maxRecDepth 100000 in
theorem w_X5_groupAt_10 (C : qC p s m args meth c cX5_groupAt 5 RX5 wsX5_groupAt (some .int)) (hK : qK D cy sa s) (hE : qEnv sa va (qA xS ad) s s.heap) (hN : qN xS ad)   {I : qI} {J : qJ} (hP : qP D xS ad (eX ad cy) I J s.heap) {r : Int32} : ∀ (n : Nat) (x1 : Int32) (x2 : Int32) (x3 : Int32) (x4 : Int32)  (ls : Array Slot), f_X5_groupAt_10 I n x1 x2 x3 x4 = some r → lv_has ls 5 [(0, .ref (ad 45)), (1, .int x1), (2, .int x2), (3, .int x3), (4, .int x4)] → W p l e (headSpec wsX5_groupAt r_X5_groupAt).room s m args below meth c s.heap [] 0 0 (MQ below (vp_Si (fun x => x = r)) args s 0 0 (fun _ => False)) (F0 m 10 ls []) := by
  have C0 := C
  obtain ⟨⟨hx, hb, hml, hown, hts⟩, hr, hlocks⟩ := C0
  intro n
  induction n with
  | zero =>
    intro x1 x2 x3 x4 ls hf hl
    rw [f_X5_groupAt_10] at hf
    cases hf
  | succ n ih =>
    intro x1 x2 x3 x4 ls hf hl
    rw [f_X5_groupAt_10] at hf
    refine lv_iload hx hb dX5_groupAt_10 (lv_at hl 4 rfl) ?_
    refine lv_iload_n hx hb dX5_groupAt_12 rfl (lv_at hl 1 rfl) ?_
    refine lv_icmp_gt (tgt := 38) hx hb dX5_groupAt_13 (by decide) (fun cc => ?_) (fun cc => ?_)
    · have hf := (if_ok hf).1 cc
      refine lv_iload_n hx hb dX5_groupAt_38 rfl (lv_at hl 3 rfl) ?_
      exact W.iret hx hb hr (fun t ht _ => ⟨_, rfl, Option.some.inj hf, ht⟩) (fun _ h => by cases h) dX5_groupAt_39
    · have hf := (if_ok hf).2 cc
      refine lv_iload_n hx hb dX5_groupAt_16 rfl (lv_at hl 2 rfl) ?_
      refine lv_if_eq (tgt := 38) hx hb dX5_groupAt_17 (by decide) (fun cc => ?_) (fun cc => ?_)
      · have hf := (if_ok hf).1 cc
        refine lv_iload_n hx hb dX5_groupAt_38 rfl (lv_at hl 3 rfl) ?_
        exact W.iret hx hb hr (fun t ht _ => ⟨_, rfl, Option.some.inj hf, ht⟩) (fun _ h => by cases h) dX5_groupAt_39
      · have hf := (if_ok hf).2 cc
        refine lv_aload_n hx hb dX5_groupAt_20 rfl (lv_at hl 0 rfl) ?_
        refine lv_iload_n hx hb dX5_groupAt_21 rfl (lv_at hl 2 rfl) ?_
        obtain ⟨v1, h2, hf⟩ := bd_ok hf
        refine q_cSi (va_runV (As := [.int x2]) (rest := []) ⟨hx, hb, hml, hown, hts⟩ (c_X5_firstGroup l (D := D) (ad := ad) (cy := cy) (sa := sa) (va := va) (I := I) (J := J) x2 h2) (cwV 1 hts gX5_groupAt_X5_firstGroup rfl rfl rfl (by decide +kernel) ⟨Nat.le_of_ble_eq_true rfl, Nat.le_of_ble_eq_true rfl⟩) ⟨qPre_blind _, q_recv hK hP oX5 rfl, fun U hU hW => ⟨rfl, qPre_of hP hK hE hN va_S.rf U hU hW⟩⟩ rfl rfl hl.1 rfl (lv_room (Nat.le_of_ble_eq_true rfl)) dX5_groupAt_22 ⟨Nat.le_of_ble_eq_true rfl, Nat.le_of_ble_eq_true rfl⟩) ?_
        refine lv_istore_n (lv' := [(3, .int v1), (0, .ref (ad 45)), (1, .int x1), (2, .int x2), (4, .int x4)]) hx hb dX5_groupAt_25 rfl hl (by decide) rfl (fun ls hl => ?_)
        refine lv_iload_n hx hb dX5_groupAt_26 rfl (lv_at hl 3 rfl) ?_
        refine lv_iload_n hx hb dX5_groupAt_27 rfl (lv_at hl 0 rfl) ?_
        refine lv_iconst (v := -1) hx hb dX5_groupAt_28 (by decide) ?_
        refine lv_ixor hx hb dX5_groupAt_29 ?_
        refine lv_iand hx hb dX5_groupAt_30 ?_
        refine lv_istore_n (lv' := [(2, .int (x2 &&& (v1 ^^^ (-1 : Int32)))), (3, .int v1), (0, .ref (ad 45)), (1, .int x1), (4, .int x4)]) hx hb dX5_groupAt_31 rfl hl (by decide) rfl (fun ls hl => ?_)
        refine lv_iinc (v := (x4 + (1 : Int32))) (lv' := [(4, .int (x4 + (1 : Int32))), (2, .int (x2 &&& (v1 ^^^ (-1 : Int32)))), (3, .int v1), (0, .ref (ad 45)), (1, .int x1)]) hx hb dX5_groupAt_32 hl (k := 4) rfl rfl (by decide) rfl (fun ls hl => ?_)
        refine lv_goto (tgt := 10) hx hb dX5_groupAt_35 (by decide) ?_
        exact ih x1 (x2 &&& (v1 ^^^ (-1 : Int32))) v1 (x4 + (1 : Int32)) _ hf (lv_sub hl [3, 4, 1, 2, 0] rfl)
set_option maxHeartbeats 4000000 in
set_option maxRecDepth 100000 in
theorem c_X5_groupAt (l : Launch) {D : va_G} {ad : Nat → Nat} {cy : Nat → ClassId} {sa va : Nat → Nat} {I : qI} {J : qJ}   (p0 : Int32) {r : Int32} (hf : f_X5_groupAt p0 I = some r) : Met l yX5_groupAt wsX5_groupAt r_X5_groupAt (va_Pc [.ref (ad 45), .int p0] (qPre D xS ad cy sa va (eX ad cy) I J)) (vp_Si (fun x => x = r)) 0 0 (fun _ => False) := by
  refine Met.ofW (cc := cX5_groupAt) (maxL := 5) (ret := (some .int)) (by decide) rfl ?_
  intro p e s m args below meth c s₁ B hml hv
  obtain ⟨rfl, hP, hK, hE, hN⟩ := hv
  have C : qC p s m _ meth c cX5_groupAt 5 RX5 wsX5_groupAt (some .int) := ⟨⟨B.exec, B.bytes, hml, findClass_of_methodNamed B.named, atoms_spec (ws := wsX5_groupAt) B.pre⟩, B.returns, B.notSynchronized⟩
  have C0 := C
  obtain ⟨⟨hx, hb, hml, hown, hts⟩, hr, hlocks⟩ := C0
  have hl := lv_entry ([.ref (ad 45), .int p0]) (n := 5) (Nat.le_of_ble_eq_true rfl)
  rw [lg_entry_eq]
  generalize (lg_sl ([.ref (ad 45), .int p0]) ++ List.replicate (5 - (lg_sl ([.ref (ad 45), .int p0])).length) Slot.unset).toArray = ls at hl ⊢
  have hl : lv_has ls 5 [(0, .ref (ad 45)), (1, .int p0)] := hl
  unfold f_X5_groupAt at hf
  refine lv_aload_n hx hb dX5_groupAt_0 rfl (lv_at hl 0 rfl) ?_
  refine q_get (C := RX5) (T := TX5) (N := 3) (ci := 5) (v := .int (I 45 2)) hx hb hts in_X5_groupAt_X5 hown hK hP oX5 rfl 2 (by decide) (hts (.fieldLink RX5 24 "RowsOnlyPrimes$Plans" "all" "I") (by decide +kernel)) (fun _ h9 => h9) rfl dX5_groupAt_1 ?_
  refine lv_istore_n (lv' := [(2, .int (I 45 2)), (0, .ref (ad 45)), (1, .int p0)]) hx hb dX5_groupAt_4 rfl hl (by decide) rfl (fun ls hl => ?_)
  refine lv_iconst (v := -1) hx hb dX5_groupAt_5 (by decide) ?_
  refine lv_istore_n (lv' := [(3, .int (-1 : Int32)), (2, .int (I 45 2)), (0, .ref (ad 45)), (1, .int p0)]) hx hb dX5_groupAt_6 rfl hl (by decide) rfl (fun ls hl => ?_)
  refine lv_iconst (v := 0) hx hb dX5_groupAt_7 (by decide) ?_
  refine lv_istore (lv' := [(4, .int (0 : Int32)), (3, .int (-1 : Int32)), (2, .int (I 45 2)), (0, .ref (ad 45)), (1, .int p0)]) hx hb dX5_groupAt_8 hl (by decide) rfl (fun ls hl => ?_)
  exact w_X5_groupAt_10 C hK hE hN hP  1000 p0 (I 45 2) (-1 : Int32) (0 : Int32) _ hf (lv_sub hl [3, 4, 2, 1, 0] rfl)
abbrev r_X6_hasParty : Room := { frames := 0, cells := 0, slots := 0, locals := 0 }
theorem in_X6_hasParty_X6 : ∀ w ∈ u_ws RX6 TX6 3, w ∈ wsX6_hasParty := by decide +kernel
set_option maxHeartbeats 4000000 in
set_option maxRecDepth 100000 in
theorem c_X6_hasParty (l : Launch) {D : va_G} {ad : Nat → Nat} {cy : Nat → ClassId} {sa va : Nat → Nat} {I : qI} {J : qJ} (k : Nat) (zk : isSh k)  {r : Int32} (hf : f_X6_hasParty k I = some r) : Met l yX6_hasParty wsX6_hasParty r_X6_hasParty (va_Pc [.ref (ad k)] (qPre D xS ad cy sa va (eX ad cy) I J)) (vp_Si (fun x => x = r)) 0 0 (fun _ => False) := by
  refine Met.ofW (cc := cX6_hasParty) (maxL := 1) (ret := (some .boolean)) (by decide) rfl ?_
  intro p e s m args below meth c s₁ B hml hv
  obtain ⟨rfl, hP, hK, hE, hN⟩ := hv
  have C : qC p s m _ meth c cX6_hasParty 1 RX6 wsX6_hasParty (some .boolean) := ⟨⟨B.exec, B.bytes, hml, findClass_of_methodNamed B.named, atoms_spec (ws := wsX6_hasParty) B.pre⟩, B.returns, B.notSynchronized⟩
  have C0 := C
  obtain ⟨⟨hx, hb, hml, hown, hts⟩, hr, hlocks⟩ := C0
  have hl := lv_entry ([.ref (ad k)]) (n := 1) (Nat.le_of_ble_eq_true rfl)
  rw [lg_entry_eq]
  generalize (lg_sl ([.ref (ad k)]) ++ List.replicate (1 - (lg_sl ([.ref (ad k)])).length) Slot.unset).toArray = ls at hl ⊢
  have hl : lv_has ls 1 [(0, .ref (ad k))] := hl
  unfold f_X6_hasParty at hf
  refine lv_aload_n hx hb dX6_hasParty_0 rfl (lv_at hl 0 rfl) ?_
  refine q_get (C := RX6) (T := TX6) (N := 3) (ci := 6) (v := .int (I k 1)) hx hb hts in_X6_hasParty_X6 hown hK hP (oX6 zk) rfl 1 (by decide) (hts (.fieldLink RX6 15 "RowsOnlyPrimes$Shelf" "content" "I") (by decide +kernel)) (fun _ h9 => h9) rfl dX6_hasParty_1 ?_
  refine lv_bipush (v := 10) hx hb dX6_hasParty_4 (by decide) ?_
  refine lv_icmp_lt (tgt := 13) hx hb dX6_hasParty_6 (by decide) (fun cc => ?_) (fun cc => ?_)
  · have hf := (if_ok hf).1 cc
    refine lv_iconst (v := 0) hx hb dX6_hasParty_13 (by decide) ?_
    exact W.zret (ty := .boolean) hx hb hr rfl (fun t ht _ => ⟨_, rfl, Option.some.inj hf, ht⟩) (fun _ h => by cases h) dX6_hasParty_14
  · have hf := (if_ok hf).2 cc
    refine lv_iconst (v := 1) hx hb dX6_hasParty_9 (by decide) ?_
    refine lv_goto (tgt := 14) hx hb dX6_hasParty_10 (by decide) ?_
    exact W.zret (ty := .boolean) hx hb hr rfl (fun t ht _ => ⟨_, rfl, Option.some.inj hf, ht⟩) (fun _ h => by cases h) dX6_hasParty_14
abbrev r_X6_partyNumber : Room := { frames := 0, cells := 0, slots := 0, locals := 0 }
theorem in_X6_partyNumber_X6 : ∀ w ∈ u_ws RX6 TX6 3, w ∈ wsX6_partyNumber := by decide +kernel
set_option maxHeartbeats 4000000 in
set_option maxRecDepth 100000 in
theorem c_X6_partyNumber (l : Launch) {D : va_G} {ad : Nat → Nat} {cy : Nat → ClassId} {sa va : Nat → Nat} {I : qI} {J : qJ} (k : Nat) (zk : isSh k)  {r : Int32} (hf : f_X6_partyNumber k I = some r) : Met l yX6_partyNumber wsX6_partyNumber r_X6_partyNumber (va_Pc [.ref (ad k)] (qPre D xS ad cy sa va (eX ad cy) I J)) (vp_Si (fun x => x = r)) 0 0 (fun _ => False) := by
  refine Met.ofW (cc := cX6_partyNumber) (maxL := 1) (ret := (some .int)) (by decide) rfl ?_
  intro p e s m args below meth c s₁ B hml hv
  obtain ⟨rfl, hP, hK, hE, hN⟩ := hv
  have C : qC p s m _ meth c cX6_partyNumber 1 RX6 wsX6_partyNumber (some .int) := ⟨⟨B.exec, B.bytes, hml, findClass_of_methodNamed B.named, atoms_spec (ws := wsX6_partyNumber) B.pre⟩, B.returns, B.notSynchronized⟩
  have C0 := C
  obtain ⟨⟨hx, hb, hml, hown, hts⟩, hr, hlocks⟩ := C0
  have hl := lv_entry ([.ref (ad k)]) (n := 1) (Nat.le_of_ble_eq_true rfl)
  rw [lg_entry_eq]
  generalize (lg_sl ([.ref (ad k)]) ++ List.replicate (1 - (lg_sl ([.ref (ad k)])).length) Slot.unset).toArray = ls at hl ⊢
  have hl : lv_has ls 1 [(0, .ref (ad k))] := hl
  unfold f_X6_partyNumber at hf
  refine lv_aload_n hx hb dX6_partyNumber_0 rfl (lv_at hl 0 rfl) ?_
  refine q_get (C := RX6) (T := TX6) (N := 3) (ci := 6) (v := .int (I k 1)) hx hb hts in_X6_partyNumber_X6 hown hK hP (oX6 zk) rfl 1 (by decide) (hts (.fieldLink RX6 15 "RowsOnlyPrimes$Shelf" "content" "I") (by decide +kernel)) (fun _ h9 => h9) rfl dX6_partyNumber_1 ?_
  refine lv_bipush (v := 10) hx hb dX6_partyNumber_4 (by decide) ?_
  refine lv_isub hx hb dX6_partyNumber_6 ?_
  exact W.iret hx hb hr (fun t ht _ => ⟨_, rfl, Option.some.inj hf, ht⟩) (fun _ h => by cases h) dX6_partyNumber_7
abbrev r_J7_fill_d0a16 : Room := { frames := 0, cells := 0, slots := 0, locals := 0 }
set_option maxHeartbeats 4000000 in
set_option maxRecDepth 100000 in
theorem w_J7_fill_d0a16_6 {S : Nat → Prop} {ee : qE} (C : qC p s m args meth c cJ7_fill_d0a16 5 RJ7 wsJ7_fill_d0a16 none) (hK : qK D cy sa s) (hE : qEnv sa va (qA S ad) s s.heap) (hN : qN S ad) (k0 : Nat) (n0 : Nat) (zk0 : qAJ S ee cy k0 n0) {I : qI} {Je : qJ} : ∀ (n : Nat) (x1 : Int64) (x3 : Int32) (x4 : Int32)  (J : qJ) (ls : Array Slot) (H : Heap) (locs : List Loc), f_J7_fill_d0a16_6 k0 n0 n x1 x3 x4 J = some Je → lv_has ls 5 [(0, .ref (ad k0)), (1, .long x1), (3, .int x3), (4, .int x4)] → qP D S ad ee I J H → va_S (qA S ad) s.heap H locs → W p l e (headSpec wsJ7_fill_d0a16 r_J7_fill_d0a16).room s m args below meth c H locs 0 0 (MQ below (va_Qv (S := Unit) (fun _ => True) (fun _ t => qP D S ad ee I Je t.heap) (qA S ad)) args s 0 0 (qA S ad)) (F0 m 6 ls []) := by
  have C0 := C
  obtain ⟨⟨hx, hb, hml, hown, hts⟩, hr, hlocks⟩ := C0
  intro n
  induction n with
  | zero =>
    intro x1 x3 x4 J ls H locs hf hl hP hS
    rw [f_J7_fill_d0a16_6] at hf
    cases hf
  | succ n ih =>
    intro x1 x3 x4 J ls H locs hf hl hP hS
    rw [f_J7_fill_d0a16_6] at hf
    refine lv_iload_n hx hb dJ7_fill_d0a16_6 rfl (lv_at hl 2 rfl) ?_
    refine lv_iload hx hb dJ7_fill_d0a16_7 (lv_at hl 3 rfl) ?_
    refine lv_icmp_ge (tgt := 22) hx hb dJ7_fill_d0a16_9 (by decide) (fun cc => ?_) (fun cc => ?_)
    · have hf := (if_ok hf).1 cc
      have e9 := Option.some.inj hf
      have eJ9 : J = Je := e9
      exact W.vret hx hb hr (fun t ht _ => ⟨⟨(), rfl, trivial, by show qP D _ ad _ _ _ t.heap; rw [ht, ← eJ9]; exact hP⟩, hS.F ht⟩) hS.2.2 dJ7_fill_d0a16_22
    · have hf := (if_ok hf).2 cc
      refine lv_aload_n hx hb dJ7_fill_d0a16_12 rfl (lv_at hl 0 rfl) ?_
      refine lv_iload_n hx hb dJ7_fill_d0a16_13 rfl (lv_at hl 2 rfl) ?_
      refine lv_lload_n hx hb dJ7_fill_d0a16_14 rfl (lv_at hl 1 rfl) ?_
      obtain ⟨g1, hf⟩ := gd_ok hf
      obtain ⟨J2, eJ2, hf⟩ := lt_ok hf
      refine q_last hx hb hK hP hN hS zk0 g1 dJ7_fill_d0a16_15 (fun H locs hP hS => ?_)
      have hP : qP D S ad ee I J2 H := by rw [eJ2]; exact hP
      refine lv_iinc (v := (x3 + (1 : Int32))) (lv' := [(3, .int (x3 + (1 : Int32))), (0, .ref (ad k0)), (1, .long x1), (4, .int x4)]) hx hb dJ7_fill_d0a16_16 hl (k := 2) rfl rfl (by decide) rfl (fun ls hl => ?_)
      refine lv_goto (tgt := 6) hx hb dJ7_fill_d0a16_19 (by decide) ?_
      exact ih x1 (x3 + (1 : Int32)) x4 J2 _ _ _ hf (lv_sub hl [1, 2, 0, 3] rfl) hP hS
set_option maxHeartbeats 4000000 in
set_option maxRecDepth 100000 in
theorem c_J7_fill_d0a16 (l : Launch) {D : va_G} {ad : Nat → Nat} {cy : Nat → ClassId} {sa va : Nat → Nat} {I : qI} {J : qJ} {S : Nat → Prop} {ee : qE} (k0 : Nat) (n0 : Nat) (zk0 : qAJ S ee cy k0 n0) (p1 : Int64) {Je : qJ} (hf : f_J7_fill_d0a16 k0 n0 p1 J = some Je) : Met l yJ7_fill_d0a16 wsJ7_fill_d0a16 r_J7_fill_d0a16 (va_Pc [.ref (ad k0), .long p1] (qPre D S ad cy sa va ee I J)) (va_Qv (S := Unit) (fun _ => True) (fun _ t => qP D S ad ee I Je t.heap) (qA S ad)) 0 0 (qA S ad) := by
  refine Met.ofW (cc := cJ7_fill_d0a16) (maxL := 5) (ret := none) (by decide) rfl ?_
  intro p e s m args below meth c s₁ B hml hv
  obtain ⟨rfl, hP, hK, hE, hN⟩ := hv
  have C : qC p s m _ meth c cJ7_fill_d0a16 5 RJ7 wsJ7_fill_d0a16 none := ⟨⟨B.exec, B.bytes, hml, findClass_of_methodNamed B.named, atoms_spec (ws := wsJ7_fill_d0a16) B.pre⟩, B.returns, B.notSynchronized⟩
  have C0 := C
  obtain ⟨⟨hx, hb, hml, hown, hts⟩, hr, hlocks⟩ := C0
  have hS : va_S (qA S ad) s.heap s.heap [] := va_S.rf
  have hl := lv_entry ([.ref (ad k0), .long p1]) (n := 5) (Nat.le_of_ble_eq_true rfl)
  rw [lg_entry_eq]
  generalize (lg_sl ([.ref (ad k0), .long p1]) ++ List.replicate (5 - (lg_sl ([.ref (ad k0), .long p1])).length) Slot.unset).toArray = ls at hl ⊢
  have hl : lv_has ls 5 [(0, .ref (ad k0)), (1, .long p1)] := hl
  unfold f_J7_fill_d0a16 at hf
  refine lv_iconst (v := 0) hx hb dJ7_fill_d0a16_0 (by decide) ?_
  refine lv_istore_n (lv' := [(3, .int (0 : Int32)), (0, .ref (ad k0)), (1, .long p1)]) hx hb dJ7_fill_d0a16_1 rfl hl (by decide) rfl (fun ls hl => ?_)
  refine lv_aload_n hx hb dJ7_fill_d0a16_2 rfl (lv_at hl 1 rfl) ?_
  refine q_alenJ (v := (Int32.ofNat n0)) hx hb hK hP zk0 rfl dJ7_fill_d0a16_3 ?_
  refine lv_istore (lv' := [(4, .int (Int32.ofNat n0)), (3, .int (0 : Int32)), (0, .ref (ad k0)), (1, .long p1)]) hx hb dJ7_fill_d0a16_4 hl (by decide) rfl (fun ls hl => ?_)
  exact w_J7_fill_d0a16_6 C hK hE hN k0 n0 zk0  1000 p1 (0 : Int32) (Int32.ofNat n0) J _ _ _ hf (lv_sub hl [2, 3, 1, 0] rfl) hP hS
abbrev r_X6_takeRow : Room := { frames := 1, cells := 0, slots := 0, locals := 24 }
theorem in_X6_takeRow_X6 : ∀ w ∈ u_ws RX6 TX6 3, w ∈ wsX6_takeRow := by decide +kernel
set_option maxHeartbeats 4000000 in
set_option maxRecDepth 100000 in
theorem c_X6_takeRow (l : Launch) {D : va_G} {ad : Nat → Nat} {cy : Nat → ClassId} {sa va : Nat → Nat} {I : qI} {J : qJ} (k : Nat) (zk : isSh k) (p0 : Int32) (p1 : Int32) {Ie : qI} {Je : qJ} (hf : f_X6_takeRow k p0 p1 I J = some (Ie, Je)) : Met l yX6_takeRow wsX6_takeRow r_X6_takeRow (va_Pc [.ref (ad k), .int p0, .int p1] (qPre D xS ad cy sa va (eX ad cy) I J)) (va_Qv (S := Unit) (fun _ => True) (fun _ t => qP D xS ad (eX ad cy) Ie Je t.heap) (qA xS ad)) 0 0 (qA xS ad) := by
  refine Met.ofW (cc := cX6_takeRow) (maxL := 3) (ret := none) (by decide) rfl ?_
  intro p e s m args below meth c s₁ B hml hv
  obtain ⟨rfl, hP, hK, hE, hN⟩ := hv
  have C : qC p s m _ meth c cX6_takeRow 3 RX6 wsX6_takeRow none := ⟨⟨B.exec, B.bytes, hml, findClass_of_methodNamed B.named, atoms_spec (ws := wsX6_takeRow) B.pre⟩, B.returns, B.notSynchronized⟩
  have C0 := C
  obtain ⟨⟨hx, hb, hml, hown, hts⟩, hr, hlocks⟩ := C0
  have hS : va_S (qA xS ad) s.heap s.heap [] := va_S.rf
  have hl := lv_entry ([.ref (ad k), .int p0, .int p1]) (n := 3) (Nat.le_of_ble_eq_true rfl)
  rw [lg_entry_eq]
  generalize (lg_sl ([.ref (ad k), .int p0, .int p1]) ++ List.replicate (3 - (lg_sl ([.ref (ad k), .int p0, .int p1])).length) Slot.unset).toArray = ls at hl ⊢
  have hl : lv_has ls 3 [(0, .ref (ad k)), (1, .int p0), (2, .int p1)] := hl
  unfold f_X6_takeRow at hf
  refine lv_aload_n hx hb dX6_takeRow_0 rfl (lv_at hl 0 rfl) ?_
  refine q_get (C := RX6) (T := TX6) (N := 3) (ci := 6) (v := .ref (ad (k + 1))) hx hb hts in_X6_takeRow_X6 hown hK hP (oX6 zk) rfl 0 (by decide) (hts (.fieldLink RX6 9 "RowsOnlyPrimes$Shelf" "elements" "[J") (by decide +kernel)) (fun _ h9 => h9) rfl dX6_takeRow_1 ?_
  refine lv_lconst (v := 0) hx hb dX6_takeRow_4 (by decide) ?_
  obtain ⟨J1, h2, hf⟩ := bd_ok hf
  refine q_cEv (va_runS (As := [.ref (ad (k + 1)), .long (0 : Int64)]) (rest := []) ⟨hx, hb, hml, hown, hts⟩ (c_J7_fill_d0a16 l (S := xS) (ee := (eX ad cy)) (D := D) (ad := ad) (cy := cy) (sa := sa) (va := va) (I := I) (J := J) (k + 1) 40 (aX6_1 zk) (0 : Int64) h2) (va_cwS 2 hts gX6_takeRow_J7_fill_d0a16 rfl rfl rfl (by decide +kernel) ⟨Nat.le_of_ble_eq_true rfl, Nat.le_of_ble_eq_true rfl⟩) ⟨qPre_blind _, fun U hU hW => ⟨rfl, qPre_of hP hK hE hN hS U hU hW⟩⟩ rfl rfl hl.1 rfl (lv_room (Nat.le_of_ble_eq_true rfl)) dX6_takeRow_5 ⟨Nat.le_of_ble_eq_true rfl, Nat.le_of_ble_eq_true rfl⟩) hS (fun H locs hP hS => ?_)
  refine lv_aload_n hx hb dX6_takeRow_8 rfl (lv_at hl 0 rfl) ?_
  refine lv_iload_n hx hb dX6_takeRow_9 rfl (lv_at hl 1 rfl) ?_
  obtain ⟨I3, eI3, hf⟩ := lt_ok hf
  refine q_put (C := RX6) (T := TX6) (N := 3) (ci := 6) (v := .int p0) (x := p0) (ty := .int) hx hb hts in_X6_takeRow_X6 tyX6 tyX6_ok nmX6 hown hK hP hN hS (oX6 zk) rfl 1 (by decide) (hts (.fieldLink RX6 15 "RowsOnlyPrimes$Shelf" "content" "I") (by decide +kernel)) (fun _ h9 => h9) rfl (by decide +kernel) rfl rfl (fun _ _ => rfl) (fun _ _ => Nat.le_of_ble_eq_true rfl) dX6_takeRow_10 (fun H locs hP hS => ?_)
  rw [← eI3] at hP
  refine lv_aload_n hx hb dX6_takeRow_13 rfl (lv_at hl 0 rfl) ?_
  refine lv_iload_n hx hb dX6_takeRow_14 rfl (lv_at hl 2 rfl) ?_
  obtain ⟨I4, eI4, hf⟩ := lt_ok hf
  refine q_put (C := RX6) (T := TX6) (N := 3) (ci := 6) (v := .int p1) (x := p1) (ty := .int) hx hb hts in_X6_takeRow_X6 tyX6 tyX6_ok nmX6 hown hK hP hN hS (oX6 zk) rfl 2 (by decide) (hts (.fieldLink RX6 29 "RowsOnlyPrimes$Shelf" "length" "I") (by decide +kernel)) (fun _ h9 => h9) rfl (by decide +kernel) rfl rfl (fun _ _ => rfl) (fun _ _ => Nat.le_of_ble_eq_true rfl) dX6_takeRow_15 (fun H locs hP hS => ?_)
  rw [← eI4] at hP
  have e9 := Option.some.inj hf
  have eI9 : I4 = Ie := (congrArg Prod.fst e9)
  have eJ9 : J1 = Je := (congrArg Prod.snd e9)
  exact W.vret hx hb hr (fun t ht _ => ⟨⟨(), rfl, trivial, by show qP D _ ad _ _ _ t.heap; rw [ht, ← eI9, ← eJ9]; exact hP⟩, hS.F ht⟩) hS.2.2 dX6_takeRow_18
abbrev r_X6_takeParty : Room := { frames := 0, cells := 0, slots := 0, locals := 0 }
theorem in_X6_takeParty_X6 : ∀ w ∈ u_ws RX6 TX6 3, w ∈ wsX6_takeParty := by decide +kernel
set_option maxHeartbeats 4000000 in
set_option maxRecDepth 100000 in
theorem w_X6_takeParty_14 (C : qC p s m args meth c cX6_takeParty 2 RX6 wsX6_takeParty none) (hK : qK D cy sa s) (hE : qEnv sa va (qA xS ad) s s.heap) (hN : qN xS ad) (k : Nat) (zk : isSh k) {J : qJ} {Ie : qI} : ∀ (xs0 : Int32)  (I : qI) (ls : Array Slot) (H : Heap) (locs : List Loc), f_X6_takeParty_14 k xs0 I = some Ie → lv_has ls 2 [] → qP D xS ad (eX ad cy) I J H → va_S (qA xS ad) s.heap H locs → W p l e (headSpec wsX6_takeParty r_X6_takeParty).room s m args below meth c H locs 0 0 (MQ below (va_Qv (S := Unit) (fun _ => True) (fun _ t => qP D xS ad (eX ad cy) Ie J t.heap) (qA xS ad)) args s 0 0 (qA xS ad)) (F0 m 14 ls [.int xs0, .ref (ad k)]) := by
  have C0 := C
  obtain ⟨⟨hx, hb, hml, hown, hts⟩, hr, hlocks⟩ := C0
  intro xs0 I ls H locs hf hl hP hS
  unfold f_X6_takeParty_14 at hf
  obtain ⟨I1, eI1, hf⟩ := lt_ok hf
  refine q_put (C := RX6) (T := TX6) (N := 3) (ci := 6) (v := .int xs0) (x := xs0) (ty := .int) hx hb hts in_X6_takeParty_X6 tyX6 tyX6_ok nmX6 hown hK hP hN hS (oX6 zk) rfl 1 (by decide) (hts (.fieldLink RX6 15 "RowsOnlyPrimes$Shelf" "content" "I") (by decide +kernel)) (fun _ h9 => h9) rfl (by decide +kernel) rfl rfl (fun _ _ => rfl) (fun _ _ => Nat.le_of_ble_eq_true rfl) dX6_takeParty_14 (fun H locs hP hS => ?_)
  rw [← eI1] at hP
  have e9 := Option.some.inj hf
  have eI9 : I1 = Ie := e9
  exact W.vret hx hb hr (fun t ht _ => ⟨⟨(), rfl, trivial, by show qP D _ ad _ _ _ t.heap; rw [ht, ← eI9]; exact hP⟩, hS.F ht⟩) hS.2.2 dX6_takeParty_17
set_option maxHeartbeats 4000000 in
set_option maxRecDepth 100000 in
theorem c_X6_takeParty (l : Launch) {D : va_G} {ad : Nat → Nat} {cy : Nat → ClassId} {sa va : Nat → Nat} {I : qI} {J : qJ} (k : Nat) (zk : isSh k) (p0 : Int32) {Ie : qI} (hf : f_X6_takeParty k p0 I = some Ie) : Met l yX6_takeParty wsX6_takeParty r_X6_takeParty (va_Pc [.ref (ad k), .int p0] (qPre D xS ad cy sa va (eX ad cy) I J)) (va_Qv (S := Unit) (fun _ => True) (fun _ t => qP D xS ad (eX ad cy) Ie J t.heap) (qA xS ad)) 0 0 (qA xS ad) := by
  refine Met.ofW (cc := cX6_takeParty) (maxL := 2) (ret := none) (by decide) rfl ?_
  intro p e s m args below meth c s₁ B hml hv
  obtain ⟨rfl, hP, hK, hE, hN⟩ := hv
  have C : qC p s m _ meth c cX6_takeParty 2 RX6 wsX6_takeParty none := ⟨⟨B.exec, B.bytes, hml, findClass_of_methodNamed B.named, atoms_spec (ws := wsX6_takeParty) B.pre⟩, B.returns, B.notSynchronized⟩
  have C0 := C
  obtain ⟨⟨hx, hb, hml, hown, hts⟩, hr, hlocks⟩ := C0
  have hS : va_S (qA xS ad) s.heap s.heap [] := va_S.rf
  have hl := lv_entry ([.ref (ad k), .int p0]) (n := 2) (Nat.le_of_ble_eq_true rfl)
  rw [lg_entry_eq]
  generalize (lg_sl ([.ref (ad k), .int p0]) ++ List.replicate (2 - (lg_sl ([.ref (ad k), .int p0])).length) Slot.unset).toArray = ls at hl ⊢
  have hl : lv_has ls 2 [(0, .ref (ad k)), (1, .int p0)] := hl
  unfold f_X6_takeParty at hf
  refine lv_aload_n hx hb dX6_takeParty_0 rfl (lv_at hl 0 rfl) ?_
  refine lv_iload_n hx hb dX6_takeParty_1 rfl (lv_at hl 1 rfl) ?_
  refine lv_iconst (v := -1) hx hb dX6_takeParty_2 (by decide) ?_
  refine lv_icmp_ne (tgt := 10) hx hb dX6_takeParty_3 (by decide) (fun cc => ?_) (fun cc => ?_)
  · have hf := (if_ok hf).2 cc
    refine lv_bipush (v := 10) hx hb dX6_takeParty_10 (by decide) ?_
    refine lv_iload_n hx hb dX6_takeParty_12 rfl (lv_at hl 1 rfl) ?_
    refine lv_iadd hx hb dX6_takeParty_13 ?_
    exact w_X6_takeParty_14 C hK hE hN k zk   ((10 : Int32) + p0) I _ _ _ hf (lv_sub hl [] rfl) hP hS
  · have hf := (if_ok hf).1 cc
    refine lv_iconst (v := -1) hx hb dX6_takeParty_6 (by decide) ?_
    refine lv_goto (tgt := 14) hx hb dX6_takeParty_7 (by decide) ?_
    exact w_X6_takeParty_14 C hK hE hN k zk   (-1 : Int32) I _ _ _ hf (lv_sub hl [] rfl) hP hS
abbrev r_X6_narrowed : Room := { frames := 0, cells := 0, slots := 0, locals := 0 }
theorem in_X6_narrowed_X6 : ∀ w ∈ u_ws RX6 TX6 3, w ∈ wsX6_narrowed := by decide +kernel
set_option maxHeartbeats 4000000 in
set_option maxRecDepth 100000 in
theorem c_X6_narrowed (l : Launch) {D : va_G} {ad : Nat → Nat} {cy : Nat → ClassId} {sa va : Nat → Nat} {I : qI} {J : qJ} (k : Nat) (zk : isSh k) (p0 : Int64) {r : Int64} (hf : f_X6_narrowed k p0 I = some r) : Met l yX6_narrowed wsX6_narrowed r_X6_narrowed (va_Pc [.ref (ad k), .long p0] (qPre D xS ad cy sa va (eX ad cy) I J)) (vp_Sl (fun x => x = r)) 0 0 (fun _ => False) := by
  refine Met.ofW (cc := cX6_narrowed) (maxL := 3) (ret := (some .long)) (by decide) rfl ?_
  intro p e s m args below meth c s₁ B hml hv
  obtain ⟨rfl, hP, hK, hE, hN⟩ := hv
  have C : qC p s m _ meth c cX6_narrowed 3 RX6 wsX6_narrowed (some .long) := ⟨⟨B.exec, B.bytes, hml, findClass_of_methodNamed B.named, atoms_spec (ws := wsX6_narrowed) B.pre⟩, B.returns, B.notSynchronized⟩
  have C0 := C
  obtain ⟨⟨hx, hb, hml, hown, hts⟩, hr, hlocks⟩ := C0
  have hl := lv_entry ([.ref (ad k), .long p0]) (n := 3) (Nat.le_of_ble_eq_true rfl)
  rw [lg_entry_eq]
  generalize (lg_sl ([.ref (ad k), .long p0]) ++ List.replicate (3 - (lg_sl ([.ref (ad k), .long p0])).length) Slot.unset).toArray = ls at hl ⊢
  have hl : lv_has ls 3 [(0, .ref (ad k)), (1, .long p0)] := hl
  unfold f_X6_narrowed at hf
  refine lv_aload_n hx hb dX6_narrowed_0 rfl (lv_at hl 0 rfl) ?_
  refine q_get (C := RX6) (T := TX6) (N := 3) (ci := 6) (v := .int (I k 1)) hx hb hts in_X6_narrowed_X6 hown hK hP (oX6 zk) rfl 1 (by decide) (hts (.fieldLink RX6 15 "RowsOnlyPrimes$Shelf" "content" "I") (by decide +kernel)) (fun _ h9 => h9) rfl dX6_narrowed_1 ?_
  by_cases c1 : (I k 1) = (0 : Int32)
  · have hf := (if_ok hf).1 c1
    refine lv_tableIn (off := 36) (tgt := 40) hx hb dX6_narrowed_4 (by rw [c1]; decide) (by rw [c1]; decide) (by rw [c1]; rfl) (by decide) ?_
    refine lv_lload_n hx hb dX6_narrowed_40 rfl (lv_at hl 1 rfl) ?_
    refine lv_l2i hx hb dX6_narrowed_41 rfl ?_
    refine lv_i2b hx hb dX6_narrowed_42 rfl ?_
    refine lv_i2l hx hb dX6_narrowed_43 rfl ?_
    exact W.lret hx hb hr (fun t ht _ => ⟨_, rfl, Option.some.inj hf, ht⟩) (fun _ h => by cases h) dX6_narrowed_44
  have hf := (if_ok hf).2 c1
  by_cases c2 : (I k 1) = (1 : Int32)
  · have hf := (if_ok hf).1 c2
    refine lv_tableIn (off := 41) (tgt := 45) hx hb dX6_narrowed_4 (by rw [c2]; decide) (by rw [c2]; decide) (by rw [c2]; rfl) (by decide) ?_
    refine lv_lload_n hx hb dX6_narrowed_45 rfl (lv_at hl 1 rfl) ?_
    refine lv_l2i hx hb dX6_narrowed_46 rfl ?_
    refine lv_i2s hx hb dX6_narrowed_47 rfl ?_
    refine lv_i2l hx hb dX6_narrowed_48 rfl ?_
    exact W.lret hx hb hr (fun t ht _ => ⟨_, rfl, Option.some.inj hf, ht⟩) (fun _ h => by cases h) dX6_narrowed_49
  have hf := (if_ok hf).2 c2
  by_cases c3 : (I k 1) = (2 : Int32)
  · have hf := (if_ok hf).1 c3
    refine lv_tableIn (off := 46) (tgt := 50) hx hb dX6_narrowed_4 (by rw [c3]; decide) (by rw [c3]; decide) (by rw [c3]; rfl) (by decide) ?_
    refine lv_lload_n hx hb dX6_narrowed_50 rfl (lv_at hl 1 rfl) ?_
    refine lv_l2i hx hb dX6_narrowed_51 rfl ?_
    refine lv_i2l hx hb dX6_narrowed_52 rfl ?_
    exact W.lret hx hb hr (fun t ht _ => ⟨_, rfl, Option.some.inj hf, ht⟩) (fun _ h => by cases h) dX6_narrowed_53
  have hf := (if_ok hf).2 c3
  by_cases c4 : (I k 1) = (3 : Int32)
  · have hf := (if_ok hf).1 c4
    refine lv_tableIn (off := 62) (tgt := 66) hx hb dX6_narrowed_4 (by rw [c4]; decide) (by rw [c4]; decide) (by rw [c4]; rfl) (by decide) ?_
    refine lv_lload_n hx hb dX6_narrowed_66 rfl (lv_at hl 1 rfl) ?_
    exact W.lret hx hb hr (fun t ht _ => ⟨_, rfl, Option.some.inj hf, ht⟩) (fun _ h => by cases h) dX6_narrowed_67
  have hf := (if_ok hf).2 c4
  by_cases c5 : (I k 1) = (4 : Int32)
  · have hf := (if_ok hf).1 c5
    refine lv_tableIn (off := 50) (tgt := 54) hx hb dX6_narrowed_4 (by rw [c5]; decide) (by rw [c5]; decide) (by rw [c5]; rfl) (by decide) ?_
    refine lv_lload_n hx hb dX6_narrowed_54 rfl (lv_at hl 1 rfl) ?_
    refine lv_lconst (v := 0) hx hb dX6_narrowed_55 (by decide) ?_
    refine W.lcmp hx hb dX6_narrowed_56 ?_
    refine lv_if_eq (tgt := 64) hx hb dX6_narrowed_57 (by decide) (fun cc => ?_) (fun cc => ?_)
    · have hf := (if_ok hf).1 cc
      refine lv_lconst (v := 0) hx hb dX6_narrowed_64 (by decide) ?_
      exact W.lret hx hb hr (fun t ht _ => ⟨_, rfl, Option.some.inj hf, ht⟩) (fun _ h => by cases h) dX6_narrowed_65
    · have hf := (if_ok hf).2 cc
      refine lv_lconst (v := 1) hx hb dX6_narrowed_60 (by decide) ?_
      refine lv_goto (tgt := 65) hx hb dX6_narrowed_61 (by decide) ?_
      exact W.lret hx hb hr (fun t ht _ => ⟨_, rfl, Option.some.inj hf, ht⟩) (fun _ h => by cases h) dX6_narrowed_65
  have hf := (if_ok hf).2 c5
  refine lv_tableOut (tgt := 66) hx hb dX6_narrowed_4 (by have c1 := q_nt c1 (show ((0 : Int32)).toInt = 0 by decide); have c2 := q_nt c2 (show ((1 : Int32)).toInt = 1 by decide); have c3 := q_nt c3 (show ((2 : Int32)).toInt = 2 by decide); have c4 := q_nt c4 (show ((3 : Int32)).toInt = 3 by decide); have c5 := q_nt c5 (show ((4 : Int32)).toInt = 4 by decide); omega) (by decide) ?_
  refine lv_lload_n hx hb dX6_narrowed_66 rfl (lv_at hl 1 rfl) ?_
  exact W.lret hx hb hr (fun t ht _ => ⟨_, rfl, Option.some.inj hf, ht⟩) (fun _ h => by cases h) dX6_narrowed_67
abbrev r_X6_put : Room := { frames := 3, cells := 0, slots := 0, locals := 64 }
theorem in_X6_put_X6 : ∀ w ∈ u_ws RX6 TX6 3, w ∈ wsX6_put := by decide +kernel
set_option maxHeartbeats 4000000 in
set_option maxRecDepth 100000 in
theorem c_X6_put (l : Launch) {D : va_G} {ad : Nat → Nat} {cy : Nat → ClassId} {sa va : Nat → Nat} {I : qI} {J : qJ} (k : Nat) (zk : isSh k) (p0 : Int32) (p1 : Int64) {Je : qJ} (hf : f_X6_put k p0 p1 I J = some Je) : Met l yX6_put wsX6_put r_X6_put (va_Pc [.ref (ad k), .int p0, .long p1] (qPre D xS ad cy sa va (eX ad cy) I J)) (va_Qv (S := Unit) (fun _ => True) (fun _ t => qP D xS ad (eX ad cy) I Je t.heap) (qA xS ad)) 0 0 (qA xS ad) := by
  refine Met.ofW (cc := cX6_put) (maxL := 4) (ret := none) (by decide) rfl ?_
  intro p e s m args below meth c s₁ B hml hv
  obtain ⟨rfl, hP, hK, hE, hN⟩ := hv
  have C : qC p s m _ meth c cX6_put 4 RX6 wsX6_put none := ⟨⟨B.exec, B.bytes, hml, findClass_of_methodNamed B.named, atoms_spec (ws := wsX6_put) B.pre⟩, B.returns, B.notSynchronized⟩
  have C0 := C
  obtain ⟨⟨hx, hb, hml, hown, hts⟩, hr, hlocks⟩ := C0
  have hS : va_S (qA xS ad) s.heap s.heap [] := va_S.rf
  have hl := lv_entry ([.ref (ad k), .int p0, .long p1]) (n := 4) (Nat.le_of_ble_eq_true rfl)
  rw [lg_entry_eq]
  generalize (lg_sl ([.ref (ad k), .int p0, .long p1]) ++ List.replicate (4 - (lg_sl ([.ref (ad k), .int p0, .long p1])).length) Slot.unset).toArray = ls at hl ⊢
  have hl : lv_has ls 4 [(0, .ref (ad k)), (1, .int p0), (2, .long p1)] := hl
  unfold f_X6_put at hf
  refine lv_aload_n hx hb dX6_put_0 rfl (lv_at hl 0 rfl) ?_
  refine lv_iload_n hx hb dX6_put_1 rfl (lv_at hl 1 rfl) ?_
  refine lv_iconst (v := 1) hx hb dX6_put_2 (by decide) ?_
  obtain ⟨v1, h2, hf⟩ := bd_ok hf
  refine q_cSi (va_runV (As := [.int p0, .int (1 : Int32)]) (rest := []) ⟨hx, hb, hml, hown, hts⟩ (c_X6_hasPlaces l (D := D) (ad := ad) (cy := cy) (sa := sa) (va := va) (I := I) (J := J) k zk p0 (1 : Int32) h2) (cwV 2 hts gX6_put_X6_hasPlaces rfl rfl rfl (by decide +kernel) ⟨Nat.le_of_ble_eq_true rfl, Nat.le_of_ble_eq_true rfl⟩) ⟨qPre_blind _, q_recv hK hP (oX6 zk) rfl, fun U hU hW => ⟨rfl, qPre_of hP hK hE hN hS U hU hW⟩⟩ rfl rfl hl.1 rfl (lv_room (Nat.le_of_ble_eq_true rfl)) dX6_put_3 ⟨Nat.le_of_ble_eq_true rfl, Nat.le_of_ble_eq_true rfl⟩) ?_
  refine lv_if_eq (tgt := 20) hx hb dX6_put_6 (by decide) (fun cc => ?_) (fun cc => ?_)
  · have hf := (if_ok hf).1 cc
    have e9 := Option.some.inj hf
    have eJ9 : J = Je := e9
    exact W.vret hx hb hr (fun t ht _ => ⟨⟨(), rfl, trivial, by show qP D _ ad _ _ _ t.heap; rw [ht, ← eJ9]; exact hP⟩, hS.F ht⟩) hS.2.2 dX6_put_20
  · have hf := (if_ok hf).2 cc
    refine lv_aload_n hx hb dX6_put_9 rfl (lv_at hl 0 rfl) ?_
    refine q_get (C := RX6) (T := TX6) (N := 3) (ci := 6) (v := .ref (ad (k + 1))) hx hb hts in_X6_put_X6 hown hK hP (oX6 zk) rfl 0 (by decide) (hts (.fieldLink RX6 9 "RowsOnlyPrimes$Shelf" "elements" "[J") (by decide +kernel)) (fun _ h9 => h9) rfl dX6_put_10 ?_
    refine lv_iload_n hx hb dX6_put_13 rfl (lv_at hl 1 rfl) ?_
    refine lv_aload_n hx hb dX6_put_14 rfl (lv_at hl 0 rfl) ?_
    refine lv_lload_n hx hb dX6_put_15 rfl (lv_at hl 2 rfl) ?_
    obtain ⟨v3, h4, hf⟩ := bd_ok hf
    refine q_cSl (va_runV (As := [.long p1]) (rest := [.int p0, .ref (ad (k + 1))]) ⟨hx, hb, hml, hown, hts⟩ (c_X6_narrowed l (D := D) (ad := ad) (cy := cy) (sa := sa) (va := va) (I := I) (J := J) k zk p1 h4) (cwV 1 hts gX6_put_X6_narrowed rfl rfl rfl (by decide +kernel) ⟨Nat.le_of_ble_eq_true rfl, Nat.le_of_ble_eq_true rfl⟩) ⟨qPre_blind _, q_recv hK hP (oX6 zk) rfl, fun U hU hW => ⟨rfl, qPre_of hP hK hE hN hS U hU hW⟩⟩ rfl rfl hl.1 rfl (lv_room (Nat.le_of_ble_eq_true rfl)) dX6_put_16 ⟨Nat.le_of_ble_eq_true rfl, Nat.le_of_ble_eq_true rfl⟩) ?_
    obtain ⟨g5, hf⟩ := gd_ok hf
    obtain ⟨J6, eJ6, hf⟩ := lt_ok hf
    refine q_last hx hb hK hP hN hS (aX6_1 zk) g5 dX6_put_19 (fun H locs hP hS => ?_)
    have hP : qP D xS ad (eX ad cy) I J6 H := by rw [eJ6]; exact hP
    have e9 := Option.some.inj hf
    have eJ9 : J6 = Je := e9
    exact W.vret hx hb hr (fun t ht _ => ⟨⟨(), rfl, trivial, by show qP D _ ad _ _ _ t.heap; rw [ht, ← eJ9]; exact hP⟩, hS.F ht⟩) hS.2.2 dX6_put_20
abbrev r_X7_append : Room := { frames := 1, cells := 0, slots := 0, locals := 22 }
theorem in_X7_append_X7 : ∀ w ∈ u_ws RX7 TX7 6, w ∈ wsX7_append := by decide +kernel
set_option maxHeartbeats 4000000 in
set_option maxRecDepth 100000 in
theorem c_X7_append (l : Launch) {D : va_G} {ad : Nat → Nat} {cy : Nat → ClassId} {sa va : Nat → Nat} {I : qI} {J : qJ}   (p0 : Int32) {r : Int32} {Ie : qI} (hf : f_X7_append p0 I = some (r, Ie)) : Met l yX7_append wsX7_append r_X7_append (va_Pc [.ref (ad 25), .int p0] (qPre D xS ad cy sa va (eX ad cy) I J)) (va_Qi (S := Unit) (fun x _ => x = r) (fun _ t => qP D xS ad (eX ad cy) Ie J t.heap) (qA xS ad)) 0 0 (qA xS ad) := by
  refine Met.ofW (cc := cX7_append) (maxL := 2) (ret := (some .boolean)) (by decide) rfl ?_
  intro p e s m args below meth c s₁ B hml hv
  obtain ⟨rfl, hP, hK, hE, hN⟩ := hv
  have C : qC p s m _ meth c cX7_append 2 RX7 wsX7_append (some .boolean) := ⟨⟨B.exec, B.bytes, hml, findClass_of_methodNamed B.named, atoms_spec (ws := wsX7_append) B.pre⟩, B.returns, B.notSynchronized⟩
  have C0 := C
  obtain ⟨⟨hx, hb, hml, hown, hts⟩, hr, hlocks⟩ := C0
  have hS : va_S (qA xS ad) s.heap s.heap [] := va_S.rf
  have hl := lv_entry ([.ref (ad 25), .int p0]) (n := 2) (Nat.le_of_ble_eq_true rfl)
  rw [lg_entry_eq]
  generalize (lg_sl ([.ref (ad 25), .int p0]) ++ List.replicate (2 - (lg_sl ([.ref (ad 25), .int p0])).length) Slot.unset).toArray = ls at hl ⊢
  have hl : lv_has ls 2 [(0, .ref (ad 25)), (1, .int p0)] := hl
  unfold f_X7_append at hf
  refine lv_aload_n hx hb dX7_append_0 rfl (lv_at hl 0 rfl) ?_
  refine q_get (C := RX7) (T := TX7) (N := 6) (ci := 7) (v := .int (I 25 1)) hx hb hts in_X7_append_X7 hown hK hP oX7 rfl 1 (by decide) (hts (.fieldLink RX7 15 "RowsOnlyPrimes$Tape" "length" "I") (by decide +kernel)) (fun _ h9 => h9) rfl dX7_append_1 ?_
  refine lv_iconst (v := 0) hx hb dX7_append_4 (by decide) ?_
  refine lv_sipush (v := 249) hx hb dX7_append_5 (by decide) ?_
  obtain ⟨v1, h2, hf⟩ := bd_ok hf
  refine q_cSi (va_runSN (host := RX8) (As := [.int (I 25 1), .int (0 : Int32), .int (249 : Int32)]) (rest := []) ⟨hx, hb, hml, hown, hts⟩ (c_X8_within l (D := D) (ad := ad) (cy := cy) (sa := sa) (va := va) (I := I) (J := J) (I 25 1) (0 : Int32) (249 : Int32) h2) ⟨va_cnB 3 hts gX7_append_X8_within_n19 rfl rfl rfl (hK.2.1.2.1.2.2.2) (hts (.initialized RX8) (by decide +kernel)) (by decide +kernel) ⟨Nat.le_of_ble_eq_true rfl, Nat.le_of_ble_eq_true rfl⟩, (hts (.static yX8_within) (by decide +kernel)), trivial⟩ ⟨qPre_blind _, fun U hU hW => ⟨rfl, qPre_of hP hK hE hN hS U hU hW⟩⟩ rfl rfl hl.1 rfl (lv_room (Nat.le_of_ble_eq_true rfl)) dX7_append_8 ⟨Nat.le_of_ble_eq_true rfl, Nat.le_of_ble_eq_true rfl⟩) ?_
  refine lv_if_ne (tgt := 16) hx hb dX7_append_11 (by decide) (fun cc => ?_) (fun cc => ?_)
  · have hf := (if_ok hf).2 cc
    refine lv_aload_n hx hb dX7_append_16 rfl (lv_at hl 0 rfl) ?_
    refine q_get (C := RX7) (T := TX7) (N := 6) (ci := 7) (v := .ref (ad 26)) hx hb hts in_X7_append_X7 hown hK hP oX7 rfl 0 (by decide) (hts (.fieldLink RX7 9 "RowsOnlyPrimes$Tape" "bytes" "[I") (by decide +kernel)) (fun _ h9 => h9) rfl dX7_append_17 ?_
    refine lv_aload_n hx hb dX7_append_20 rfl (lv_at hl 0 rfl) ?_
    refine q_get (C := RX7) (T := TX7) (N := 6) (ci := 7) (v := .int (I 25 1)) hx hb hts in_X7_append_X7 hown hK hP oX7 rfl 1 (by decide) (hts (.fieldLink RX7 15 "RowsOnlyPrimes$Tape" "length" "I") (by decide +kernel)) (fun _ h9 => h9) rfl dX7_append_21 ?_
    refine lv_iload_n hx hb dX7_append_24 rfl (lv_at hl 1 rfl) ?_
    obtain ⟨g3, hf⟩ := gd_ok hf
    obtain ⟨I4, eI4, hf⟩ := lt_ok hf
    refine q_iast hx hb hK hP hN hS aX7_1 g3 dX7_append_25 (fun H locs hP hS => ?_)
    have hP : qP D xS ad (eX ad cy) I4 J H := by rw [eI4]; exact hP
    refine lv_aload_n hx hb dX7_append_26 rfl (lv_at hl 0 rfl) ?_
    refine lv_dup hx hb dX7_append_27 rfl ?_
    refine q_get (C := RX7) (T := TX7) (N := 6) (ci := 7) (v := .int (I4 25 1)) hx hb hts in_X7_append_X7 hown hK hP oX7 rfl 1 (by decide) (hts (.fieldLink RX7 15 "RowsOnlyPrimes$Tape" "length" "I") (by decide +kernel)) (fun _ h9 => h9) rfl dX7_append_28 ?_
    refine lv_iconst (v := 1) hx hb dX7_append_31 (by decide) ?_
    refine lv_iadd hx hb dX7_append_32 ?_
    obtain ⟨I5, eI5, hf⟩ := lt_ok hf
    refine q_put (C := RX7) (T := TX7) (N := 6) (ci := 7) (v := .int ((I4 25 1) + (1 : Int32))) (x := ((I4 25 1) + (1 : Int32))) (ty := .int) hx hb hts in_X7_append_X7 tyX7 tyX7_ok nmX7 hown hK hP hN hS oX7 rfl 1 (by decide) (hts (.fieldLink RX7 15 "RowsOnlyPrimes$Tape" "length" "I") (by decide +kernel)) (fun _ h9 => h9) rfl (by decide +kernel) rfl rfl (fun _ _ => rfl) (fun _ _ => Nat.le_of_ble_eq_true rfl) dX7_append_33 (fun H locs hP hS => ?_)
    rw [← eI5] at hP
    refine lv_iconst (v := 1) hx hb dX7_append_36 (by decide) ?_
    have e9 := Option.some.inj hf
    have eI9 : I5 = Ie := (congrArg Prod.snd e9)
    exact W.zret (ty := .boolean) hx hb hr rfl (fun t ht _ => ⟨⟨_, (), rfl, (congrArg Prod.fst e9), by show qP D _ ad _ _ _ t.heap; rw [ht, ← eI9]; exact hP⟩, hS.F ht⟩) hS.2.2 dX7_append_37
  · have hf := (if_ok hf).1 cc
    refine lv_iconst (v := 0) hx hb dX7_append_14 (by decide) ?_
    have e9 := Option.some.inj hf
    have eI9 : I = Ie := (congrArg Prod.snd e9)
    exact W.zret (ty := .boolean) hx hb hr rfl (fun t ht _ => ⟨⟨_, (), rfl, (congrArg Prod.fst e9), by show qP D _ ad _ _ _ t.heap; rw [ht, ← eI9]; exact hP⟩, hS.F ht⟩) hS.2.2 dX7_append_15
abbrev r_X7_tokenAt : Room := { frames := 1, cells := 0, slots := 0, locals := 22 }
theorem in_X7_tokenAt_X7 : ∀ w ∈ u_ws RX7 TX7 6, w ∈ wsX7_tokenAt := by decide +kernel
set_option maxHeartbeats 4000000 in
set_option maxRecDepth 100000 in
theorem c_X7_tokenAt (l : Launch) {D : va_G} {ad : Nat → Nat} {cy : Nat → ClassId} {sa va : Nat → Nat} {I : qI} {J : qJ}   (p0 : Int32) {r : Int32} (hf : f_X7_tokenAt p0 I = some r) : Met l yX7_tokenAt wsX7_tokenAt r_X7_tokenAt (va_Pc [.ref (ad 25), .int p0] (qPre D xS ad cy sa va (eX ad cy) I J)) (vp_Si (fun x => x = r)) 0 0 (fun _ => False) := by
  refine Met.ofW (cc := cX7_tokenAt) (maxL := 2) (ret := (some .int)) (by decide) rfl ?_
  intro p e s m args below meth c s₁ B hml hv
  obtain ⟨rfl, hP, hK, hE, hN⟩ := hv
  have C : qC p s m _ meth c cX7_tokenAt 2 RX7 wsX7_tokenAt (some .int) := ⟨⟨B.exec, B.bytes, hml, findClass_of_methodNamed B.named, atoms_spec (ws := wsX7_tokenAt) B.pre⟩, B.returns, B.notSynchronized⟩
  have C0 := C
  obtain ⟨⟨hx, hb, hml, hown, hts⟩, hr, hlocks⟩ := C0
  have hl := lv_entry ([.ref (ad 25), .int p0]) (n := 2) (Nat.le_of_ble_eq_true rfl)
  rw [lg_entry_eq]
  generalize (lg_sl ([.ref (ad 25), .int p0]) ++ List.replicate (2 - (lg_sl ([.ref (ad 25), .int p0])).length) Slot.unset).toArray = ls at hl ⊢
  have hl : lv_has ls 2 [(0, .ref (ad 25)), (1, .int p0)] := hl
  unfold f_X7_tokenAt at hf
  refine lv_iload_n hx hb dX7_tokenAt_0 rfl (lv_at hl 1 rfl) ?_
  refine lv_iconst (v := 0) hx hb dX7_tokenAt_1 (by decide) ?_
  refine lv_aload_n hx hb dX7_tokenAt_2 rfl (lv_at hl 0 rfl) ?_
  refine q_get (C := RX7) (T := TX7) (N := 6) (ci := 7) (v := .int (I 25 1)) hx hb hts in_X7_tokenAt_X7 hown hK hP oX7 rfl 1 (by decide) (hts (.fieldLink RX7 15 "RowsOnlyPrimes$Tape" "length" "I") (by decide +kernel)) (fun _ h9 => h9) rfl dX7_tokenAt_3 ?_
  refine lv_iconst (v := 1) hx hb dX7_tokenAt_6 (by decide) ?_
  refine lv_isub hx hb dX7_tokenAt_7 ?_
  obtain ⟨v1, h2, hf⟩ := bd_ok hf
  refine q_cSi (va_runSN (host := RX8) (As := [.int p0, .int (0 : Int32), .int ((I 25 1) - (1 : Int32))]) (rest := []) ⟨hx, hb, hml, hown, hts⟩ (c_X8_within l (D := D) (ad := ad) (cy := cy) (sa := sa) (va := va) (I := I) (J := J) p0 (0 : Int32) ((I 25 1) - (1 : Int32)) h2) ⟨va_cnB 3 hts gX7_tokenAt_X8_within_n19 rfl rfl rfl (hK.2.1.2.1.2.2.2) (hts (.initialized RX8) (by decide +kernel)) (by decide +kernel) ⟨Nat.le_of_ble_eq_true rfl, Nat.le_of_ble_eq_true rfl⟩, (hts (.static yX8_within) (by decide +kernel)), trivial⟩ ⟨qPre_blind _, fun U hU hW => ⟨rfl, qPre_of hP hK hE hN va_S.rf U hU hW⟩⟩ rfl rfl hl.1 rfl (lv_room (Nat.le_of_ble_eq_true rfl)) dX7_tokenAt_8 ⟨Nat.le_of_ble_eq_true rfl, Nat.le_of_ble_eq_true rfl⟩) ?_
  refine lv_if_ne (tgt := 16) hx hb dX7_tokenAt_11 (by decide) (fun cc => ?_) (fun cc => ?_)
  · have hf := (if_ok hf).2 cc
    refine lv_aload_n hx hb dX7_tokenAt_16 rfl (lv_at hl 0 rfl) ?_
    refine q_get (C := RX7) (T := TX7) (N := 6) (ci := 7) (v := .ref (ad 26)) hx hb hts in_X7_tokenAt_X7 hown hK hP oX7 rfl 0 (by decide) (hts (.fieldLink RX7 9 "RowsOnlyPrimes$Tape" "bytes" "[I") (by decide +kernel)) (fun _ h9 => h9) rfl dX7_tokenAt_17 ?_
    refine lv_iload_n hx hb dX7_tokenAt_20 rfl (lv_at hl 1 rfl) ?_
    obtain ⟨g3, hf⟩ := gd_ok hf
    refine q_iald hx hb hK hP aX7_1 g3 dX7_tokenAt_21 ?_
    refine lv_bipush (v := 97) hx hb dX7_tokenAt_22 (by decide) ?_
    refine lv_bipush (v := 122) hx hb dX7_tokenAt_24 (by decide) ?_
    obtain ⟨v4, h5, hf⟩ := bd_ok hf
    refine q_cSi (va_runSN (host := RX8) (As := [.int (I 26 p0.toNatClampNeg), .int (97 : Int32), .int (122 : Int32)]) (rest := []) ⟨hx, hb, hml, hown, hts⟩ (c_X8_within l (D := D) (ad := ad) (cy := cy) (sa := sa) (va := va) (I := I) (J := J) (I 26 p0.toNatClampNeg) (97 : Int32) (122 : Int32) h5) ⟨va_cnB 3 hts gX7_tokenAt_X8_within_n19 rfl rfl rfl (hK.2.1.2.1.2.2.2) (hts (.initialized RX8) (by decide +kernel)) (by decide +kernel) ⟨Nat.le_of_ble_eq_true rfl, Nat.le_of_ble_eq_true rfl⟩, (hts (.static yX8_within) (by decide +kernel)), trivial⟩ ⟨qPre_blind _, fun U hU hW => ⟨rfl, qPre_of hP hK hE hN va_S.rf U hU hW⟩⟩ rfl rfl hl.1 rfl (lv_room (Nat.le_of_ble_eq_true rfl)) dX7_tokenAt_26 ⟨Nat.le_of_ble_eq_true rfl, Nat.le_of_ble_eq_true rfl⟩) ?_
    refine lv_if_eq (tgt := 34) hx hb dX7_tokenAt_29 (by decide) (fun cc => ?_) (fun cc => ?_)
    · have hf := (if_ok hf).1 cc
      refine lv_aload_n hx hb dX7_tokenAt_34 rfl (lv_at hl 0 rfl) ?_
      refine q_get (C := RX7) (T := TX7) (N := 6) (ci := 7) (v := .ref (ad 26)) hx hb hts in_X7_tokenAt_X7 hown hK hP oX7 rfl 0 (by decide) (hts (.fieldLink RX7 9 "RowsOnlyPrimes$Tape" "bytes" "[I") (by decide +kernel)) (fun _ h9 => h9) rfl dX7_tokenAt_35 ?_
      refine lv_iload_n hx hb dX7_tokenAt_38 rfl (lv_at hl 1 rfl) ?_
      obtain ⟨g6, hf⟩ := gd_ok hf
      refine q_iald hx hb hK hP aX7_1 g6 dX7_tokenAt_39 ?_
      refine lv_bipush (v := 48) hx hb dX7_tokenAt_40 (by decide) ?_
      refine lv_bipush (v := 57) hx hb dX7_tokenAt_42 (by decide) ?_
      obtain ⟨v7, h8, hf⟩ := bd_ok hf
      refine q_cSi (va_runSN (host := RX8) (As := [.int (I 26 p0.toNatClampNeg), .int (48 : Int32), .int (57 : Int32)]) (rest := []) ⟨hx, hb, hml, hown, hts⟩ (c_X8_within l (D := D) (ad := ad) (cy := cy) (sa := sa) (va := va) (I := I) (J := J) (I 26 p0.toNatClampNeg) (48 : Int32) (57 : Int32) h8) ⟨va_cnB 3 hts gX7_tokenAt_X8_within_n19 rfl rfl rfl (hK.2.1.2.1.2.2.2) (hts (.initialized RX8) (by decide +kernel)) (by decide +kernel) ⟨Nat.le_of_ble_eq_true rfl, Nat.le_of_ble_eq_true rfl⟩, (hts (.static yX8_within) (by decide +kernel)), trivial⟩ ⟨qPre_blind _, fun U hU hW => ⟨rfl, qPre_of hP hK hE hN va_S.rf U hU hW⟩⟩ rfl rfl hl.1 rfl (lv_room (Nat.le_of_ble_eq_true rfl)) dX7_tokenAt_44 ⟨Nat.le_of_ble_eq_true rfl, Nat.le_of_ble_eq_true rfl⟩) ?_
      refine lv_if_eq (tgt := 52) hx hb dX7_tokenAt_47 (by decide) (fun cc => ?_) (fun cc => ?_)
      · have hf := (if_ok hf).1 cc
        refine lv_aload_n hx hb dX7_tokenAt_52 rfl (lv_at hl 0 rfl) ?_
        refine q_get (C := RX7) (T := TX7) (N := 6) (ci := 7) (v := .ref (ad 26)) hx hb hts in_X7_tokenAt_X7 hown hK hP oX7 rfl 0 (by decide) (hts (.fieldLink RX7 9 "RowsOnlyPrimes$Tape" "bytes" "[I") (by decide +kernel)) (fun _ h9 => h9) rfl dX7_tokenAt_53 ?_
        refine lv_iload_n hx hb dX7_tokenAt_56 rfl (lv_at hl 1 rfl) ?_
        obtain ⟨g9, hf⟩ := gd_ok hf
        refine q_iald hx hb hK hP aX7_1 g9 dX7_tokenAt_57 ?_
        refine lv_bipush (v := 59) hx hb dX7_tokenAt_58 (by decide) ?_
        refine lv_icmp_ne (tgt := 67) hx hb dX7_tokenAt_60 (by decide) (fun cc => ?_) (fun cc => ?_)
        · have hf := (if_ok hf).2 cc
          refine lv_iconst (v := 4) hx hb dX7_tokenAt_67 (by decide) ?_
          exact W.iret hx hb hr (fun t ht _ => ⟨_, rfl, Option.some.inj hf, ht⟩) (fun _ h => by cases h) dX7_tokenAt_68
        · have hf := (if_ok hf).1 cc
          refine lv_iconst (v := 3) hx hb dX7_tokenAt_63 (by decide) ?_
          refine lv_goto (tgt := 68) hx hb dX7_tokenAt_64 (by decide) ?_
          exact W.iret hx hb hr (fun t ht _ => ⟨_, rfl, Option.some.inj hf, ht⟩) (fun _ h => by cases h) dX7_tokenAt_68
      · have hf := (if_ok hf).2 cc
        refine lv_iconst (v := 2) hx hb dX7_tokenAt_50 (by decide) ?_
        exact W.iret hx hb hr (fun t ht _ => ⟨_, rfl, Option.some.inj hf, ht⟩) (fun _ h => by cases h) dX7_tokenAt_51
    · have hf := (if_ok hf).2 cc
      refine lv_iconst (v := 1) hx hb dX7_tokenAt_32 (by decide) ?_
      exact W.iret hx hb hr (fun t ht _ => ⟨_, rfl, Option.some.inj hf, ht⟩) (fun _ h => by cases h) dX7_tokenAt_33
  · have hf := (if_ok hf).1 cc
    refine lv_iconst (v := 0) hx hb dX7_tokenAt_14 (by decide) ?_
    exact W.iret hx hb hr (fun t ht _ => ⟨_, rfl, Option.some.inj hf, ht⟩) (fun _ h => by cases h) dX7_tokenAt_15
abbrev r_X7_step : Room := { frames := 2, cells := 0, slots := 0, locals := 43 }
theorem in_X7_step_X7 : ∀ w ∈ u_ws RX7 TX7 6, w ∈ wsX7_step := by decide +kernel
set_option maxHeartbeats 4000000 in
set_option maxRecDepth 100000 in
theorem w_X7_step_100 (C : qC p s m args meth c cX7_step 1 RX7 wsX7_step none) (hK : qK D cy sa s) (hE : qEnv sa va (qA xS ad) s s.heap) (hN : qN xS ad)   {J : qJ} {Ie : qI} (k84 : qI → Option qI) (hk84 : ∀   (I : qI) (ls : Array Slot) (H : Heap) (locs : List Loc), k84 I = some Ie → lv_has ls 1 [(0, .ref (ad 25))] → qP D xS ad (eX ad cy) I J H → va_S (qA xS ad) s.heap H locs → W p l e (headSpec wsX7_step r_X7_step).room s m args below meth c H locs 0 0 (MQ below (va_Qv (S := Unit) (fun _ => True) (fun _ t => qP D xS ad (eX ad cy) Ie J t.heap) (qA xS ad)) args s 0 0 (qA xS ad)) (F0 m 84 ls [])) : ∀   (I : qI) (ls : Array Slot) (H : Heap) (locs : List Loc), f_X7_step_100 k84 I = some Ie → lv_has ls 1 [(0, .ref (ad 25))] → qP D xS ad (eX ad cy) I J H → va_S (qA xS ad) s.heap H locs → W p l e (headSpec wsX7_step r_X7_step).room s m args below meth c H locs 0 0 (MQ below (va_Qv (S := Unit) (fun _ => True) (fun _ t => qP D xS ad (eX ad cy) Ie J t.heap) (qA xS ad)) args s 0 0 (qA xS ad)) (F0 m 100 ls []) := by
  have C0 := C
  obtain ⟨⟨hx, hb, hml, hown, hts⟩, hr, hlocks⟩ := C0
  intro I ls H locs hf hl hP hS
  unfold f_X7_step_100 at hf
  refine lv_aload_n hx hb dX7_step_100 rfl (lv_at hl 0 rfl) ?_
  refine q_get (C := RX7) (T := TX7) (N := 6) (ci := 7) (v := .int (I 25 3)) hx hb hts in_X7_step_X7 hown hK hP oX7 rfl 3 (by decide) (hts (.fieldLink RX7 23 "RowsOnlyPrimes$Tape" "end" "I") (by decide +kernel)) (fun _ h9 => h9) rfl dX7_step_101 ?_
  refine lv_aload_n hx hb dX7_step_104 rfl (lv_at hl 0 rfl) ?_
  refine q_get (C := RX7) (T := TX7) (N := 6) (ci := 7) (v := .int (I 25 1)) hx hb hts in_X7_step_X7 hown hK hP oX7 rfl 1 (by decide) (hts (.fieldLink RX7 15 "RowsOnlyPrimes$Tape" "length" "I") (by decide +kernel)) (fun _ h9 => h9) rfl dX7_step_105 ?_
  refine lv_icmp_ge (tgt := 139) hx hb dX7_step_108 (by decide) (fun cc => ?_) (fun cc => ?_)
  · have hf := (if_ok hf).1 cc
    have e9 := Option.some.inj hf
    have eI9 : I = Ie := e9
    exact W.vret hx hb hr (fun t ht _ => ⟨⟨(), rfl, trivial, by show qP D _ ad _ _ _ t.heap; rw [ht, ← eI9]; exact hP⟩, hS.F ht⟩) hS.2.2 dX7_step_139
  · have hf := (if_ok hf).2 cc
    refine lv_aload_n hx hb dX7_step_111 rfl (lv_at hl 0 rfl) ?_
    refine lv_aload_n hx hb dX7_step_112 rfl (lv_at hl 0 rfl) ?_
    refine q_get (C := RX7) (T := TX7) (N := 6) (ci := 7) (v := .int (I 25 3)) hx hb hts in_X7_step_X7 hown hK hP oX7 rfl 3 (by decide) (hts (.fieldLink RX7 23 "RowsOnlyPrimes$Tape" "end" "I") (by decide +kernel)) (fun _ h9 => h9) rfl dX7_step_113 ?_
    obtain ⟨v1, h2, hf⟩ := bd_ok hf
    refine q_cSi (va_runV (As := [.int (I 25 3)]) (rest := []) ⟨hx, hb, hml, hown, hts⟩ (c_X7_tokenAt l (D := D) (ad := ad) (cy := cy) (sa := sa) (va := va) (I := I) (J := J) (I 25 3) h2) (cwV 1 hts gX7_step_X7_tokenAt rfl rfl rfl (by decide +kernel) ⟨Nat.le_of_ble_eq_true rfl, Nat.le_of_ble_eq_true rfl⟩) ⟨qPre_blind _, q_recv hK hP oX7 rfl, fun U hU hW => ⟨rfl, qPre_of hP hK hE hN hS U hU hW⟩⟩ rfl rfl hl.1 rfl (lv_room (Nat.le_of_ble_eq_true rfl)) dX7_step_116 ⟨Nat.le_of_ble_eq_true rfl, Nat.le_of_ble_eq_true rfl⟩) ?_
    refine lv_aload_n hx hb dX7_step_119 rfl (lv_at hl 0 rfl) ?_
    refine q_get (C := RX7) (T := TX7) (N := 6) (ci := 7) (v := .int (I 25 4)) hx hb hts in_X7_step_X7 hown hK hP oX7 rfl 4 (by decide) (hts (.fieldLink RX7 37 "RowsOnlyPrimes$Tape" "token" "I") (by decide +kernel)) (fun _ h9 => h9) rfl dX7_step_120 ?_
    refine lv_icmp_ne (tgt := 139) hx hb dX7_step_123 (by decide) (fun cc => ?_) (fun cc => ?_)
    · have hf := (if_ok hf).2 cc
      have e9 := Option.some.inj hf
      have eI9 : I = Ie := e9
      exact W.vret hx hb hr (fun t ht _ => ⟨⟨(), rfl, trivial, by show qP D _ ad _ _ _ t.heap; rw [ht, ← eI9]; exact hP⟩, hS.F ht⟩) hS.2.2 dX7_step_139
    · have hf := (if_ok hf).1 cc
      refine lv_aload_n hx hb dX7_step_126 rfl (lv_at hl 0 rfl) ?_
      refine lv_dup hx hb dX7_step_127 rfl ?_
      refine q_get (C := RX7) (T := TX7) (N := 6) (ci := 7) (v := .int (I 25 3)) hx hb hts in_X7_step_X7 hown hK hP oX7 rfl 3 (by decide) (hts (.fieldLink RX7 23 "RowsOnlyPrimes$Tape" "end" "I") (by decide +kernel)) (fun _ h9 => h9) rfl dX7_step_128 ?_
      refine lv_iconst (v := 1) hx hb dX7_step_131 (by decide) ?_
      refine lv_iadd hx hb dX7_step_132 ?_
      obtain ⟨I3, eI3, hf⟩ := lt_ok hf
      refine q_put (C := RX7) (T := TX7) (N := 6) (ci := 7) (v := .int ((I 25 3) + (1 : Int32))) (x := ((I 25 3) + (1 : Int32))) (ty := .int) hx hb hts in_X7_step_X7 tyX7 tyX7_ok nmX7 hown hK hP hN hS oX7 rfl 3 (by decide) (hts (.fieldLink RX7 23 "RowsOnlyPrimes$Tape" "end" "I") (by decide +kernel)) (fun _ h9 => h9) rfl (by decide +kernel) rfl rfl (fun _ _ => rfl) (fun _ _ => Nat.le_of_ble_eq_true rfl) dX7_step_133 (fun H locs hP hS => ?_)
      rw [← eI3] at hP
      refine lv_goto (tgt := 84) hx hb dX7_step_136 (by decide) ?_
      exact hk84 I3 _ _ _ hf (lv_sub hl [0] rfl) hP hS
set_option maxHeartbeats 4000000 in
set_option maxRecDepth 100000 in
theorem w_X7_step_84 (C : qC p s m args meth c cX7_step 1 RX7 wsX7_step none) (hK : qK D cy sa s) (hE : qEnv sa va (qA xS ad) s s.heap) (hN : qN xS ad)   {J : qJ} {Ie : qI} : ∀ (n : Nat)   (I : qI) (ls : Array Slot) (H : Heap) (locs : List Loc), f_X7_step_84 n I = some Ie → lv_has ls 1 [(0, .ref (ad 25))] → qP D xS ad (eX ad cy) I J H → va_S (qA xS ad) s.heap H locs → W p l e (headSpec wsX7_step r_X7_step).room s m args below meth c H locs 0 0 (MQ below (va_Qv (S := Unit) (fun _ => True) (fun _ t => qP D xS ad (eX ad cy) Ie J t.heap) (qA xS ad)) args s 0 0 (qA xS ad)) (F0 m 84 ls []) := by
  have C0 := C
  obtain ⟨⟨hx, hb, hml, hown, hts⟩, hr, hlocks⟩ := C0
  intro n
  induction n with
  | zero =>
    intro I ls H locs hf hl hP hS
    rw [f_X7_step_84] at hf
    cases hf
  | succ n ih =>
    intro I ls H locs hf hl hP hS
    rw [f_X7_step_84] at hf
    refine lv_aload_n hx hb dX7_step_84 rfl (lv_at hl 0 rfl) ?_
    refine q_get (C := RX7) (T := TX7) (N := 6) (ci := 7) (v := .int (I 25 4)) hx hb hts in_X7_step_X7 hown hK hP oX7 rfl 4 (by decide) (hts (.fieldLink RX7 37 "RowsOnlyPrimes$Tape" "token" "I") (by decide +kernel)) (fun _ h9 => h9) rfl dX7_step_85 ?_
    refine lv_iconst (v := 1) hx hb dX7_step_88 (by decide) ?_
    refine lv_icmp_eq (tgt := 100) hx hb dX7_step_89 (by decide) (fun cc => ?_) (fun cc => ?_)
    · have hf := (if_ok hf).1 cc
      exact w_X7_step_100 C hK hE hN  (f_X7_step_84 n) ih  I _ _ _ hf (lv_sub hl [0] rfl) hP hS
    · have hf := (if_ok hf).2 cc
      refine lv_aload_n hx hb dX7_step_92 rfl (lv_at hl 0 rfl) ?_
      refine q_get (C := RX7) (T := TX7) (N := 6) (ci := 7) (v := .int (I 25 4)) hx hb hts in_X7_step_X7 hown hK hP oX7 rfl 4 (by decide) (hts (.fieldLink RX7 37 "RowsOnlyPrimes$Tape" "token" "I") (by decide +kernel)) (fun _ h9 => h9) rfl dX7_step_93 ?_
      refine lv_iconst (v := 2) hx hb dX7_step_96 (by decide) ?_
      refine lv_icmp_ne (tgt := 139) hx hb dX7_step_97 (by decide) (fun cc => ?_) (fun cc => ?_)
      · have hf := (if_ok hf).2 cc
        have e9 := Option.some.inj hf
        have eI9 : I = Ie := e9
        exact W.vret hx hb hr (fun t ht _ => ⟨⟨(), rfl, trivial, by show qP D _ ad _ _ _ t.heap; rw [ht, ← eI9]; exact hP⟩, hS.F ht⟩) hS.2.2 dX7_step_139
      · have hf := (if_ok hf).1 cc
        exact w_X7_step_100 C hK hE hN  (f_X7_step_84 n) ih  I _ _ _ hf (lv_sub hl [0] rfl) hP hS
set_option maxHeartbeats 4000000 in
set_option maxRecDepth 100000 in
theorem w_X7_step_46 (C : qC p s m args meth c cX7_step 1 RX7 wsX7_step none) (hK : qK D cy sa s) (hE : qEnv sa va (qA xS ad) s s.heap) (hN : qN xS ad)   {J : qJ} {Ie : qI} : ∀   (I : qI) (ls : Array Slot) (H : Heap) (locs : List Loc), f_X7_step_46 I = some Ie → lv_has ls 1 [(0, .ref (ad 25))] → qP D xS ad (eX ad cy) I J H → va_S (qA xS ad) s.heap H locs → W p l e (headSpec wsX7_step r_X7_step).room s m args below meth c H locs 0 0 (MQ below (va_Qv (S := Unit) (fun _ => True) (fun _ t => qP D xS ad (eX ad cy) Ie J t.heap) (qA xS ad)) args s 0 0 (qA xS ad)) (F0 m 46 ls []) := by
  have C0 := C
  obtain ⟨⟨hx, hb, hml, hown, hts⟩, hr, hlocks⟩ := C0
  intro I ls H locs hf hl hP hS
  unfold f_X7_step_46 at hf
  refine lv_aload_n hx hb dX7_step_46 rfl (lv_at hl 0 rfl) ?_
  refine lv_aload_n hx hb dX7_step_47 rfl (lv_at hl 0 rfl) ?_
  refine q_get (C := RX7) (T := TX7) (N := 6) (ci := 7) (v := .int (I 25 2)) hx hb hts in_X7_step_X7 hown hK hP oX7 rfl 2 (by decide) (hts (.fieldLink RX7 102 "RowsOnlyPrimes$Tape" "place" "I") (by decide +kernel)) (fun _ h9 => h9) rfl dX7_step_48 ?_
  obtain ⟨I1, eI1, hf⟩ := lt_ok hf
  refine q_put (C := RX7) (T := TX7) (N := 6) (ci := 7) (v := .int (I 25 2)) (x := (I 25 2)) (ty := .int) hx hb hts in_X7_step_X7 tyX7 tyX7_ok nmX7 hown hK hP hN hS oX7 rfl 3 (by decide) (hts (.fieldLink RX7 23 "RowsOnlyPrimes$Tape" "end" "I") (by decide +kernel)) (fun _ h9 => h9) rfl (by decide +kernel) rfl rfl (fun _ _ => rfl) (fun _ _ => Nat.le_of_ble_eq_true rfl) dX7_step_51 (fun H locs hP hS => ?_)
  rw [← eI1] at hP
  refine lv_aload_n hx hb dX7_step_54 rfl (lv_at hl 0 rfl) ?_
  refine lv_aload_n hx hb dX7_step_55 rfl (lv_at hl 0 rfl) ?_
  refine lv_aload_n hx hb dX7_step_56 rfl (lv_at hl 0 rfl) ?_
  refine q_get (C := RX7) (T := TX7) (N := 6) (ci := 7) (v := .int (I1 25 2)) hx hb hts in_X7_step_X7 hown hK hP oX7 rfl 2 (by decide) (hts (.fieldLink RX7 102 "RowsOnlyPrimes$Tape" "place" "I") (by decide +kernel)) (fun _ h9 => h9) rfl dX7_step_57 ?_
  obtain ⟨v2, h3, hf⟩ := bd_ok hf
  refine q_cSi (va_runV (As := [.int (I1 25 2)]) (rest := [.ref (ad 25)]) ⟨hx, hb, hml, hown, hts⟩ (c_X7_tokenAt l (D := D) (ad := ad) (cy := cy) (sa := sa) (va := va) (I := I1) (J := J) (I1 25 2) h3) (cwV 1 hts gX7_step_X7_tokenAt rfl rfl rfl (by decide +kernel) ⟨Nat.le_of_ble_eq_true rfl, Nat.le_of_ble_eq_true rfl⟩) ⟨qPre_blind _, q_recv hK hP oX7 rfl, fun U hU hW => ⟨rfl, qPre_of hP hK hE hN hS U hU hW⟩⟩ rfl rfl hl.1 rfl (lv_room (Nat.le_of_ble_eq_true rfl)) dX7_step_60 ⟨Nat.le_of_ble_eq_true rfl, Nat.le_of_ble_eq_true rfl⟩) ?_
  obtain ⟨I4, eI4, hf⟩ := lt_ok hf
  refine q_put (C := RX7) (T := TX7) (N := 6) (ci := 7) (v := .int v2) (x := v2) (ty := .int) hx hb hts in_X7_step_X7 tyX7 tyX7_ok nmX7 hown hK hP hN hS oX7 rfl 4 (by decide) (hts (.fieldLink RX7 37 "RowsOnlyPrimes$Tape" "token" "I") (by decide +kernel)) (fun _ h9 => h9) rfl (by decide +kernel) rfl rfl (fun _ _ => rfl) (fun _ _ => Nat.le_of_ble_eq_true rfl) dX7_step_63 (fun H locs hP hS => ?_)
  rw [← eI4] at hP
  refine lv_aload_n hx hb dX7_step_66 rfl (lv_at hl 0 rfl) ?_
  refine q_get (C := RX7) (T := TX7) (N := 6) (ci := 7) (v := .int (I4 25 4)) hx hb hts in_X7_step_X7 hown hK hP oX7 rfl 4 (by decide) (hts (.fieldLink RX7 37 "RowsOnlyPrimes$Tape" "token" "I") (by decide +kernel)) (fun _ h9 => h9) rfl dX7_step_67 ?_
  refine lv_iconst (v := 3) hx hb dX7_step_70 (by decide) ?_
  refine lv_icmp_ne (tgt := 84) hx hb dX7_step_71 (by decide) (fun cc => ?_) (fun cc => ?_)
  · have hf := (if_ok hf).2 cc
    exact w_X7_step_84 C hK hE hN   1000 I4 _ _ _ hf (lv_sub hl [0] rfl) hP hS
  · have hf := (if_ok hf).1 cc
    refine lv_aload_n hx hb dX7_step_74 rfl (lv_at hl 0 rfl) ?_
    refine lv_dup hx hb dX7_step_75 rfl ?_
    refine q_get (C := RX7) (T := TX7) (N := 6) (ci := 7) (v := .int (I4 25 3)) hx hb hts in_X7_step_X7 hown hK hP oX7 rfl 3 (by decide) (hts (.fieldLink RX7 23 "RowsOnlyPrimes$Tape" "end" "I") (by decide +kernel)) (fun _ h9 => h9) rfl dX7_step_76 ?_
    refine lv_iconst (v := 1) hx hb dX7_step_79 (by decide) ?_
    refine lv_iadd hx hb dX7_step_80 ?_
    obtain ⟨I5, eI5, hf⟩ := lt_ok hf
    refine q_put (C := RX7) (T := TX7) (N := 6) (ci := 7) (v := .int ((I4 25 3) + (1 : Int32))) (x := ((I4 25 3) + (1 : Int32))) (ty := .int) hx hb hts in_X7_step_X7 tyX7 tyX7_ok nmX7 hown hK hP hN hS oX7 rfl 3 (by decide) (hts (.fieldLink RX7 23 "RowsOnlyPrimes$Tape" "end" "I") (by decide +kernel)) (fun _ h9 => h9) rfl (by decide +kernel) rfl rfl (fun _ _ => rfl) (fun _ _ => Nat.le_of_ble_eq_true rfl) dX7_step_81 (fun H locs hP hS => ?_)
    rw [← eI5] at hP
    exact w_X7_step_84 C hK hE hN   1000 I5 _ _ _ hf (lv_sub hl [0] rfl) hP hS
set_option maxHeartbeats 4000000 in
set_option maxRecDepth 100000 in
theorem w_X7_step_8 (C : qC p s m args meth c cX7_step 1 RX7 wsX7_step none) (hK : qK D cy sa s) (hE : qEnv sa va (qA xS ad) s s.heap) (hN : qN xS ad)   {J : qJ} {Ie : qI} : ∀ (n : Nat)   (I : qI) (ls : Array Slot) (H : Heap) (locs : List Loc), f_X7_step_8 n I = some Ie → lv_has ls 1 [(0, .ref (ad 25))] → qP D xS ad (eX ad cy) I J H → va_S (qA xS ad) s.heap H locs → W p l e (headSpec wsX7_step r_X7_step).room s m args below meth c H locs 0 0 (MQ below (va_Qv (S := Unit) (fun _ => True) (fun _ t => qP D xS ad (eX ad cy) Ie J t.heap) (qA xS ad)) args s 0 0 (qA xS ad)) (F0 m 8 ls []) := by
  have C0 := C
  obtain ⟨⟨hx, hb, hml, hown, hts⟩, hr, hlocks⟩ := C0
  intro n
  induction n with
  | zero =>
    intro I ls H locs hf hl hP hS
    rw [f_X7_step_8] at hf
    cases hf
  | succ n ih =>
    intro I ls H locs hf hl hP hS
    rw [f_X7_step_8] at hf
    refine lv_aload_n hx hb dX7_step_8 rfl (lv_at hl 0 rfl) ?_
    refine q_get (C := RX7) (T := TX7) (N := 6) (ci := 7) (v := .int (I 25 2)) hx hb hts in_X7_step_X7 hown hK hP oX7 rfl 2 (by decide) (hts (.fieldLink RX7 102 "RowsOnlyPrimes$Tape" "place" "I") (by decide +kernel)) (fun _ h9 => h9) rfl dX7_step_9 ?_
    refine lv_aload_n hx hb dX7_step_12 rfl (lv_at hl 0 rfl) ?_
    refine q_get (C := RX7) (T := TX7) (N := 6) (ci := 7) (v := .int (I 25 1)) hx hb hts in_X7_step_X7 hown hK hP oX7 rfl 1 (by decide) (hts (.fieldLink RX7 15 "RowsOnlyPrimes$Tape" "length" "I") (by decide +kernel)) (fun _ h9 => h9) rfl dX7_step_13 ?_
    refine lv_icmp_ge (tgt := 46) hx hb dX7_step_16 (by decide) (fun cc => ?_) (fun cc => ?_)
    · have hf := (if_ok hf).1 cc
      exact w_X7_step_46 C hK hE hN    I _ _ _ hf (lv_sub hl [0] rfl) hP hS
    · have hf := (if_ok hf).2 cc
      refine lv_aload_n hx hb dX7_step_19 rfl (lv_at hl 0 rfl) ?_
      refine q_get (C := RX7) (T := TX7) (N := 6) (ci := 7) (v := .ref (ad 26)) hx hb hts in_X7_step_X7 hown hK hP oX7 rfl 0 (by decide) (hts (.fieldLink RX7 9 "RowsOnlyPrimes$Tape" "bytes" "[I") (by decide +kernel)) (fun _ h9 => h9) rfl dX7_step_20 ?_
      refine lv_aload_n hx hb dX7_step_23 rfl (lv_at hl 0 rfl) ?_
      refine q_get (C := RX7) (T := TX7) (N := 6) (ci := 7) (v := .int (I 25 2)) hx hb hts in_X7_step_X7 hown hK hP oX7 rfl 2 (by decide) (hts (.fieldLink RX7 102 "RowsOnlyPrimes$Tape" "place" "I") (by decide +kernel)) (fun _ h9 => h9) rfl dX7_step_24 ?_
      obtain ⟨g1, hf⟩ := gd_ok hf
      refine q_iald hx hb hK hP aX7_1 g1 dX7_step_27 ?_
      refine lv_bipush (v := 32) hx hb dX7_step_28 (by decide) ?_
      refine lv_icmp_ne (tgt := 46) hx hb dX7_step_30 (by decide) (fun cc => ?_) (fun cc => ?_)
      · have hf := (if_ok hf).2 cc
        exact w_X7_step_46 C hK hE hN    I _ _ _ hf (lv_sub hl [0] rfl) hP hS
      · have hf := (if_ok hf).1 cc
        refine lv_aload_n hx hb dX7_step_33 rfl (lv_at hl 0 rfl) ?_
        refine lv_dup hx hb dX7_step_34 rfl ?_
        refine q_get (C := RX7) (T := TX7) (N := 6) (ci := 7) (v := .int (I 25 2)) hx hb hts in_X7_step_X7 hown hK hP oX7 rfl 2 (by decide) (hts (.fieldLink RX7 102 "RowsOnlyPrimes$Tape" "place" "I") (by decide +kernel)) (fun _ h9 => h9) rfl dX7_step_35 ?_
        refine lv_iconst (v := 1) hx hb dX7_step_38 (by decide) ?_
        refine lv_iadd hx hb dX7_step_39 ?_
        obtain ⟨I2, eI2, hf⟩ := lt_ok hf
        refine q_put (C := RX7) (T := TX7) (N := 6) (ci := 7) (v := .int ((I 25 2) + (1 : Int32))) (x := ((I 25 2) + (1 : Int32))) (ty := .int) hx hb hts in_X7_step_X7 tyX7 tyX7_ok nmX7 hown hK hP hN hS oX7 rfl 2 (by decide) (hts (.fieldLink RX7 102 "RowsOnlyPrimes$Tape" "place" "I") (by decide +kernel)) (fun _ h9 => h9) rfl (by decide +kernel) rfl rfl (fun _ _ => rfl) (fun _ _ => Nat.le_of_ble_eq_true rfl) dX7_step_40 (fun H locs hP hS => ?_)
        rw [← eI2] at hP
        refine lv_goto (tgt := 8) hx hb dX7_step_43 (by decide) ?_
        exact ih I2 _ _ _ hf (lv_sub hl [0] rfl) hP hS
set_option maxHeartbeats 4000000 in
set_option maxRecDepth 100000 in
theorem c_X7_step (l : Launch) {D : va_G} {ad : Nat → Nat} {cy : Nat → ClassId} {sa va : Nat → Nat} {I : qI} {J : qJ}    {Ie : qI} (hf : f_X7_step I = some Ie) : Met l yX7_step wsX7_step r_X7_step (va_Pc [.ref (ad 25)] (qPre D xS ad cy sa va (eX ad cy) I J)) (va_Qv (S := Unit) (fun _ => True) (fun _ t => qP D xS ad (eX ad cy) Ie J t.heap) (qA xS ad)) 0 0 (qA xS ad) := by
  refine Met.ofW (cc := cX7_step) (maxL := 1) (ret := none) (by decide) rfl ?_
  intro p e s m args below meth c s₁ B hml hv
  obtain ⟨rfl, hP, hK, hE, hN⟩ := hv
  have C : qC p s m _ meth c cX7_step 1 RX7 wsX7_step none := ⟨⟨B.exec, B.bytes, hml, findClass_of_methodNamed B.named, atoms_spec (ws := wsX7_step) B.pre⟩, B.returns, B.notSynchronized⟩
  have C0 := C
  obtain ⟨⟨hx, hb, hml, hown, hts⟩, hr, hlocks⟩ := C0
  have hS : va_S (qA xS ad) s.heap s.heap [] := va_S.rf
  have hl := lv_entry ([.ref (ad 25)]) (n := 1) (Nat.le_of_ble_eq_true rfl)
  rw [lg_entry_eq]
  generalize (lg_sl ([.ref (ad 25)]) ++ List.replicate (1 - (lg_sl ([.ref (ad 25)])).length) Slot.unset).toArray = ls at hl ⊢
  have hl : lv_has ls 1 [(0, .ref (ad 25))] := hl
  unfold f_X7_step at hf
  refine lv_aload_n hx hb dX7_step_0 rfl (lv_at hl 0 rfl) ?_
  refine lv_aload_n hx hb dX7_step_1 rfl (lv_at hl 0 rfl) ?_
  refine q_get (C := RX7) (T := TX7) (N := 6) (ci := 7) (v := .int (I 25 3)) hx hb hts in_X7_step_X7 hown hK hP oX7 rfl 3 (by decide) (hts (.fieldLink RX7 23 "RowsOnlyPrimes$Tape" "end" "I") (by decide +kernel)) (fun _ h9 => h9) rfl dX7_step_2 ?_
  obtain ⟨I1, eI1, hf⟩ := lt_ok hf
  refine q_put (C := RX7) (T := TX7) (N := 6) (ci := 7) (v := .int (I 25 3)) (x := (I 25 3)) (ty := .int) hx hb hts in_X7_step_X7 tyX7 tyX7_ok nmX7 hown hK hP hN hS oX7 rfl 2 (by decide) (hts (.fieldLink RX7 102 "RowsOnlyPrimes$Tape" "place" "I") (by decide +kernel)) (fun _ h9 => h9) rfl (by decide +kernel) rfl rfl (fun _ _ => rfl) (fun _ _ => Nat.le_of_ble_eq_true rfl) dX7_step_5 (fun H locs hP hS => ?_)
  rw [← eI1] at hP
  exact w_X7_step_8 C hK hE hN   1000 I1 _ _ _ hf (lv_sub hl [0] rfl) hP hS
abbrev r_X7_isWord : Room := { frames := 6, cells := 0, slots := 0, locals := 126 }
theorem in_X7_isWord_X7 : ∀ w ∈ u_ws RX7 TX7 6, w ∈ wsX7_isWord := by decide +kernel
set_option maxHeartbeats 4000000 in
set_option maxRecDepth 100000 in
theorem w_X7_isWord_20 (C : qC p s m args meth c cX7_isWord 3 RX7 wsX7_isWord (some .boolean)) (hK : qK D cy sa s) (hE : qEnv sa va (qA xS ad) s s.heap) (hN : qN xS ad) (w0 : Nat) (hw0 : w0 < 9) {I : qI} {J : qJ} (hP : qP D xS ad (eX ad cy) I J s.heap) {r : Int32} : ∀ (n : Nat) (x2 : Int32)  (ls : Array Slot), f_X7_isWord_20 w0 I n x2 = some r → lv_has ls 3 [(0, .ref (ad 25)), (1, .ref (sa w0)), (2, .int x2)] → W p l e (headSpec wsX7_isWord r_X7_isWord).room s m args below meth c s.heap [] 0 0 (MQ below (vp_Si (fun x => x = r)) args s 0 0 (fun _ => False)) (F0 m 20 ls []) := by
  have C0 := C
  obtain ⟨⟨hx, hb, hml, hown, hts⟩, hr, hlocks⟩ := C0
  intro n
  induction n with
  | zero =>
    intro x2 ls hf hl
    rw [f_X7_isWord_20] at hf
    cases hf
  | succ n ih =>
    intro x2 ls hf hl
    rw [f_X7_isWord_20] at hf
    refine lv_iload_n hx hb dX7_isWord_20 rfl (lv_at hl 2 rfl) ?_
    refine lv_aload_n hx hb dX7_isWord_21 rfl (lv_at hl 1 rfl) ?_
    obtain ⟨v1, h2, hf⟩ := bd_ok hf
    refine q_cSi (va_runV (As := []) (rest := [.int x2]) ⟨hx, hb, hml, hown, hts⟩ (c_J0_length_8abf5 l (S := xS) (ee := (eX ad cy)) (D := D) (ad := ad) (cy := cy) (sa := sa) (va := va) (I := I) (J := J) w0 hw0 h2) (cwV 0 hts gX7_isWord_J0_length_8abf5 rfl rfl rfl (by decide +kernel) ⟨Nat.le_of_ble_eq_true rfl, Nat.le_of_ble_eq_true rfl⟩) ⟨qPre_blind _, vk_recv hE.2.1 hw0 va_S.rf, fun U hU hW => ⟨rfl, qPre_of hP hK hE hN va_S.rf U hU hW⟩⟩ rfl rfl hl.1 rfl (lv_room (Nat.le_of_ble_eq_true rfl)) dX7_isWord_22 ⟨Nat.le_of_ble_eq_true rfl, Nat.le_of_ble_eq_true rfl⟩) ?_
    refine lv_icmp_ge (tgt := 55) hx hb dX7_isWord_25 (by decide) (fun cc => ?_) (fun cc => ?_)
    · have hf := (if_ok hf).1 cc
      refine lv_iconst (v := 1) hx hb dX7_isWord_55 (by decide) ?_
      exact W.zret (ty := .boolean) hx hb hr rfl (fun t ht _ => ⟨_, rfl, Option.some.inj hf, ht⟩) (fun _ h => by cases h) dX7_isWord_56
    · have hf := (if_ok hf).2 cc
      refine lv_aload_n hx hb dX7_isWord_28 rfl (lv_at hl 0 rfl) ?_
      refine q_get (C := RX7) (T := TX7) (N := 6) (ci := 7) (v := .ref (ad 26)) hx hb hts in_X7_isWord_X7 hown hK hP oX7 rfl 0 (by decide) (hts (.fieldLink RX7 9 "RowsOnlyPrimes$Tape" "bytes" "[I") (by decide +kernel)) (fun _ h9 => h9) rfl dX7_isWord_29 ?_
      refine lv_aload_n hx hb dX7_isWord_32 rfl (lv_at hl 0 rfl) ?_
      refine q_get (C := RX7) (T := TX7) (N := 6) (ci := 7) (v := .int (I 25 2)) hx hb hts in_X7_isWord_X7 hown hK hP oX7 rfl 2 (by decide) (hts (.fieldLink RX7 102 "RowsOnlyPrimes$Tape" "place" "I") (by decide +kernel)) (fun _ h9 => h9) rfl dX7_isWord_33 ?_
      refine lv_iload_n hx hb dX7_isWord_36 rfl (lv_at hl 2 rfl) ?_
      refine lv_iadd hx hb dX7_isWord_37 ?_
      obtain ⟨g3, hf⟩ := gd_ok hf
      refine q_iald hx hb hK hP aX7_1 g3 dX7_isWord_38 ?_
      refine lv_aload_n hx hb dX7_isWord_39 rfl (lv_at hl 1 rfl) ?_
      refine lv_iload_n hx hb dX7_isWord_40 rfl (lv_at hl 2 rfl) ?_
      obtain ⟨v4, h5, hf⟩ := bd_ok hf
      refine q_cSi (va_runV (As := [.int x2]) (rest := [.int (I 26 ((I 25 2) + x2).toNatClampNeg)]) ⟨hx, hb, hml, hown, hts⟩ (c_J0_charAt_5068e l (S := xS) (ee := (eX ad cy)) (D := D) (ad := ad) (cy := cy) (sa := sa) (va := va) (I := I) (J := J) w0 hw0 x2 h5) (cwV 1 hts gX7_isWord_J0_charAt_5068e rfl rfl rfl (by decide +kernel) ⟨Nat.le_of_ble_eq_true rfl, Nat.le_of_ble_eq_true rfl⟩) ⟨qPre_blind _, vk_recv hE.2.1 hw0 va_S.rf, fun U hU hW => ⟨rfl, qPre_of hP hK hE hN va_S.rf U hU hW⟩⟩ rfl rfl hl.1 rfl (lv_room (Nat.le_of_ble_eq_true rfl)) dX7_isWord_41 ⟨Nat.le_of_ble_eq_true rfl, Nat.le_of_ble_eq_true rfl⟩) ?_
      refine lv_icmp_eq (tgt := 49) hx hb dX7_isWord_44 (by decide) (fun cc => ?_) (fun cc => ?_)
      · have hf := (if_ok hf).1 cc
        refine lv_iinc (v := (x2 + (1 : Int32))) (lv' := [(2, .int (x2 + (1 : Int32))), (0, .ref (ad 25)), (1, .ref (sa w0))]) hx hb dX7_isWord_49 hl (k := 2) rfl rfl (by decide) rfl (fun ls hl => ?_)
        refine lv_goto (tgt := 20) hx hb dX7_isWord_52 (by decide) ?_
        exact ih (x2 + (1 : Int32)) _ hf (lv_sub hl [1, 2, 0] rfl)
      · have hf := (if_ok hf).2 cc
        refine lv_iconst (v := 0) hx hb dX7_isWord_47 (by decide) ?_
        exact W.zret (ty := .boolean) hx hb hr rfl (fun t ht _ => ⟨_, rfl, Option.some.inj hf, ht⟩) (fun _ h => by cases h) dX7_isWord_48
set_option maxHeartbeats 4000000 in
set_option maxRecDepth 100000 in
theorem c_X7_isWord (l : Launch) {D : va_G} {ad : Nat → Nat} {cy : Nat → ClassId} {sa va : Nat → Nat} {I : qI} {J : qJ} (w0 : Nat) (hw0 : w0 < 9)  {r : Int32} (hf : f_X7_isWord w0 I = some r) : Met l yX7_isWord wsX7_isWord r_X7_isWord (va_Pc [.ref (ad 25), .ref (sa w0)] (qPre D xS ad cy sa va (eX ad cy) I J)) (vp_Si (fun x => x = r)) 0 0 (fun _ => False) := by
  refine Met.ofW (cc := cX7_isWord) (maxL := 3) (ret := (some .boolean)) (by decide) rfl ?_
  intro p e s m args below meth c s₁ B hml hv
  obtain ⟨rfl, hP, hK, hE, hN⟩ := hv
  have C : qC p s m _ meth c cX7_isWord 3 RX7 wsX7_isWord (some .boolean) := ⟨⟨B.exec, B.bytes, hml, findClass_of_methodNamed B.named, atoms_spec (ws := wsX7_isWord) B.pre⟩, B.returns, B.notSynchronized⟩
  have C0 := C
  obtain ⟨⟨hx, hb, hml, hown, hts⟩, hr, hlocks⟩ := C0
  have hl := lv_entry ([.ref (ad 25), .ref (sa w0)]) (n := 3) (Nat.le_of_ble_eq_true rfl)
  rw [lg_entry_eq]
  generalize (lg_sl ([.ref (ad 25), .ref (sa w0)]) ++ List.replicate (3 - (lg_sl ([.ref (ad 25), .ref (sa w0)])).length) Slot.unset).toArray = ls at hl ⊢
  have hl : lv_has ls 3 [(0, .ref (ad 25)), (1, .ref (sa w0))] := hl
  unfold f_X7_isWord at hf
  refine lv_aload_n hx hb dX7_isWord_0 rfl (lv_at hl 1 rfl) ?_
  obtain ⟨v1, h2, hf⟩ := bd_ok hf
  refine q_cSi (va_runV (As := []) (rest := []) ⟨hx, hb, hml, hown, hts⟩ (c_J0_length_8abf5 l (S := xS) (ee := (eX ad cy)) (D := D) (ad := ad) (cy := cy) (sa := sa) (va := va) (I := I) (J := J) w0 hw0 h2) (cwV 0 hts gX7_isWord_J0_length_8abf5 rfl rfl rfl (by decide +kernel) ⟨Nat.le_of_ble_eq_true rfl, Nat.le_of_ble_eq_true rfl⟩) ⟨qPre_blind _, vk_recv hE.2.1 hw0 va_S.rf, fun U hU hW => ⟨rfl, qPre_of hP hK hE hN va_S.rf U hU hW⟩⟩ rfl rfl hl.1 rfl (lv_room (Nat.le_of_ble_eq_true rfl)) dX7_isWord_1 ⟨Nat.le_of_ble_eq_true rfl, Nat.le_of_ble_eq_true rfl⟩) ?_
  refine lv_aload_n hx hb dX7_isWord_4 rfl (lv_at hl 0 rfl) ?_
  refine q_get (C := RX7) (T := TX7) (N := 6) (ci := 7) (v := .int (I 25 3)) hx hb hts in_X7_isWord_X7 hown hK hP oX7 rfl 3 (by decide) (hts (.fieldLink RX7 23 "RowsOnlyPrimes$Tape" "end" "I") (by decide +kernel)) (fun _ h9 => h9) rfl dX7_isWord_5 ?_
  refine lv_aload_n hx hb dX7_isWord_8 rfl (lv_at hl 0 rfl) ?_
  refine q_get (C := RX7) (T := TX7) (N := 6) (ci := 7) (v := .int (I 25 2)) hx hb hts in_X7_isWord_X7 hown hK hP oX7 rfl 2 (by decide) (hts (.fieldLink RX7 102 "RowsOnlyPrimes$Tape" "place" "I") (by decide +kernel)) (fun _ h9 => h9) rfl dX7_isWord_9 ?_
  refine lv_isub hx hb dX7_isWord_12 ?_
  refine lv_icmp_eq (tgt := 18) hx hb dX7_isWord_13 (by decide) (fun cc => ?_) (fun cc => ?_)
  · have hf := (if_ok hf).1 cc
    refine lv_iconst (v := 0) hx hb dX7_isWord_18 (by decide) ?_
    refine lv_istore_n (lv' := [(2, .int (0 : Int32)), (0, .ref (ad 25)), (1, .ref (sa w0))]) hx hb dX7_isWord_19 rfl hl (by decide) rfl (fun ls hl => ?_)
    exact w_X7_isWord_20 C hK hE hN w0 hw0 hP  1000 (0 : Int32) _ hf (lv_sub hl [1, 2, 0] rfl)
  · have hf := (if_ok hf).2 cc
    refine lv_iconst (v := 0) hx hb dX7_isWord_16 (by decide) ?_
    exact W.zret (ty := .boolean) hx hb hr rfl (fun t ht _ => ⟨_, rfl, Option.some.inj hf, ht⟩) (fun _ h => by cases h) dX7_isWord_17
abbrev r_X7_numberAtHand : Room := { frames := 0, cells := 0, slots := 0, locals := 0 }
theorem in_X7_numberAtHand_X7 : ∀ w ∈ u_ws RX7 TX7 6, w ∈ wsX7_numberAtHand := by decide +kernel
set_option maxHeartbeats 4000000 in
set_option maxRecDepth 100000 in
theorem w_X7_numberAtHand_7 (C : qC p s m args meth c cX7_numberAtHand 3 RX7 wsX7_numberAtHand (some .int)) (hK : qK D cy sa s) (hE : qEnv sa va (qA xS ad) s s.heap) (hN : qN xS ad)   {I : qI} {J : qJ} (hP : qP D xS ad (eX ad cy) I J s.heap) {r : Int32} : ∀ (n : Nat) (x1 : Int32) (x2 : Int32)  (ls : Array Slot), f_X7_numberAtHand_7 I n x1 x2 = some r → lv_has ls 3 [(0, .ref (ad 25)), (1, .int x1), (2, .int x2)] → W p l e (headSpec wsX7_numberAtHand r_X7_numberAtHand).room s m args below meth c s.heap [] 0 0 (MQ below (vp_Si (fun x => x = r)) args s 0 0 (fun _ => False)) (F0 m 7 ls []) := by
  have C0 := C
  obtain ⟨⟨hx, hb, hml, hown, hts⟩, hr, hlocks⟩ := C0
  intro n
  induction n with
  | zero =>
    intro x1 x2 ls hf hl
    rw [f_X7_numberAtHand_7] at hf
    cases hf
  | succ n ih =>
    intro x1 x2 ls hf hl
    rw [f_X7_numberAtHand_7] at hf
    refine lv_iload_n hx hb dX7_numberAtHand_7 rfl (lv_at hl 2 rfl) ?_
    refine lv_aload_n hx hb dX7_numberAtHand_8 rfl (lv_at hl 0 rfl) ?_
    refine q_get (C := RX7) (T := TX7) (N := 6) (ci := 7) (v := .int (I 25 3)) hx hb hts in_X7_numberAtHand_X7 hown hK hP oX7 rfl 3 (by decide) (hts (.fieldLink RX7 23 "RowsOnlyPrimes$Tape" "end" "I") (by decide +kernel)) (fun _ h9 => h9) rfl dX7_numberAtHand_9 ?_
    refine lv_icmp_ge (tgt := 46) hx hb dX7_numberAtHand_12 (by decide) (fun cc => ?_) (fun cc => ?_)
    · have hf := (if_ok hf).1 cc
      refine lv_iload_n hx hb dX7_numberAtHand_46 rfl (lv_at hl 1 rfl) ?_
      exact W.iret hx hb hr (fun t ht _ => ⟨_, rfl, Option.some.inj hf, ht⟩) (fun _ h => by cases h) dX7_numberAtHand_47
    · have hf := (if_ok hf).2 cc
      refine lv_iload_n hx hb dX7_numberAtHand_15 rfl (lv_at hl 2 rfl) ?_
      refine lv_aload_n hx hb dX7_numberAtHand_16 rfl (lv_at hl 0 rfl) ?_
      refine q_get (C := RX7) (T := TX7) (N := 6) (ci := 7) (v := .int (I 25 2)) hx hb hts in_X7_numberAtHand_X7 hown hK hP oX7 rfl 2 (by decide) (hts (.fieldLink RX7 102 "RowsOnlyPrimes$Tape" "place" "I") (by decide +kernel)) (fun _ h9 => h9) rfl dX7_numberAtHand_17 ?_
      refine lv_iconst (v := 2) hx hb dX7_numberAtHand_20 (by decide) ?_
      refine lv_iadd hx hb dX7_numberAtHand_21 ?_
      refine lv_icmp_ge (tgt := 46) hx hb dX7_numberAtHand_22 (by decide) (fun cc => ?_) (fun cc => ?_)
      · have hf := (if_ok hf).1 cc
        refine lv_iload_n hx hb dX7_numberAtHand_46 rfl (lv_at hl 1 rfl) ?_
        exact W.iret hx hb hr (fun t ht _ => ⟨_, rfl, Option.some.inj hf, ht⟩) (fun _ h => by cases h) dX7_numberAtHand_47
      · have hf := (if_ok hf).2 cc
        refine lv_iload_n hx hb dX7_numberAtHand_25 rfl (lv_at hl 1 rfl) ?_
        refine lv_bipush (v := 10) hx hb dX7_numberAtHand_26 (by decide) ?_
        refine lv_imul hx hb dX7_numberAtHand_28 ?_
        refine lv_aload_n hx hb dX7_numberAtHand_29 rfl (lv_at hl 0 rfl) ?_
        refine q_get (C := RX7) (T := TX7) (N := 6) (ci := 7) (v := .ref (ad 26)) hx hb hts in_X7_numberAtHand_X7 hown hK hP oX7 rfl 0 (by decide) (hts (.fieldLink RX7 9 "RowsOnlyPrimes$Tape" "bytes" "[I") (by decide +kernel)) (fun _ h9 => h9) rfl dX7_numberAtHand_30 ?_
        refine lv_iload_n hx hb dX7_numberAtHand_33 rfl (lv_at hl 2 rfl) ?_
        obtain ⟨g1, hf⟩ := gd_ok hf
        refine q_iald hx hb hK hP aX7_1 g1 dX7_numberAtHand_34 ?_
        refine lv_iadd hx hb dX7_numberAtHand_35 ?_
        refine lv_bipush (v := 48) hx hb dX7_numberAtHand_36 (by decide) ?_
        refine lv_isub hx hb dX7_numberAtHand_38 ?_
        obtain ⟨v2, ev2, hf⟩ := lt_ok hf
        refine q_top ev2 ?_
        refine lv_istore_n (lv' := [(1, .int v2), (0, .ref (ad 25)), (2, .int x2)]) hx hb dX7_numberAtHand_39 rfl hl (by decide) rfl (fun ls hl => ?_)
        refine lv_iinc (v := (x2 + (1 : Int32))) (lv' := [(2, .int (x2 + (1 : Int32))), (1, .int v2), (0, .ref (ad 25))]) hx hb dX7_numberAtHand_40 hl (k := 2) rfl rfl (by decide) rfl (fun ls hl => ?_)
        refine lv_goto (tgt := 7) hx hb dX7_numberAtHand_43 (by decide) ?_
        exact ih v2 (x2 + (1 : Int32)) _ hf (lv_sub hl [2, 1, 0] rfl)
set_option maxHeartbeats 4000000 in
set_option maxRecDepth 100000 in
theorem c_X7_numberAtHand (l : Launch) {D : va_G} {ad : Nat → Nat} {cy : Nat → ClassId} {sa va : Nat → Nat} {I : qI} {J : qJ}    {r : Int32} (hf : f_X7_numberAtHand I = some r) : Met l yX7_numberAtHand wsX7_numberAtHand r_X7_numberAtHand (va_Pc [.ref (ad 25)] (qPre D xS ad cy sa va (eX ad cy) I J)) (vp_Si (fun x => x = r)) 0 0 (fun _ => False) := by
  refine Met.ofW (cc := cX7_numberAtHand) (maxL := 3) (ret := (some .int)) (by decide) rfl ?_
  intro p e s m args below meth c s₁ B hml hv
  obtain ⟨rfl, hP, hK, hE, hN⟩ := hv
  have C : qC p s m _ meth c cX7_numberAtHand 3 RX7 wsX7_numberAtHand (some .int) := ⟨⟨B.exec, B.bytes, hml, findClass_of_methodNamed B.named, atoms_spec (ws := wsX7_numberAtHand) B.pre⟩, B.returns, B.notSynchronized⟩
  have C0 := C
  obtain ⟨⟨hx, hb, hml, hown, hts⟩, hr, hlocks⟩ := C0
  have hl := lv_entry ([.ref (ad 25)]) (n := 3) (Nat.le_of_ble_eq_true rfl)
  rw [lg_entry_eq]
  generalize (lg_sl ([.ref (ad 25)]) ++ List.replicate (3 - (lg_sl ([.ref (ad 25)])).length) Slot.unset).toArray = ls at hl ⊢
  have hl : lv_has ls 3 [(0, .ref (ad 25))] := hl
  unfold f_X7_numberAtHand at hf
  refine lv_iconst (v := 0) hx hb dX7_numberAtHand_0 (by decide) ?_
  refine lv_istore_n (lv' := [(1, .int (0 : Int32)), (0, .ref (ad 25))]) hx hb dX7_numberAtHand_1 rfl hl (by decide) rfl (fun ls hl => ?_)
  refine lv_aload_n hx hb dX7_numberAtHand_2 rfl (lv_at hl 1 rfl) ?_
  refine q_get (C := RX7) (T := TX7) (N := 6) (ci := 7) (v := .int (I 25 2)) hx hb hts in_X7_numberAtHand_X7 hown hK hP oX7 rfl 2 (by decide) (hts (.fieldLink RX7 102 "RowsOnlyPrimes$Tape" "place" "I") (by decide +kernel)) (fun _ h9 => h9) rfl dX7_numberAtHand_3 ?_
  refine lv_istore_n (lv' := [(2, .int (I 25 2)), (1, .int (0 : Int32)), (0, .ref (ad 25))]) hx hb dX7_numberAtHand_6 rfl hl (by decide) rfl (fun ls hl => ?_)
  exact w_X7_numberAtHand_7 C hK hE hN hP  1000 (0 : Int32) (I 25 2) _ hf (lv_sub hl [2, 1, 0] rfl)
abbrev r_X7_readNumber : Room := { frames := 3, cells := 0, slots := 0, locals := 63 }
theorem in_X7_readNumber_X7 : ∀ w ∈ u_ws RX7 TX7 6, w ∈ wsX7_readNumber := by decide +kernel
set_option maxHeartbeats 4000000 in
set_option maxRecDepth 100000 in
theorem w_X7_readNumber_46 (C : qC p s m args meth c cX7_readNumber 3 RX7 wsX7_readNumber (some .int)) (hK : qK D cy sa s) (hE : qEnv sa va (qA xS ad) s s.heap) (hN : qN xS ad)   {J : qJ} {r : Int32} {Ie : qI} : ∀   (I : qI) (ls : Array Slot) (H : Heap) (locs : List Loc), f_X7_readNumber_46 I = some (r, Ie) → lv_has ls 3 [(0, .ref (ad 25))] → qP D xS ad (eX ad cy) I J H → va_S (qA xS ad) s.heap H locs → W p l e (headSpec wsX7_readNumber r_X7_readNumber).room s m args below meth c H locs 0 0 (MQ below (va_Qi (S := Unit) (fun x _ => x = r) (fun _ t => qP D xS ad (eX ad cy) Ie J t.heap) (qA xS ad)) args s 0 0 (qA xS ad)) (F0 m 46 ls []) := by
  have C0 := C
  obtain ⟨⟨hx, hb, hml, hown, hts⟩, hr, hlocks⟩ := C0
  intro I ls H locs hf hl hP hS
  unfold f_X7_readNumber_46 at hf
  refine lv_aload_n hx hb dX7_readNumber_46 rfl (lv_at hl 0 rfl) ?_
  refine lv_iconst (v := 1) hx hb dX7_readNumber_47 (by decide) ?_
  obtain ⟨I1, eI1, hf⟩ := lt_ok hf
  refine q_put (C := RX7) (T := TX7) (N := 6) (ci := 7) (v := .int (1 : Int32)) (x := (1 : Int32)) (ty := .boolean) hx hb hts in_X7_readNumber_X7 tyX7 tyX7_ok nmX7 hown hK hP hN hS oX7 rfl 5 (by decide) (hts (.fieldLink RX7 26 "RowsOnlyPrimes$Tape" "failed" "Z") (by decide +kernel)) (fun _ h9 => h9) rfl (by decide +kernel) rfl rfl (fun _ _ => rfl) (fun _ _ => Nat.le_of_ble_eq_true rfl) dX7_readNumber_48 (fun H locs hP hS => ?_)
  rw [← eI1] at hP
  refine lv_iconst (v := -1) hx hb dX7_readNumber_51 (by decide) ?_
  have e9 := Option.some.inj hf
  have eI9 : I1 = Ie := (congrArg Prod.snd e9)
  exact W.iret hx hb hr (fun t ht _ => ⟨⟨_, (), rfl, (congrArg Prod.fst e9), by show qP D _ ad _ _ _ t.heap; rw [ht, ← eI9]; exact hP⟩, hS.F ht⟩) hS.2.2 dX7_readNumber_52
set_option maxHeartbeats 4000000 in
set_option maxRecDepth 100000 in
theorem c_X7_readNumber (l : Launch) {D : va_G} {ad : Nat → Nat} {cy : Nat → ClassId} {sa va : Nat → Nat} {I : qI} {J : qJ}   (p0 : Int32) (p1 : Int32) {r : Int32} {Ie : qI} (hf : f_X7_readNumber p0 p1 I = some (r, Ie)) : Met l yX7_readNumber wsX7_readNumber r_X7_readNumber (va_Pc [.ref (ad 25), .int p0, .int p1] (qPre D xS ad cy sa va (eX ad cy) I J)) (va_Qi (S := Unit) (fun x _ => x = r) (fun _ t => qP D xS ad (eX ad cy) Ie J t.heap) (qA xS ad)) 0 0 (qA xS ad) := by
  refine Met.ofW (cc := cX7_readNumber) (maxL := 3) (ret := (some .int)) (by decide) rfl ?_
  intro p e s m args below meth c s₁ B hml hv
  obtain ⟨rfl, hP, hK, hE, hN⟩ := hv
  have C : qC p s m _ meth c cX7_readNumber 3 RX7 wsX7_readNumber (some .int) := ⟨⟨B.exec, B.bytes, hml, findClass_of_methodNamed B.named, atoms_spec (ws := wsX7_readNumber) B.pre⟩, B.returns, B.notSynchronized⟩
  have C0 := C
  obtain ⟨⟨hx, hb, hml, hown, hts⟩, hr, hlocks⟩ := C0
  have hS : va_S (qA xS ad) s.heap s.heap [] := va_S.rf
  have hl := lv_entry ([.ref (ad 25), .int p0, .int p1]) (n := 3) (Nat.le_of_ble_eq_true rfl)
  rw [lg_entry_eq]
  generalize (lg_sl ([.ref (ad 25), .int p0, .int p1]) ++ List.replicate (3 - (lg_sl ([.ref (ad 25), .int p0, .int p1])).length) Slot.unset).toArray = ls at hl ⊢
  have hl : lv_has ls 3 [(0, .ref (ad 25)), (1, .int p0), (2, .int p1)] := hl
  unfold f_X7_readNumber at hf
  refine lv_aload_n hx hb dX7_readNumber_0 rfl (lv_at hl 0 rfl) ?_
  refine q_get (C := RX7) (T := TX7) (N := 6) (ci := 7) (v := .int (I 25 5)) hx hb hts in_X7_readNumber_X7 hown hK hP oX7 rfl 5 (by decide) (hts (.fieldLink RX7 26 "RowsOnlyPrimes$Tape" "failed" "Z") (by decide +kernel)) (fun _ h9 => h9) rfl dX7_readNumber_1 ?_
  refine lv_if_eq (tgt := 9) hx hb dX7_readNumber_4 (by decide) (fun cc => ?_) (fun cc => ?_)
  · have hf := (if_ok hf).1 cc
    refine lv_aload_n hx hb dX7_readNumber_9 rfl (lv_at hl 0 rfl) ?_
    obtain ⟨I1, h2, hf⟩ := bd_ok hf
    refine q_cEv (va_runV (As := []) (rest := []) ⟨hx, hb, hml, hown, hts⟩ (c_X7_step l (D := D) (ad := ad) (cy := cy) (sa := sa) (va := va) (I := I) (J := J)  h2) (cwV 0 hts gX7_readNumber_X7_step rfl rfl rfl (by decide +kernel) ⟨Nat.le_of_ble_eq_true rfl, Nat.le_of_ble_eq_true rfl⟩) ⟨qPre_blind _, q_recv hK hP oX7 rfl, fun U hU hW => ⟨rfl, qPre_of hP hK hE hN hS U hU hW⟩⟩ rfl rfl hl.1 rfl (lv_room (Nat.le_of_ble_eq_true rfl)) dX7_readNumber_10 ⟨Nat.le_of_ble_eq_true rfl, Nat.le_of_ble_eq_true rfl⟩) hS (fun H locs hP hS => ?_)
    refine lv_aload_n hx hb dX7_readNumber_13 rfl (lv_at hl 0 rfl) ?_
    refine q_get (C := RX7) (T := TX7) (N := 6) (ci := 7) (v := .int (I1 25 4)) hx hb hts in_X7_readNumber_X7 hown hK hP oX7 rfl 4 (by decide) (hts (.fieldLink RX7 37 "RowsOnlyPrimes$Tape" "token" "I") (by decide +kernel)) (fun _ h9 => h9) rfl dX7_readNumber_14 ?_
    refine lv_iconst (v := 2) hx hb dX7_readNumber_17 (by decide) ?_
    refine lv_icmp_ne (tgt := 46) hx hb dX7_readNumber_18 (by decide) (fun cc => ?_) (fun cc => ?_)
    · have hf := (if_ok hf).2 cc
      exact w_X7_readNumber_46 C hK hE hN    I1 _ _ _ hf (lv_sub hl [0] rfl) hP hS
    · have hf := (if_ok hf).1 cc
      refine lv_aload_n hx hb dX7_readNumber_21 rfl (lv_at hl 0 rfl) ?_
      refine q_get (C := RX7) (T := TX7) (N := 6) (ci := 7) (v := .int (I1 25 3)) hx hb hts in_X7_readNumber_X7 hown hK hP oX7 rfl 3 (by decide) (hts (.fieldLink RX7 23 "RowsOnlyPrimes$Tape" "end" "I") (by decide +kernel)) (fun _ h9 => h9) rfl dX7_readNumber_22 ?_
      refine lv_aload_n hx hb dX7_readNumber_25 rfl (lv_at hl 0 rfl) ?_
      refine q_get (C := RX7) (T := TX7) (N := 6) (ci := 7) (v := .int (I1 25 2)) hx hb hts in_X7_readNumber_X7 hown hK hP oX7 rfl 2 (by decide) (hts (.fieldLink RX7 102 "RowsOnlyPrimes$Tape" "place" "I") (by decide +kernel)) (fun _ h9 => h9) rfl dX7_readNumber_26 ?_
      refine lv_isub hx hb dX7_readNumber_29 ?_
      refine lv_iconst (v := 2) hx hb dX7_readNumber_30 (by decide) ?_
      refine lv_icmp_gt (tgt := 46) hx hb dX7_readNumber_31 (by decide) (fun cc => ?_) (fun cc => ?_)
      · have hf := (if_ok hf).1 cc
        exact w_X7_readNumber_46 C hK hE hN    I1 _ _ _ hf (lv_sub hl [0] rfl) hP hS
      · have hf := (if_ok hf).2 cc
        refine lv_aload_n hx hb dX7_readNumber_34 rfl (lv_at hl 0 rfl) ?_
        obtain ⟨v3, h4, hf⟩ := bd_ok hf
        refine q_cSi (va_runV (As := []) (rest := []) ⟨hx, hb, hml, hown, hts⟩ (c_X7_numberAtHand l (D := D) (ad := ad) (cy := cy) (sa := sa) (va := va) (I := I1) (J := J)  h4) (cwV 0 hts gX7_readNumber_X7_numberAtHand rfl rfl rfl (by decide +kernel) ⟨Nat.le_of_ble_eq_true rfl, Nat.le_of_ble_eq_true rfl⟩) ⟨qPre_blind _, q_recv hK hP oX7 rfl, fun U hU hW => ⟨rfl, qPre_of hP hK hE hN hS U hU hW⟩⟩ rfl rfl hl.1 rfl (lv_room (Nat.le_of_ble_eq_true rfl)) dX7_readNumber_35 ⟨Nat.le_of_ble_eq_true rfl, Nat.le_of_ble_eq_true rfl⟩) ?_
        refine lv_iload_n hx hb dX7_readNumber_38 rfl (lv_at hl 1 rfl) ?_
        refine lv_iload_n hx hb dX7_readNumber_39 rfl (lv_at hl 2 rfl) ?_
        obtain ⟨v5, h6, hf⟩ := bd_ok hf
        refine q_cSi (va_runSN (host := RX8) (As := [.int v3, .int p0, .int p1]) (rest := []) ⟨hx, hb, hml, hown, hts⟩ (c_X8_within l (D := D) (ad := ad) (cy := cy) (sa := sa) (va := va) (I := I1) (J := J) v3 p0 p1 h6) ⟨va_cnB 3 hts gX7_readNumber_X8_within_n19 rfl rfl rfl (hK.2.1.2.1.2.2.2) (hts (.initialized RX8) (by decide +kernel)) (by decide +kernel) ⟨Nat.le_of_ble_eq_true rfl, Nat.le_of_ble_eq_true rfl⟩, (hts (.static yX8_within) (by decide +kernel)), trivial⟩ ⟨qPre_blind _, fun U hU hW => ⟨rfl, qPre_of hP hK hE hN hS U hU hW⟩⟩ rfl rfl hl.1 rfl (lv_room (Nat.le_of_ble_eq_true rfl)) dX7_readNumber_40 ⟨Nat.le_of_ble_eq_true rfl, Nat.le_of_ble_eq_true rfl⟩) ?_
        refine lv_if_ne (tgt := 53) hx hb dX7_readNumber_43 (by decide) (fun cc => ?_) (fun cc => ?_)
        · have hf := (if_ok hf).2 cc
          refine lv_aload_n hx hb dX7_readNumber_53 rfl (lv_at hl 0 rfl) ?_
          obtain ⟨v7, h8, hf⟩ := bd_ok hf
          refine q_cSi (va_runV (As := []) (rest := []) ⟨hx, hb, hml, hown, hts⟩ (c_X7_numberAtHand l (D := D) (ad := ad) (cy := cy) (sa := sa) (va := va) (I := I1) (J := J)  h8) (cwV 0 hts gX7_readNumber_X7_numberAtHand rfl rfl rfl (by decide +kernel) ⟨Nat.le_of_ble_eq_true rfl, Nat.le_of_ble_eq_true rfl⟩) ⟨qPre_blind _, q_recv hK hP oX7 rfl, fun U hU hW => ⟨rfl, qPre_of hP hK hE hN hS U hU hW⟩⟩ rfl rfl hl.1 rfl (lv_room (Nat.le_of_ble_eq_true rfl)) dX7_readNumber_54 ⟨Nat.le_of_ble_eq_true rfl, Nat.le_of_ble_eq_true rfl⟩) ?_
          have e9 := Option.some.inj hf
          have eI9 : I1 = Ie := (congrArg Prod.snd e9)
          exact W.iret hx hb hr (fun t ht _ => ⟨⟨_, (), rfl, (congrArg Prod.fst e9), by show qP D _ ad _ _ _ t.heap; rw [ht, ← eI9]; exact hP⟩, hS.F ht⟩) hS.2.2 dX7_readNumber_57
        · have hf := (if_ok hf).1 cc
          exact w_X7_readNumber_46 C hK hE hN    I1 _ _ _ hf (lv_sub hl [0] rfl) hP hS
  · have hf := (if_ok hf).2 cc
    refine lv_iconst (v := -1) hx hb dX7_readNumber_7 (by decide) ?_
    have e9 := Option.some.inj hf
    have eI9 : I = Ie := (congrArg Prod.snd e9)
    exact W.iret hx hb hr (fun t ht _ => ⟨⟨_, (), rfl, (congrArg Prod.fst e9), by show qP D _ ad _ _ _ t.heap; rw [ht, ← eI9]; exact hP⟩, hS.F ht⟩) hS.2.2 dX7_readNumber_8
abbrev r_X7_readParty : Room := { frames := 4, cells := 0, slots := 0, locals := 85 }
theorem in_X7_readParty_X7 : ∀ w ∈ u_ws RX7 TX7 6, w ∈ wsX7_readParty := by decide +kernel
set_option maxHeartbeats 4000000 in
set_option maxRecDepth 100000 in
theorem c_X7_readParty (l : Launch) {D : va_G} {ad : Nat → Nat} {cy : Nat → ClassId} {sa va : Nat → Nat} {I : qI} {J : qJ} (c0 : Nat) (zc0 : isB c0)  {Ie : qI} (hf : f_X7_readParty c0 I = some Ie) : Met l yX7_readParty wsX7_readParty r_X7_readParty (va_Pc [.ref (ad 25), .ref (ad c0)] (qPre D xS ad cy sa va (eX ad cy) I J)) (va_Qv (S := Unit) (fun _ => True) (fun _ t => qP D xS ad (eX ad cy) Ie J t.heap) (qA xS ad)) 0 0 (qA xS ad) := by
  refine Met.ofW (cc := cX7_readParty) (maxL := 6) (ret := none) (by decide) rfl ?_
  intro p e s m args below meth c s₁ B hml hv
  obtain ⟨rfl, hP, hK, hE, hN⟩ := hv
  have C : qC p s m _ meth c cX7_readParty 6 RX7 wsX7_readParty none := ⟨⟨B.exec, B.bytes, hml, findClass_of_methodNamed B.named, atoms_spec (ws := wsX7_readParty) B.pre⟩, B.returns, B.notSynchronized⟩
  have C0 := C
  obtain ⟨⟨hx, hb, hml, hown, hts⟩, hr, hlocks⟩ := C0
  have hS : va_S (qA xS ad) s.heap s.heap [] := va_S.rf
  have hl := lv_entry ([.ref (ad 25), .ref (ad c0)]) (n := 6) (Nat.le_of_ble_eq_true rfl)
  rw [lg_entry_eq]
  generalize (lg_sl ([.ref (ad 25), .ref (ad c0)]) ++ List.replicate (6 - (lg_sl ([.ref (ad 25), .ref (ad c0)])).length) Slot.unset).toArray = ls at hl ⊢
  have hl : lv_has ls 6 [(0, .ref (ad 25)), (1, .ref (ad c0))] := hl
  unfold f_X7_readParty at hf
  refine lv_aload_n hx hb dX7_readParty_0 rfl (lv_at hl 1 rfl) ?_
  obtain ⟨v1, h2, hf⟩ := bd_ok hf
  refine q_cSi (va_runV (As := []) (rest := []) ⟨hx, hb, hml, hown, hts⟩ (c_X2_hasRoom l (D := D) (ad := ad) (cy := cy) (sa := sa) (va := va) (I := I) (J := J) c0 zc0 h2) (cwV 0 hts gX7_readParty_X2_hasRoom rfl rfl rfl (by decide +kernel) ⟨Nat.le_of_ble_eq_true rfl, Nat.le_of_ble_eq_true rfl⟩) ⟨qPre_blind _, q_recv hK hP (oX2 zc0) rfl, fun U hU hW => ⟨rfl, qPre_of hP hK hE hN hS U hU hW⟩⟩ rfl rfl hl.1 rfl (lv_room (Nat.le_of_ble_eq_true rfl)) dX7_readParty_1 ⟨Nat.le_of_ble_eq_true rfl, Nat.le_of_ble_eq_true rfl⟩) ?_
  refine lv_if_ne (tgt := 13) hx hb dX7_readParty_4 (by decide) (fun cc => ?_) (fun cc => ?_)
  · have hf := (if_ok hf).2 cc
    refine lv_aload_n hx hb dX7_readParty_13 rfl (lv_at hl 0 rfl) ?_
    refine lv_iconst (v := 0) hx hb dX7_readParty_14 (by decide) ?_
    refine lv_iconst (v := 5) hx hb dX7_readParty_15 (by decide) ?_
    obtain ⟨v3, I4, h5, hf⟩ := bd2_ok hf
    refine q_cEi (va_runV (As := [.int (0 : Int32), .int (5 : Int32)]) (rest := []) ⟨hx, hb, hml, hown, hts⟩ (c_X7_readNumber l (D := D) (ad := ad) (cy := cy) (sa := sa) (va := va) (I := I) (J := J) (0 : Int32) (5 : Int32) h5) (cwV 2 hts gX7_readParty_X7_readNumber rfl rfl rfl (by decide +kernel) ⟨Nat.le_of_ble_eq_true rfl, Nat.le_of_ble_eq_true rfl⟩) ⟨qPre_blind _, q_recv hK hP oX7 rfl, fun U hU hW => ⟨rfl, qPre_of hP hK hE hN hS U hU hW⟩⟩ rfl rfl hl.1 rfl (lv_room (Nat.le_of_ble_eq_true rfl)) dX7_readParty_16 ⟨Nat.le_of_ble_eq_true rfl, Nat.le_of_ble_eq_true rfl⟩) hS (fun H locs hP hS => ?_)
    refine lv_istore_n (lv' := [(2, .int v3), (0, .ref (ad 25)), (1, .ref (ad c0))]) hx hb dX7_readParty_19 rfl hl (by decide) rfl (fun ls hl => ?_)
    refine lv_aload_n hx hb dX7_readParty_20 rfl (lv_at hl 1 rfl) ?_
    refine lv_iconst (v := 0) hx hb dX7_readParty_21 (by decide) ?_
    refine lv_bipush (v := 9) hx hb dX7_readParty_22 (by decide) ?_
    obtain ⟨v6, I7, h8, hf⟩ := bd2_ok hf
    refine q_cEi (va_runV (As := [.int (0 : Int32), .int (9 : Int32)]) (rest := []) ⟨hx, hb, hml, hown, hts⟩ (c_X7_readNumber l (D := D) (ad := ad) (cy := cy) (sa := sa) (va := va) (I := I4) (J := J) (0 : Int32) (9 : Int32) h8) (cwV 2 hts gX7_readParty_X7_readNumber rfl rfl rfl (by decide +kernel) ⟨Nat.le_of_ble_eq_true rfl, Nat.le_of_ble_eq_true rfl⟩) ⟨qPre_blind _, q_recv hK hP oX7 rfl, fun U hU hW => ⟨rfl, qPre_of hP hK hE hN hS U hU hW⟩⟩ rfl rfl hl.1 rfl (lv_room (Nat.le_of_ble_eq_true rfl)) dX7_readParty_24 ⟨Nat.le_of_ble_eq_true rfl, Nat.le_of_ble_eq_true rfl⟩) hS (fun H locs hP hS => ?_)
    refine lv_istore_n (lv' := [(3, .int v6), (2, .int v3), (0, .ref (ad 25)), (1, .ref (ad c0))]) hx hb dX7_readParty_27 rfl hl (by decide) rfl (fun ls hl => ?_)
    refine lv_aload_n hx hb dX7_readParty_28 rfl (lv_at hl 2 rfl) ?_
    refine lv_iconst (v := 1) hx hb dX7_readParty_29 (by decide) ?_
    refine lv_bipush (v := 40) hx hb dX7_readParty_30 (by decide) ?_
    obtain ⟨v9, I10, h11, hf⟩ := bd2_ok hf
    refine q_cEi (va_runV (As := [.int (1 : Int32), .int (40 : Int32)]) (rest := []) ⟨hx, hb, hml, hown, hts⟩ (c_X7_readNumber l (D := D) (ad := ad) (cy := cy) (sa := sa) (va := va) (I := I7) (J := J) (1 : Int32) (40 : Int32) h11) (cwV 2 hts gX7_readParty_X7_readNumber rfl rfl rfl (by decide +kernel) ⟨Nat.le_of_ble_eq_true rfl, Nat.le_of_ble_eq_true rfl⟩) ⟨qPre_blind _, q_recv hK hP oX7 rfl, fun U hU hW => ⟨rfl, qPre_of hP hK hE hN hS U hU hW⟩⟩ rfl rfl hl.1 rfl (lv_room (Nat.le_of_ble_eq_true rfl)) dX7_readParty_32 ⟨Nat.le_of_ble_eq_true rfl, Nat.le_of_ble_eq_true rfl⟩) hS (fun H locs hP hS => ?_)
    refine lv_istore (lv' := [(4, .int v9), (3, .int v6), (2, .int v3), (0, .ref (ad 25)), (1, .ref (ad c0))]) hx hb dX7_readParty_35 hl (by decide) rfl (fun ls hl => ?_)
    refine lv_aload_n hx hb dX7_readParty_37 rfl (lv_at hl 3 rfl) ?_
    refine lv_iconst (v := 0) hx hb dX7_readParty_38 (by decide) ?_
    refine lv_bipush (v := 99) hx hb dX7_readParty_39 (by decide) ?_
    obtain ⟨v12, I13, h14, hf⟩ := bd2_ok hf
    refine q_cEi (va_runV (As := [.int (0 : Int32), .int (99 : Int32)]) (rest := []) ⟨hx, hb, hml, hown, hts⟩ (c_X7_readNumber l (D := D) (ad := ad) (cy := cy) (sa := sa) (va := va) (I := I10) (J := J) (0 : Int32) (99 : Int32) h14) (cwV 2 hts gX7_readParty_X7_readNumber rfl rfl rfl (by decide +kernel) ⟨Nat.le_of_ble_eq_true rfl, Nat.le_of_ble_eq_true rfl⟩) ⟨qPre_blind _, q_recv hK hP oX7 rfl, fun U hU hW => ⟨rfl, qPre_of hP hK hE hN hS U hU hW⟩⟩ rfl rfl hl.1 rfl (lv_room (Nat.le_of_ble_eq_true rfl)) dX7_readParty_41 ⟨Nat.le_of_ble_eq_true rfl, Nat.le_of_ble_eq_true rfl⟩) hS (fun H locs hP hS => ?_)
    refine lv_istore (lv' := [(5, .int v12), (4, .int v9), (3, .int v6), (2, .int v3), (0, .ref (ad 25)), (1, .ref (ad c0))]) hx hb dX7_readParty_44 hl (by decide) rfl (fun ls hl => ?_)
    refine lv_aload_n hx hb dX7_readParty_46 rfl (lv_at hl 4 rfl) ?_
    refine q_get (C := RX7) (T := TX7) (N := 6) (ci := 7) (v := .int (I13 25 5)) hx hb hts in_X7_readParty_X7 hown hK hP oX7 rfl 5 (by decide) (hts (.fieldLink RX7 26 "RowsOnlyPrimes$Tape" "failed" "Z") (by decide +kernel)) (fun _ h9 => h9) rfl dX7_readParty_47 ?_
    refine lv_if_ne (tgt := 64) hx hb dX7_readParty_50 (by decide) (fun cc => ?_) (fun cc => ?_)
    · have hf := (if_ok hf).2 cc
      have e9 := Option.some.inj hf
      have eI9 : I13 = Ie := e9
      exact W.vret hx hb hr (fun t ht _ => ⟨⟨(), rfl, trivial, by show qP D _ ad _ _ _ t.heap; rw [ht, ← eI9]; exact hP⟩, hS.F ht⟩) hS.2.2 dX7_readParty_64
    · have hf := (if_ok hf).1 cc
      refine lv_aload_n hx hb dX7_readParty_53 rfl (lv_at hl 5 rfl) ?_
      refine lv_iload_n hx hb dX7_readParty_54 rfl (lv_at hl 3 rfl) ?_
      refine lv_iload_n hx hb dX7_readParty_55 rfl (lv_at hl 2 rfl) ?_
      refine lv_iload hx hb dX7_readParty_56 (lv_at hl 1 rfl) ?_
      refine lv_iload hx hb dX7_readParty_58 (lv_at hl 0 rfl) ?_
      obtain ⟨v15, I16, h17, hf⟩ := bd2_ok hf
      refine q_cEi (va_runV (As := [.int v3, .int v6, .int v9, .int v12]) (rest := []) ⟨hx, hb, hml, hown, hts⟩ (c_X2_add l (D := D) (ad := ad) (cy := cy) (sa := sa) (va := va) (I := I13) (J := J) c0 zc0 v3 v6 v9 v12 h17) (cwV 4 hts gX7_readParty_X2_add rfl rfl rfl (by decide +kernel) ⟨Nat.le_of_ble_eq_true rfl, Nat.le_of_ble_eq_true rfl⟩) ⟨qPre_blind _, q_recv hK hP (oX2 zc0) rfl, fun U hU hW => ⟨rfl, qPre_of hP hK hE hN hS U hU hW⟩⟩ rfl rfl hl.1 rfl (lv_room (Nat.le_of_ble_eq_true rfl)) dX7_readParty_60 ⟨Nat.le_of_ble_eq_true rfl, Nat.le_of_ble_eq_true rfl⟩) hS (fun H locs hP hS => ?_)
      refine lv_pop hx hb dX7_readParty_63 rfl ?_
      have e9 := Option.some.inj hf
      have eI9 : I16 = Ie := e9
      exact W.vret hx hb hr (fun t ht _ => ⟨⟨(), rfl, trivial, by show qP D _ ad _ _ _ t.heap; rw [ht, ← eI9]; exact hP⟩, hS.F ht⟩) hS.2.2 dX7_readParty_64
  · have hf := (if_ok hf).1 cc
    refine lv_aload_n hx hb dX7_readParty_7 rfl (lv_at hl 0 rfl) ?_
    refine lv_iconst (v := 1) hx hb dX7_readParty_8 (by decide) ?_
    obtain ⟨I18, eI18, hf⟩ := lt_ok hf
    refine q_put (C := RX7) (T := TX7) (N := 6) (ci := 7) (v := .int (1 : Int32)) (x := (1 : Int32)) (ty := .boolean) hx hb hts in_X7_readParty_X7 tyX7 tyX7_ok nmX7 hown hK hP hN hS oX7 rfl 5 (by decide) (hts (.fieldLink RX7 26 "RowsOnlyPrimes$Tape" "failed" "Z") (by decide +kernel)) (fun _ h9 => h9) rfl (by decide +kernel) rfl rfl (fun _ _ => rfl) (fun _ _ => Nat.le_of_ble_eq_true rfl) dX7_readParty_9 (fun H locs hP hS => ?_)
    rw [← eI18] at hP
    have e9 := Option.some.inj hf
    have eI9 : I18 = Ie := e9
    exact W.vret hx hb hr (fun t ht _ => ⟨⟨(), rfl, trivial, by show qP D _ ad _ _ _ t.heap; rw [ht, ← eI9]; exact hP⟩, hS.F ht⟩) hS.2.2 dX7_readParty_12
abbrev r_X7_readTwo : Room := { frames := 4, cells := 0, slots := 0, locals := 88 }
theorem in_X7_readTwo_X2 : ∀ w ∈ u_ws RX2 TX2 13, w ∈ wsX7_readTwo := by decide +kernel
theorem in_X7_readTwo_X7 : ∀ w ∈ u_ws RX7 TX7 6, w ∈ wsX7_readTwo := by decide +kernel
set_option maxHeartbeats 4000000 in
set_option maxRecDepth 100000 in
theorem w_X7_readTwo_36 (C : qC p s m args meth c cX7_readTwo 5 RX7 wsX7_readTwo none) (hK : qK D cy sa s) (hE : qEnv sa va (qA xS ad) s s.heap) (hN : qN xS ad) (c0 : Nat) (zc0 : isB c0) {J : qJ} {Ie : qI} : ∀ (x2 : Int32) (x3 : Int32) (x4 : Int32)  (I : qI) (ls : Array Slot) (H : Heap) (locs : List Loc), f_X7_readTwo_36 c0 x2 x3 x4 I = some Ie → lv_has ls 5 [(0, .ref (ad 25)), (1, .ref (ad c0)), (2, .int x2), (3, .int x3), (4, .int x4)] → qP D xS ad (eX ad cy) I J H → va_S (qA xS ad) s.heap H locs → W p l e (headSpec wsX7_readTwo r_X7_readTwo).room s m args below meth c H locs 0 0 (MQ below (va_Qv (S := Unit) (fun _ => True) (fun _ t => qP D xS ad (eX ad cy) Ie J t.heap) (qA xS ad)) args s 0 0 (qA xS ad)) (F0 m 36 ls []) := by
  have C0 := C
  obtain ⟨⟨hx, hb, hml, hown, hts⟩, hr, hlocks⟩ := C0
  intro x2 x3 x4 I ls H locs hf hl hP hS
  unfold f_X7_readTwo_36 at hf
  refine lv_aload_n hx hb dX7_readTwo_36 rfl (lv_at hl 0 rfl) ?_
  refine q_get (C := RX7) (T := TX7) (N := 6) (ci := 7) (v := .int (I 25 5)) hx hb hts in_X7_readTwo_X7 hown hK hP oX7 rfl 5 (by decide) (hts (.fieldLink RX7 26 "RowsOnlyPrimes$Tape" "failed" "Z") (by decide +kernel)) (fun _ h9 => h9) rfl dX7_readTwo_37 ?_
  refine lv_if_ne (tgt := 51) hx hb dX7_readTwo_40 (by decide) (fun cc => ?_) (fun cc => ?_)
  · have hf := (if_ok hf).2 cc
    have e9 := Option.some.inj hf
    have eI9 : I = Ie := e9
    exact W.vret hx hb hr (fun t ht _ => ⟨⟨(), rfl, trivial, by show qP D _ ad _ _ _ t.heap; rw [ht, ← eI9]; exact hP⟩, hS.F ht⟩) hS.2.2 dX7_readTwo_51
  · have hf := (if_ok hf).1 cc
    refine lv_aload_n hx hb dX7_readTwo_43 rfl (lv_at hl 1 rfl) ?_
    refine lv_iload_n hx hb dX7_readTwo_44 rfl (lv_at hl 3 rfl) ?_
    refine lv_iload hx hb dX7_readTwo_45 (lv_at hl 4 rfl) ?_
    refine lv_iload_n hx hb dX7_readTwo_47 rfl (lv_at hl 2 rfl) ?_
    obtain ⟨I1, h2, hf⟩ := bd_ok hf
    refine q_cEv (va_runV (As := [.int x3, .int x4, .int x2]) (rest := []) ⟨hx, hb, hml, hown, hts⟩ (c_X2_relate l (D := D) (ad := ad) (cy := cy) (sa := sa) (va := va) (I := I) (J := J) c0 zc0 x3 x4 x2 h2) (cwV 3 hts gX7_readTwo_X2_relate rfl rfl rfl (by decide +kernel) ⟨Nat.le_of_ble_eq_true rfl, Nat.le_of_ble_eq_true rfl⟩) ⟨qPre_blind _, q_recv hK hP (oX2 zc0) rfl, fun U hU hW => ⟨rfl, qPre_of hP hK hE hN hS U hU hW⟩⟩ rfl rfl hl.1 rfl (lv_room (Nat.le_of_ble_eq_true rfl)) dX7_readTwo_48 ⟨Nat.le_of_ble_eq_true rfl, Nat.le_of_ble_eq_true rfl⟩) hS (fun H locs hP hS => ?_)
    have e9 := Option.some.inj hf
    have eI9 : I1 = Ie := e9
    exact W.vret hx hb hr (fun t ht _ => ⟨⟨(), rfl, trivial, by show qP D _ ad _ _ _ t.heap; rw [ht, ← eI9]; exact hP⟩, hS.F ht⟩) hS.2.2 dX7_readTwo_51
set_option maxHeartbeats 4000000 in
set_option maxRecDepth 100000 in
theorem c_X7_readTwo (l : Launch) {D : va_G} {ad : Nat → Nat} {cy : Nat → ClassId} {sa va : Nat → Nat} {I : qI} {J : qJ} (c0 : Nat) (zc0 : isB c0) (p1 : Int32) {Ie : qI} (hf : f_X7_readTwo c0 p1 I = some Ie) : Met l yX7_readTwo wsX7_readTwo r_X7_readTwo (va_Pc [.ref (ad 25), .ref (ad c0), .int p1] (qPre D xS ad cy sa va (eX ad cy) I J)) (va_Qv (S := Unit) (fun _ => True) (fun _ t => qP D xS ad (eX ad cy) Ie J t.heap) (qA xS ad)) 0 0 (qA xS ad) := by
  refine Met.ofW (cc := cX7_readTwo) (maxL := 5) (ret := none) (by decide) rfl ?_
  intro p e s m args below meth c s₁ B hml hv
  obtain ⟨rfl, hP, hK, hE, hN⟩ := hv
  have C : qC p s m _ meth c cX7_readTwo 5 RX7 wsX7_readTwo none := ⟨⟨B.exec, B.bytes, hml, findClass_of_methodNamed B.named, atoms_spec (ws := wsX7_readTwo) B.pre⟩, B.returns, B.notSynchronized⟩
  have C0 := C
  obtain ⟨⟨hx, hb, hml, hown, hts⟩, hr, hlocks⟩ := C0
  have hS : va_S (qA xS ad) s.heap s.heap [] := va_S.rf
  have hl := lv_entry ([.ref (ad 25), .ref (ad c0), .int p1]) (n := 5) (Nat.le_of_ble_eq_true rfl)
  rw [lg_entry_eq]
  generalize (lg_sl ([.ref (ad 25), .ref (ad c0), .int p1]) ++ List.replicate (5 - (lg_sl ([.ref (ad 25), .ref (ad c0), .int p1])).length) Slot.unset).toArray = ls at hl ⊢
  have hl : lv_has ls 5 [(0, .ref (ad 25)), (1, .ref (ad c0)), (2, .int p1)] := hl
  unfold f_X7_readTwo at hf
  refine lv_aload_n hx hb dX7_readTwo_0 rfl (lv_at hl 0 rfl) ?_
  refine lv_iconst (v := 0) hx hb dX7_readTwo_1 (by decide) ?_
  refine lv_aload_n hx hb dX7_readTwo_2 rfl (lv_at hl 1 rfl) ?_
  refine q_get (C := RX2) (T := TX2) (N := 13) (ci := 2) (v := .int (I c0 7)) hx hb hts in_X7_readTwo_X2 hown hK hP (oX2 zc0) rfl 7 (by decide) (hts (.fieldLink RX7 86 "RowsOnlyPrimes$Bank" "size" "I") (by decide +kernel)) (fun _ h9 => h9) rfl dX7_readTwo_3 ?_
  refine lv_iconst (v := 1) hx hb dX7_readTwo_6 (by decide) ?_
  refine lv_isub hx hb dX7_readTwo_7 ?_
  obtain ⟨v1, I2, h3, hf⟩ := bd2_ok hf
  refine q_cEi (va_runV (As := [.int (0 : Int32), .int ((I c0 7) - (1 : Int32))]) (rest := []) ⟨hx, hb, hml, hown, hts⟩ (c_X7_readNumber l (D := D) (ad := ad) (cy := cy) (sa := sa) (va := va) (I := I) (J := J) (0 : Int32) ((I c0 7) - (1 : Int32)) h3) (cwV 2 hts gX7_readTwo_X7_readNumber rfl rfl rfl (by decide +kernel) ⟨Nat.le_of_ble_eq_true rfl, Nat.le_of_ble_eq_true rfl⟩) ⟨qPre_blind _, q_recv hK hP oX7 rfl, fun U hU hW => ⟨rfl, qPre_of hP hK hE hN hS U hU hW⟩⟩ rfl rfl hl.1 rfl (lv_room (Nat.le_of_ble_eq_true rfl)) dX7_readTwo_8 ⟨Nat.le_of_ble_eq_true rfl, Nat.le_of_ble_eq_true rfl⟩) hS (fun H locs hP hS => ?_)
  refine lv_istore_n (lv' := [(3, .int v1), (0, .ref (ad 25)), (1, .ref (ad c0)), (2, .int p1)]) hx hb dX7_readTwo_11 rfl hl (by decide) rfl (fun ls hl => ?_)
  refine lv_aload_n hx hb dX7_readTwo_12 rfl (lv_at hl 1 rfl) ?_
  refine lv_iconst (v := 0) hx hb dX7_readTwo_13 (by decide) ?_
  refine lv_aload_n hx hb dX7_readTwo_14 rfl (lv_at hl 2 rfl) ?_
  refine q_get (C := RX2) (T := TX2) (N := 13) (ci := 2) (v := .int (I2 c0 7)) hx hb hts in_X7_readTwo_X2 hown hK hP (oX2 zc0) rfl 7 (by decide) (hts (.fieldLink RX7 86 "RowsOnlyPrimes$Bank" "size" "I") (by decide +kernel)) (fun _ h9 => h9) rfl dX7_readTwo_15 ?_
  refine lv_iconst (v := 1) hx hb dX7_readTwo_18 (by decide) ?_
  refine lv_isub hx hb dX7_readTwo_19 ?_
  obtain ⟨v4, I5, h6, hf⟩ := bd2_ok hf
  refine q_cEi (va_runV (As := [.int (0 : Int32), .int ((I2 c0 7) - (1 : Int32))]) (rest := []) ⟨hx, hb, hml, hown, hts⟩ (c_X7_readNumber l (D := D) (ad := ad) (cy := cy) (sa := sa) (va := va) (I := I2) (J := J) (0 : Int32) ((I2 c0 7) - (1 : Int32)) h6) (cwV 2 hts gX7_readTwo_X7_readNumber rfl rfl rfl (by decide +kernel) ⟨Nat.le_of_ble_eq_true rfl, Nat.le_of_ble_eq_true rfl⟩) ⟨qPre_blind _, q_recv hK hP oX7 rfl, fun U hU hW => ⟨rfl, qPre_of hP hK hE hN hS U hU hW⟩⟩ rfl rfl hl.1 rfl (lv_room (Nat.le_of_ble_eq_true rfl)) dX7_readTwo_20 ⟨Nat.le_of_ble_eq_true rfl, Nat.le_of_ble_eq_true rfl⟩) hS (fun H locs hP hS => ?_)
  refine lv_istore (lv' := [(4, .int v4), (3, .int v1), (0, .ref (ad 25)), (1, .ref (ad c0)), (2, .int p1)]) hx hb dX7_readTwo_23 hl (by decide) rfl (fun ls hl => ?_)
  refine lv_iload_n hx hb dX7_readTwo_25 rfl (lv_at hl 1 rfl) ?_
  refine lv_iload hx hb dX7_readTwo_26 (lv_at hl 0 rfl) ?_
  refine lv_icmp_ne (tgt := 36) hx hb dX7_readTwo_28 (by decide) (fun cc => ?_) (fun cc => ?_)
  · have hf := (if_ok hf).2 cc
    exact w_X7_readTwo_36 C hK hE hN c0 zc0   p1 v1 v4 I5 _ _ _ hf (lv_sub hl [2, 3, 4, 1, 0] rfl) hP hS
  · have hf := (if_ok hf).1 cc
    refine lv_aload_n hx hb dX7_readTwo_31 rfl (lv_at hl 2 rfl) ?_
    refine lv_iconst (v := 1) hx hb dX7_readTwo_32 (by decide) ?_
    obtain ⟨I7, eI7, hf⟩ := lt_ok hf
    refine q_put (C := RX7) (T := TX7) (N := 6) (ci := 7) (v := .int (1 : Int32)) (x := (1 : Int32)) (ty := .boolean) hx hb hts in_X7_readTwo_X7 tyX7 tyX7_ok nmX7 hown hK hP hN hS oX7 rfl 5 (by decide) (hts (.fieldLink RX7 26 "RowsOnlyPrimes$Tape" "failed" "Z") (by decide +kernel)) (fun _ h9 => h9) rfl (by decide +kernel) rfl rfl (fun _ _ => rfl) (fun _ _ => Nat.le_of_ble_eq_true rfl) dX7_readTwo_33 (fun H locs hP hS => ?_)
    rw [← eI7] at hP
    exact w_X7_readTwo_36 C hK hE hN c0 zc0   p1 v1 v4 I7 _ _ _ hf (lv_sub hl [2, 3, 4, 1, 0] rfl) hP hS
abbrev r_X7_readTold : Room := { frames := 4, cells := 0, slots := 0, locals := 85 }
theorem in_X7_readTold_X2 : ∀ w ∈ u_ws RX2 TX2 13, w ∈ wsX7_readTold := by decide +kernel
theorem in_X7_readTold_X7 : ∀ w ∈ u_ws RX7 TX7 6, w ∈ wsX7_readTold := by decide +kernel
set_option maxHeartbeats 4000000 in
set_option maxRecDepth 100000 in
theorem c_X7_readTold (l : Launch) {D : va_G} {ad : Nat → Nat} {cy : Nat → ClassId} {sa va : Nat → Nat} {I : qI} {J : qJ} (c0 : Nat) (zc0 : isB c0) (p1 : Int32) {Ie : qI} (hf : f_X7_readTold c0 p1 I = some Ie) : Met l yX7_readTold wsX7_readTold r_X7_readTold (va_Pc [.ref (ad 25), .ref (ad c0), .int p1] (qPre D xS ad cy sa va (eX ad cy) I J)) (va_Qv (S := Unit) (fun _ => True) (fun _ t => qP D xS ad (eX ad cy) Ie J t.heap) (qA xS ad)) 0 0 (qA xS ad) := by
  refine Met.ofW (cc := cX7_readTold) (maxL := 4) (ret := none) (by decide) rfl ?_
  intro p e s m args below meth c s₁ B hml hv
  obtain ⟨rfl, hP, hK, hE, hN⟩ := hv
  have C : qC p s m _ meth c cX7_readTold 4 RX7 wsX7_readTold none := ⟨⟨B.exec, B.bytes, hml, findClass_of_methodNamed B.named, atoms_spec (ws := wsX7_readTold) B.pre⟩, B.returns, B.notSynchronized⟩
  have C0 := C
  obtain ⟨⟨hx, hb, hml, hown, hts⟩, hr, hlocks⟩ := C0
  obtain ⟨tTOLD_LEAST, hZTOLD_LEAST, hTTOLD_LEAST⟩ := hE.1.2.2.1
  obtain ⟨tTOLD_MOST, hZTOLD_MOST, hTTOLD_MOST⟩ := hE.1.2.2.2
  have hS : va_S (qA xS ad) s.heap s.heap [] := va_S.rf
  have hl := lv_entry ([.ref (ad 25), .ref (ad c0), .int p1]) (n := 4) (Nat.le_of_ble_eq_true rfl)
  rw [lg_entry_eq]
  generalize (lg_sl ([.ref (ad 25), .ref (ad c0), .int p1]) ++ List.replicate (4 - (lg_sl ([.ref (ad 25), .ref (ad c0), .int p1])).length) Slot.unset).toArray = ls at hl ⊢
  have hl : lv_has ls 4 [(0, .ref (ad 25)), (1, .ref (ad c0)), (2, .int p1)] := hl
  unfold f_X7_readTold at hf
  refine lv_aload_n hx hb dX7_readTold_0 rfl (lv_at hl 0 rfl) ?_
  refine va_getsN (C := RX8) (ref := RX8) (host := RX8) (v := .ref tTOLD_LEAST) hx hb hZTOLD_LEAST hS hown (va_Nw.use rfl (hK.2.1.2.2.2.1)) (fun _ h9 => h9) dX7_readTold_1 ?_
  refine lv_iload_n hx hb dX7_readTold_4 rfl (lv_at hl 2 rfl) ?_
  obtain ⟨g1, hf⟩ := gd_ok hf
  refine q_stat (tab := qTab2) hx hb hTTOLD_LEAST hS g1 dX7_readTold_5 ?_
  refine va_getsN (C := RX8) (ref := RX8) (host := RX8) (v := .ref tTOLD_MOST) hx hb hZTOLD_MOST hS hown (va_Nw.use rfl (hK.2.1.2.2.2.2)) (fun _ h9 => h9) dX7_readTold_6 ?_
  refine lv_iload_n hx hb dX7_readTold_9 rfl (lv_at hl 2 rfl) ?_
  obtain ⟨g2, hf⟩ := gd_ok hf
  refine q_stat (tab := qTab3) hx hb hTTOLD_MOST hS g2 dX7_readTold_10 ?_
  obtain ⟨v3, I4, h5, hf⟩ := bd2_ok hf
  refine q_cEi (va_runV (As := [.int (qTab2.getD p1.toNatClampNeg 0), .int (qTab3.getD p1.toNatClampNeg 0)]) (rest := []) ⟨hx, hb, hml, hown, hts⟩ (c_X7_readNumber l (D := D) (ad := ad) (cy := cy) (sa := sa) (va := va) (I := I) (J := J) (qTab2.getD p1.toNatClampNeg 0) (qTab3.getD p1.toNatClampNeg 0) h5) (cwV 2 hts gX7_readTold_X7_readNumber rfl rfl rfl (by decide +kernel) ⟨Nat.le_of_ble_eq_true rfl, Nat.le_of_ble_eq_true rfl⟩) ⟨qPre_blind _, q_recv hK hP oX7 rfl, fun U hU hW => ⟨rfl, qPre_of hP hK hE hN hS U hU hW⟩⟩ rfl rfl hl.1 rfl (lv_room (Nat.le_of_ble_eq_true rfl)) dX7_readTold_11 ⟨Nat.le_of_ble_eq_true rfl, Nat.le_of_ble_eq_true rfl⟩) hS (fun H locs hP hS => ?_)
  refine lv_istore_n (lv' := [(3, .int v3), (0, .ref (ad 25)), (1, .ref (ad c0)), (2, .int p1)]) hx hb dX7_readTold_14 rfl hl (by decide) rfl (fun ls hl => ?_)
  refine lv_aload_n hx hb dX7_readTold_15 rfl (lv_at hl 1 rfl) ?_
  refine q_get (C := RX7) (T := TX7) (N := 6) (ci := 7) (v := .int (I4 25 5)) hx hb hts in_X7_readTold_X7 hown hK hP oX7 rfl 5 (by decide) (hts (.fieldLink RX7 26 "RowsOnlyPrimes$Tape" "failed" "Z") (by decide +kernel)) (fun _ h9 => h9) rfl dX7_readTold_16 ?_
  refine lv_if_ne (tgt := 29) hx hb dX7_readTold_19 (by decide) (fun cc => ?_) (fun cc => ?_)
  · have hf := (if_ok hf).2 cc
    have e9 := Option.some.inj hf
    have eI9 : I4 = Ie := e9
    exact W.vret hx hb hr (fun t ht _ => ⟨⟨(), rfl, trivial, by show qP D _ ad _ _ _ t.heap; rw [ht, ← eI9]; exact hP⟩, hS.F ht⟩) hS.2.2 dX7_readTold_29
  · have hf := (if_ok hf).1 cc
    refine lv_aload_n hx hb dX7_readTold_22 rfl (lv_at hl 2 rfl) ?_
    refine q_get (C := RX2) (T := TX2) (N := 13) (ci := 2) (v := .ref (ad (c0 + 7))) hx hb hts in_X7_readTold_X2 hown hK hP (oX2 zc0) rfl 6 (by decide) (hts (.fieldLink RX7 99 "RowsOnlyPrimes$Bank" "told" "[I") (by decide +kernel)) (fun _ h9 => h9) rfl dX7_readTold_23 ?_
    refine lv_iload_n hx hb dX7_readTold_26 rfl (lv_at hl 3 rfl) ?_
    refine lv_iload_n hx hb dX7_readTold_27 rfl (lv_at hl 0 rfl) ?_
    obtain ⟨g6, hf⟩ := gd_ok hf
    obtain ⟨I7, eI7, hf⟩ := lt_ok hf
    refine q_iast hx hb hK hP hN hS (aX2_7 zc0) g6 dX7_readTold_28 (fun H locs hP hS => ?_)
    have hP : qP D xS ad (eX ad cy) I7 J H := by rw [eI7]; exact hP
    have e9 := Option.some.inj hf
    have eI9 : I7 = Ie := e9
    exact W.vret hx hb hr (fun t ht _ => ⟨⟨(), rfl, trivial, by show qP D _ ad _ _ _ t.heap; rw [ht, ← eI9]; exact hP⟩, hS.F ht⟩) hS.2.2 dX7_readTold_29
end
