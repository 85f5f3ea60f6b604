/-! machine: X2_everybody X2_here J7_fill_53178 X8_within X6_hasRow X6_hasPlaces X6_at X2_isSquare X2_isPrime X2_lets X8_has X2_headsIf X2_headsOf X2_headsTogether X2_agrees X0_markFits X0_firstFit X0_waysFrom X0_waysToCross X1_winningStep X1_firstBid X2_become (written by wip/gen/gen.py) -/
section
variable {p : Program} {l : Launch} {e : Env} {s : State} {m : MethodId} {args : Array Value} {below : List Frame} {meth : Method} {c : Code} {D : va_G} {ad : Nat → Nat} {cy : Nat → ClassId} {sa va : Nat → Nat}
abbrev r_X2_everybody : Room := { frames := 0, cells := 0, slots := 0, locals := 0 }
theorem in_X2_everybody_X2 : ∀ w ∈ u_ws RX2 TX2 13, w ∈ wsX2_everybody := by decide +kernel
set_option maxHeartbeats 4000000 in
set_option maxRecDepth 100000 in
theorem c_X2_everybody (l : Launch) {D : va_G} {ad : Nat → Nat} {cy : Nat → ClassId} {sa va : Nat → Nat} {I : qI} {J : qJ} (b : Nat) (zb : isB b)  {r : Int32} (hf : f_X2_everybody b I = some r) : Met l yX2_everybody wsX2_everybody r_X2_everybody (va_Pc [.ref (ad b)] (qPre D xS ad cy sa va (eX ad cy) I J)) (vp_Si (fun x => x = r)) 0 0 (fun _ => False) := by
  refine Met.ofW (cc := cX2_everybody) (maxL := 1) (ret := (some .int)) (by decide) rfl ?_
  intro p e s m args below meth c s₁ B hml hv
  obtain ⟨rfl, hP, hK, hE, hN⟩ := hv
  have C : qC p s m _ meth c cX2_everybody 1 RX2 wsX2_everybody (some .int) := ⟨⟨B.exec, B.bytes, hml, findClass_of_methodNamed B.named, atoms_spec (ws := wsX2_everybody) B.pre⟩, B.returns, B.notSynchronized⟩
  have C0 := C
  obtain ⟨⟨hx, hb, hml, hown, hts⟩, hr, hlocks⟩ := C0
  have hl := lv_entry ([.ref (ad b)]) (n := 1) (Nat.le_of_ble_eq_true rfl)
  rw [lg_entry_eq]
  generalize (lg_sl ([.ref (ad b)]) ++ List.replicate (1 - (lg_sl ([.ref (ad b)])).length) Slot.unset).toArray = ls at hl ⊢
  have hl : lv_has ls 1 [(0, .ref (ad b))] := hl
  unfold f_X2_everybody at hf
  refine lv_iconst (v := 1) hx hb dX2_everybody_0 (by decide) ?_
  refine lv_aload_n hx hb dX2_everybody_1 rfl (lv_at hl 0 rfl) ?_
  refine q_get (C := RX2) (T := TX2) (N := 13) (ci := 2) (v := .int (I b 7)) hx hb hts in_X2_everybody_X2 hown hK hP (oX2 zb) rfl 7 (by decide) (hts (.fieldLink RX2 46 "RowsOnlyPrimes$Bank" "size" "I") (by decide +kernel)) (fun _ h9 => h9) rfl dX2_everybody_2 ?_
  refine lv_ishl hx hb dX2_everybody_5 ?_
  refine lv_iconst (v := 1) hx hb dX2_everybody_6 (by decide) ?_
  refine lv_isub hx hb dX2_everybody_7 ?_
  exact W.iret hx hb hr (fun t ht _ => ⟨_, rfl, Option.some.inj hf, ht⟩) (fun _ h => by cases h) dX2_everybody_8
abbrev r_X2_here : Room := { frames := 1, cells := 0, slots := 0, locals := 20 }
theorem in_X2_here_X2 : ∀ w ∈ u_ws RX2 TX2 13, w ∈ wsX2_here := by decide +kernel
set_option maxHeartbeats 4000000 in
set_option maxRecDepth 100000 in
theorem c_X2_here (l : Launch) {D : va_G} {ad : Nat → Nat} {cy : Nat → ClassId} {sa va : Nat → Nat} {I : qI} {J : qJ} (b : Nat) (zb : isB b)  {r : Int32} (hf : f_X2_here b I = some r) : Met l yX2_here wsX2_here r_X2_here (va_Pc [.ref (ad b)] (qPre D xS ad cy sa va (eX ad cy) I J)) (vp_Si (fun x => x = r)) 0 0 (fun _ => False) := by
  refine Met.ofW (cc := cX2_here) (maxL := 1) (ret := (some .int)) (by decide) rfl ?_
  intro p e s m args below meth c s₁ B hml hv
  obtain ⟨rfl, hP, hK, hE, hN⟩ := hv
  have C : qC p s m _ meth c cX2_here 1 RX2 wsX2_here (some .int) := ⟨⟨B.exec, B.bytes, hml, findClass_of_methodNamed B.named, atoms_spec (ws := wsX2_here) B.pre⟩, B.returns, B.notSynchronized⟩
  have C0 := C
  obtain ⟨⟨hx, hb, hml, hown, hts⟩, hr, hlocks⟩ := C0
  have hl := lv_entry ([.ref (ad b)]) (n := 1) (Nat.le_of_ble_eq_true rfl)
  rw [lg_entry_eq]
  generalize (lg_sl ([.ref (ad b)]) ++ List.replicate (1 - (lg_sl ([.ref (ad b)])).length) Slot.unset).toArray = ls at hl ⊢
  have hl : lv_has ls 1 [(0, .ref (ad b))] := hl
  unfold f_X2_here at hf
  refine lv_aload_n hx hb dX2_here_0 rfl (lv_at hl 0 rfl) ?_
  obtain ⟨v1, h2, hf⟩ := bd_ok hf
  refine q_cSi (va_runV (As := []) (rest := []) ⟨hx, hb, hml, hown, hts⟩ (c_X2_everybody l (D := D) (ad := ad) (cy := cy) (sa := sa) (va := va) (I := I) (J := J) b zb h2) (cwV 0 hts gX2_here_X2_everybody rfl rfl rfl (by decide +kernel) ⟨Nat.le_of_ble_eq_true rfl, Nat.le_of_ble_eq_true rfl⟩) ⟨qPre_blind _, q_recv hK hP (oX2 zb) rfl, fun U hU hW => ⟨rfl, qPre_of hP hK hE hN va_S.rf U hU hW⟩⟩ rfl rfl hl.1 rfl (lv_room (Nat.le_of_ble_eq_true rfl)) dX2_here_1 ⟨Nat.le_of_ble_eq_true rfl, Nat.le_of_ble_eq_true rfl⟩) ?_
  refine lv_aload_n hx hb dX2_here_4 rfl (lv_at hl 0 rfl) ?_
  refine q_get (C := RX2) (T := TX2) (N := 13) (ci := 2) (v := .int (I b 8)) hx hb hts in_X2_here_X2 hown hK hP (oX2 zb) rfl 8 (by decide) (hts (.fieldLink RX2 49 "RowsOnlyPrimes$Bank" "over" "I") (by decide +kernel)) (fun _ h9 => h9) rfl dX2_here_5 ?_
  refine lv_iconst (v := -1) hx hb dX2_here_8 (by decide) ?_
  refine lv_ixor hx hb dX2_here_9 ?_
  refine lv_iand hx hb dX2_here_10 ?_
  exact W.iret hx hb hr (fun t ht _ => ⟨_, rfl, Option.some.inj hf, ht⟩) (fun _ h => by cases h) dX2_here_11
abbrev r_J7_fill_53178 : Room := { frames := 0, cells := 0, slots := 0, locals := 0 }
set_option maxHeartbeats 4000000 in
set_option maxRecDepth 100000 in
theorem w_J7_fill_53178_5 {S : Nat → Prop} {ee : qE} (C : qC p s m args meth c cJ7_fill_53178 4 RJ7 wsJ7_fill_53178 none) (hK : qK D cy sa s) (hE : qEnv sa va (qA S ad) s s.heap) (hN : qN S ad) (k0 : Nat) (n0 : Nat) (zk0 : qAI S ee cy k0 n0) {J : qJ} {Ie : qI} : ∀ (n : Nat) (x1 : Int32) (x2 : Int32) (x3 : Int32)  (I : qI) (ls : Array Slot) (H : Heap) (locs : List Loc), f_J7_fill_53178_5 k0 n0 n x1 x2 x3 I = some Ie → lv_has ls 4 [(0, .ref (ad k0)), (1, .int x1), (2, .int x2), (3, .int x3)] → qP D S ad ee I J H → va_S (qA S ad) s.heap H locs → W p l e (headSpec wsJ7_fill_53178 r_J7_fill_53178).room s m args below meth c H locs 0 0 (MQ below (va_Qv (S := Unit) (fun _ => True) (fun _ t => qP D S ad ee Ie J t.heap) (qA S ad)) args s 0 0 (qA S ad)) (F0 m 5 ls []) := by
  have C0 := C
  obtain ⟨⟨hx, hb, hml, hown, hts⟩, hr, hlocks⟩ := C0
  intro n
  induction n with
  | zero =>
    intro x1 x2 x3 I ls H locs hf hl hP hS
    rw [f_J7_fill_53178_5] at hf
    cases hf
  | succ n ih =>
    intro x1 x2 x3 I ls H locs hf hl hP hS
    rw [f_J7_fill_53178_5] at hf
    refine lv_iload_n hx hb dJ7_fill_53178_5 rfl (lv_at hl 2 rfl) ?_
    refine lv_iload_n hx hb dJ7_fill_53178_6 rfl (lv_at hl 3 rfl) ?_
    refine lv_icmp_ge (tgt := 20) hx hb dJ7_fill_53178_7 (by decide) (fun cc => ?_) (fun cc => ?_)
    · have hf := (if_ok hf).1 cc
      have e9 := Option.some.inj hf
      have eI9 : I = Ie := e9
      exact W.vret hx hb hr (fun t ht _ => ⟨⟨(), rfl, trivial, by show qP D _ ad _ _ _ t.heap; rw [ht, ← eI9]; exact hP⟩, hS.F ht⟩) hS.2.2 dJ7_fill_53178_20
    · have hf := (if_ok hf).2 cc
      refine lv_aload_n hx hb dJ7_fill_53178_10 rfl (lv_at hl 0 rfl) ?_
      refine lv_iload_n hx hb dJ7_fill_53178_11 rfl (lv_at hl 2 rfl) ?_
      refine lv_iload_n hx hb dJ7_fill_53178_12 rfl (lv_at hl 1 rfl) ?_
      obtain ⟨g1, hf⟩ := gd_ok hf
      obtain ⟨I2, eI2, hf⟩ := lt_ok hf
      refine q_iast hx hb hK hP hN hS zk0 g1 dJ7_fill_53178_13 (fun H locs hP hS => ?_)
      have hP : qP D S ad ee I2 J H := by rw [eI2]; exact hP
      refine lv_iinc (v := (x2 + (1 : Int32))) (lv' := [(2, .int (x2 + (1 : Int32))), (0, .ref (ad k0)), (1, .int x1), (3, .int x3)]) hx hb dJ7_fill_53178_14 hl (k := 2) rfl rfl (by decide) rfl (fun ls hl => ?_)
      refine lv_goto (tgt := 5) hx hb dJ7_fill_53178_17 (by decide) ?_
      exact ih x1 (x2 + (1 : Int32)) x3 I2 _ _ _ hf (lv_sub hl [1, 2, 0, 3] rfl) hP hS
set_option maxHeartbeats 4000000 in
set_option maxRecDepth 100000 in
theorem c_J7_fill_53178 (l : Launch) {D : va_G} {ad : Nat → Nat} {cy : Nat → ClassId} {sa va : Nat → Nat} {I : qI} {J : qJ} {S : Nat → Prop} {ee : qE} (k0 : Nat) (n0 : Nat) (zk0 : qAI S ee cy k0 n0) (p1 : Int32) {Ie : qI} (hf : f_J7_fill_53178 k0 n0 p1 I = some Ie) : Met l yJ7_fill_53178 wsJ7_fill_53178 r_J7_fill_53178 (va_Pc [.ref (ad k0), .int p1] (qPre D S ad cy sa va ee I J)) (va_Qv (S := Unit) (fun _ => True) (fun _ t => qP D S ad ee Ie J t.heap) (qA S ad)) 0 0 (qA S ad) := by
  refine Met.ofW (cc := cJ7_fill_53178) (maxL := 4) (ret := none) (by decide) rfl ?_
  intro p e s m args below meth c s₁ B hml hv
  obtain ⟨rfl, hP, hK, hE, hN⟩ := hv
  have C : qC p s m _ meth c cJ7_fill_53178 4 RJ7 wsJ7_fill_53178 none := ⟨⟨B.exec, B.bytes, hml, findClass_of_methodNamed B.named, atoms_spec (ws := wsJ7_fill_53178) B.pre⟩, B.returns, B.notSynchronized⟩
  have C0 := C
  obtain ⟨⟨hx, hb, hml, hown, hts⟩, hr, hlocks⟩ := C0
  have hS : va_S (qA S ad) s.heap s.heap [] := va_S.rf
  have hl := lv_entry ([.ref (ad k0), .int p1]) (n := 4) (Nat.le_of_ble_eq_true rfl)
  rw [lg_entry_eq]
  generalize (lg_sl ([.ref (ad k0), .int p1]) ++ List.replicate (4 - (lg_sl ([.ref (ad k0), .int p1])).length) Slot.unset).toArray = ls at hl ⊢
  have hl : lv_has ls 4 [(0, .ref (ad k0)), (1, .int p1)] := hl
  unfold f_J7_fill_53178 at hf
  refine lv_iconst (v := 0) hx hb dJ7_fill_53178_0 (by decide) ?_
  refine lv_istore_n (lv' := [(2, .int (0 : Int32)), (0, .ref (ad k0)), (1, .int p1)]) hx hb dJ7_fill_53178_1 rfl hl (by decide) rfl (fun ls hl => ?_)
  refine lv_aload_n hx hb dJ7_fill_53178_2 rfl (lv_at hl 1 rfl) ?_
  refine q_alenI (v := (Int32.ofNat n0)) hx hb hK hP zk0 rfl dJ7_fill_53178_3 ?_
  refine lv_istore_n (lv' := [(3, .int (Int32.ofNat n0)), (2, .int (0 : Int32)), (0, .ref (ad k0)), (1, .int p1)]) hx hb dJ7_fill_53178_4 rfl hl (by decide) rfl (fun ls hl => ?_)
  exact w_J7_fill_53178_5 C hK hE hN k0 n0 zk0  1000 p1 (0 : Int32) (Int32.ofNat n0) I _ _ _ hf (lv_sub hl [2, 3, 1, 0] rfl) hP hS
abbrev r_X8_within : Room := { frames := 0, cells := 0, slots := 0, locals := 0 }
set_option maxHeartbeats 4000000 in
set_option maxRecDepth 100000 in
theorem c_X8_within (l : Launch) {D : va_G} {ad : Nat → Nat} {cy : Nat → ClassId} {sa va : Nat → Nat} {I : qI} {J : qJ}   (p0 : Int32) (p1 : Int32) (p2 : Int32) {r : Int32} (hf : f_X8_within p0 p1 p2 = some r) : Met l yX8_within wsX8_within r_X8_within (va_Pc [.int p0, .int p1, .int p2] (qPre D xS ad cy sa va (eX ad cy) I J)) (vp_Si (fun x => x = r)) 0 0 (fun _ => False) := by
  refine Met.ofW (cc := cX8_within) (maxL := 3) (ret := (some .boolean)) (by decide) rfl ?_
  intro p e s m args below meth c s₁ B hml hv
  obtain ⟨rfl, hP, hK, hE, hN⟩ := hv
  have C : qC p s m _ meth c cX8_within 3 RX8 wsX8_within (some .boolean) := ⟨⟨B.exec, B.bytes, hml, findClass_of_methodNamed B.named, atoms_spec (ws := wsX8_within) B.pre⟩, B.returns, B.notSynchronized⟩
  have C0 := C
  obtain ⟨⟨hx, hb, hml, hown, hts⟩, hr, hlocks⟩ := C0
  have hl := lv_entry ([.int p0, .int p1, .int p2]) (n := 3) (Nat.le_of_ble_eq_true rfl)
  rw [lg_entry_eq]
  generalize (lg_sl ([.int p0, .int p1, .int p2]) ++ List.replicate (3 - (lg_sl ([.int p0, .int p1, .int p2])).length) Slot.unset).toArray = ls at hl ⊢
  have hl : lv_has ls 3 [(0, .int p0), (1, .int p1), (2, .int p2)] := hl
  unfold f_X8_within at hf
  refine lv_iload_n hx hb dX8_within_0 rfl (lv_at hl 0 rfl) ?_
  refine lv_iload_n hx hb dX8_within_1 rfl (lv_at hl 1 rfl) ?_
  refine lv_icmp_lt (tgt := 14) hx hb dX8_within_2 (by decide) (fun cc => ?_) (fun cc => ?_)
  · have hf := (if_ok hf).1 cc
    refine lv_iconst (v := 0) hx hb dX8_within_14 (by decide) ?_
    exact W.zret (ty := .boolean) hx hb hr rfl (fun t ht _ => ⟨_, rfl, Option.some.inj hf, ht⟩) (fun _ h => by cases h) dX8_within_15
  · have hf := (if_ok hf).2 cc
    refine lv_iload_n hx hb dX8_within_5 rfl (lv_at hl 0 rfl) ?_
    refine lv_iload_n hx hb dX8_within_6 rfl (lv_at hl 2 rfl) ?_
    refine lv_icmp_gt (tgt := 14) hx hb dX8_within_7 (by decide) (fun cc => ?_) (fun cc => ?_)
    · have hf := (if_ok hf).1 cc
      refine lv_iconst (v := 0) hx hb dX8_within_14 (by decide) ?_
      exact W.zret (ty := .boolean) hx hb hr rfl (fun t ht _ => ⟨_, rfl, Option.some.inj hf, ht⟩) (fun _ h => by cases h) dX8_within_15
    · have hf := (if_ok hf).2 cc
      refine lv_iconst (v := 1) hx hb dX8_within_10 (by decide) ?_
      refine lv_goto (tgt := 15) hx hb dX8_within_11 (by decide) ?_
      exact W.zret (ty := .boolean) hx hb hr rfl (fun t ht _ => ⟨_, rfl, Option.some.inj hf, ht⟩) (fun _ h => by cases h) dX8_within_15
abbrev r_X6_hasRow : Room := { frames := 1, cells := 0, slots := 0, locals := 22 }
theorem in_X6_hasRow_X6 : ∀ w ∈ u_ws RX6 TX6 3, w ∈ wsX6_hasRow := by decide +kernel
set_option maxHeartbeats 4000000 in
set_option maxRecDepth 100000 in
theorem c_X6_hasRow (l : Launch) {D : va_G} {ad : Nat → Nat} {cy : Nat → ClassId} {sa va : Nat → Nat} {I : qI} {J : qJ} (k : Nat) (zk : isSh k)  {r : Int32} (hf : f_X6_hasRow k I = some r) : Met l yX6_hasRow wsX6_hasRow r_X6_hasRow (va_Pc [.ref (ad k)] (qPre D xS ad cy sa va (eX ad cy) I J)) (vp_Si (fun x => x = r)) 0 0 (fun _ => False) := by
  refine Met.ofW (cc := cX6_hasRow) (maxL := 1) (ret := (some .boolean)) (by decide) rfl ?_
  intro p e s m args below meth c s₁ B hml hv
  obtain ⟨rfl, hP, hK, hE, hN⟩ := hv
  have C : qC p s m _ meth c cX6_hasRow 1 RX6 wsX6_hasRow (some .boolean) := ⟨⟨B.exec, B.bytes, hml, findClass_of_methodNamed B.named, atoms_spec (ws := wsX6_hasRow) B.pre⟩, B.returns, B.notSynchronized⟩
  have C0 := C
  obtain ⟨⟨hx, hb, hml, hown, hts⟩, hr, hlocks⟩ := C0
  have hl := lv_entry ([.ref (ad k)]) (n := 1) (Nat.le_of_ble_eq_true rfl)
  rw [lg_entry_eq]
  generalize (lg_sl ([.ref (ad k)]) ++ List.replicate (1 - (lg_sl ([.ref (ad k)])).length) Slot.unset).toArray = ls at hl ⊢
  have hl : lv_has ls 1 [(0, .ref (ad k))] := hl
  unfold f_X6_hasRow at hf
  refine lv_aload_n hx hb dX6_hasRow_0 rfl (lv_at hl 0 rfl) ?_
  refine q_get (C := RX6) (T := TX6) (N := 3) (ci := 6) (v := .int (I k 1)) hx hb hts in_X6_hasRow_X6 hown hK hP (oX6 zk) rfl 1 (by decide) (hts (.fieldLink RX6 15 "RowsOnlyPrimes$Shelf" "content" "I") (by decide +kernel)) (fun _ h9 => h9) rfl dX6_hasRow_1 ?_
  refine lv_iconst (v := 0) hx hb dX6_hasRow_4 (by decide) ?_
  refine lv_iconst (v := 4) hx hb dX6_hasRow_5 (by decide) ?_
  obtain ⟨v1, h2, hf⟩ := bd_ok hf
  refine q_cSi (va_runSN (host := RX8) (As := [.int (I k 1), .int (0 : Int32), .int (4 : Int32)]) (rest := []) ⟨hx, hb, hml, hown, hts⟩ (c_X8_within l (D := D) (ad := ad) (cy := cy) (sa := sa) (va := va) (I := I) (J := J) (I k 1) (0 : Int32) (4 : Int32) h2) ⟨va_cnB 3 hts gX6_hasRow_X8_within_n19 rfl rfl rfl (hK.2.1.2.1.1) (hts (.initialized RX8) (by decide +kernel)) (by decide +kernel) ⟨Nat.le_of_ble_eq_true rfl, Nat.le_of_ble_eq_true rfl⟩, (hts (.static yX8_within) (by decide +kernel)), trivial⟩ ⟨qPre_blind _, fun U hU hW => ⟨rfl, qPre_of hP hK hE hN va_S.rf U hU hW⟩⟩ rfl rfl hl.1 rfl (lv_room (Nat.le_of_ble_eq_true rfl)) dX6_hasRow_6 ⟨Nat.le_of_ble_eq_true rfl, Nat.le_of_ble_eq_true rfl⟩) ?_
  obtain ⟨g3, hf⟩ := gd_ok hf
  exact W.zret (ty := .boolean) hx hb hr (q_narZ g3) (fun t ht _ => ⟨_, rfl, Option.some.inj hf, ht⟩) (fun _ h => by cases h) dX6_hasRow_9
abbrev r_X6_hasPlaces : Room := { frames := 2, cells := 0, slots := 0, locals := 42 }
theorem in_X6_hasPlaces_X6 : ∀ w ∈ u_ws RX6 TX6 3, w ∈ wsX6_hasPlaces := by decide +kernel
set_option maxHeartbeats 4000000 in
set_option maxRecDepth 100000 in
theorem c_X6_hasPlaces (l : Launch) {D : va_G} {ad : Nat → Nat} {cy : Nat → ClassId} {sa va : Nat → Nat} {I : qI} {J : qJ} (k : Nat) (zk : isSh k) (p0 : Int32) (p1 : Int32) {r : Int32} (hf : f_X6_hasPlaces k p0 p1 I = some r) : Met l yX6_hasPlaces wsX6_hasPlaces r_X6_hasPlaces (va_Pc [.ref (ad k), .int p0, .int p1] (qPre D xS ad cy sa va (eX ad cy) I J)) (vp_Si (fun x => x = r)) 0 0 (fun _ => False) := by
  refine Met.ofW (cc := cX6_hasPlaces) (maxL := 3) (ret := (some .boolean)) (by decide) rfl ?_
  intro p e s m args below meth c s₁ B hml hv
  obtain ⟨rfl, hP, hK, hE, hN⟩ := hv
  have C : qC p s m _ meth c cX6_hasPlaces 3 RX6 wsX6_hasPlaces (some .boolean) := ⟨⟨B.exec, B.bytes, hml, findClass_of_methodNamed B.named, atoms_spec (ws := wsX6_hasPlaces) B.pre⟩, B.returns, B.notSynchronized⟩
  have C0 := C
  obtain ⟨⟨hx, hb, hml, hown, hts⟩, hr, hlocks⟩ := C0
  have hl := lv_entry ([.ref (ad k), .int p0, .int p1]) (n := 3) (Nat.le_of_ble_eq_true rfl)
  rw [lg_entry_eq]
  generalize (lg_sl ([.ref (ad k), .int p0, .int p1]) ++ List.replicate (3 - (lg_sl ([.ref (ad k), .int p0, .int p1])).length) Slot.unset).toArray = ls at hl ⊢
  have hl : lv_has ls 3 [(0, .ref (ad k)), (1, .int p0), (2, .int p1)] := hl
  unfold f_X6_hasPlaces at hf
  refine lv_aload_n hx hb dX6_hasPlaces_0 rfl (lv_at hl 0 rfl) ?_
  obtain ⟨v1, h2, hf⟩ := bd_ok hf
  refine q_cSi (va_runV (As := []) (rest := []) ⟨hx, hb, hml, hown, hts⟩ (c_X6_hasRow l (D := D) (ad := ad) (cy := cy) (sa := sa) (va := va) (I := I) (J := J) k zk h2) (cwV 0 hts gX6_hasPlaces_X6_hasRow rfl rfl rfl (by decide +kernel) ⟨Nat.le_of_ble_eq_true rfl, Nat.le_of_ble_eq_true rfl⟩) ⟨qPre_blind _, q_recv hK hP (oX6 zk) rfl, fun U hU hW => ⟨rfl, qPre_of hP hK hE hN va_S.rf U hU hW⟩⟩ rfl rfl hl.1 rfl (lv_room (Nat.le_of_ble_eq_true rfl)) dX6_hasPlaces_1 ⟨Nat.le_of_ble_eq_true rfl, Nat.le_of_ble_eq_true rfl⟩) ?_
  refine lv_if_eq (tgt := 37) hx hb dX6_hasPlaces_4 (by decide) (fun cc => ?_) (fun cc => ?_)
  · have hf := (if_ok hf).1 cc
    refine lv_iconst (v := 0) hx hb dX6_hasPlaces_37 (by decide) ?_
    exact W.zret (ty := .boolean) hx hb hr rfl (fun t ht _ => ⟨_, rfl, Option.some.inj hf, ht⟩) (fun _ h => by cases h) dX6_hasPlaces_38
  · have hf := (if_ok hf).2 cc
    refine lv_iload_n hx hb dX6_hasPlaces_7 rfl (lv_at hl 2 rfl) ?_
    refine lv_iconst (v := 0) hx hb dX6_hasPlaces_8 (by decide) ?_
    refine lv_aload_n hx hb dX6_hasPlaces_9 rfl (lv_at hl 0 rfl) ?_
    refine q_get (C := RX6) (T := TX6) (N := 3) (ci := 6) (v := .int (I k 2)) hx hb hts in_X6_hasPlaces_X6 hown hK hP (oX6 zk) rfl 2 (by decide) (hts (.fieldLink RX6 29 "RowsOnlyPrimes$Shelf" "length" "I") (by decide +kernel)) (fun _ h9 => h9) rfl dX6_hasPlaces_10 ?_
    obtain ⟨v3, h4, hf⟩ := bd_ok hf
    refine q_cSi (va_runSN (host := RX8) (As := [.int p1, .int (0 : Int32), .int (I k 2)]) (rest := []) ⟨hx, hb, hml, hown, hts⟩ (c_X8_within l (D := D) (ad := ad) (cy := cy) (sa := sa) (va := va) (I := I) (J := J) p1 (0 : Int32) (I k 2) h4) ⟨va_cnB 3 hts gX6_hasPlaces_X8_within_n19 rfl rfl rfl (hK.2.1.2.1.1) (hts (.initialized RX8) (by decide +kernel)) (by decide +kernel) ⟨Nat.le_of_ble_eq_true rfl, Nat.le_of_ble_eq_true rfl⟩, (hts (.static yX8_within) (by decide +kernel)), trivial⟩ ⟨qPre_blind _, fun U hU hW => ⟨rfl, qPre_of hP hK hE hN va_S.rf U hU hW⟩⟩ rfl rfl hl.1 rfl (lv_room (Nat.le_of_ble_eq_true rfl)) dX6_hasPlaces_13 ⟨Nat.le_of_ble_eq_true rfl, Nat.le_of_ble_eq_true rfl⟩) ?_
    refine lv_if_eq (tgt := 37) hx hb dX6_hasPlaces_16 (by decide) (fun cc => ?_) (fun cc => ?_)
    · have hf := (if_ok hf).1 cc
      refine lv_iconst (v := 0) hx hb dX6_hasPlaces_37 (by decide) ?_
      exact W.zret (ty := .boolean) hx hb hr rfl (fun t ht _ => ⟨_, rfl, Option.some.inj hf, ht⟩) (fun _ h => by cases h) dX6_hasPlaces_38
    · have hf := (if_ok hf).2 cc
      refine lv_iload_n hx hb dX6_hasPlaces_19 rfl (lv_at hl 1 rfl) ?_
      refine lv_iconst (v := 0) hx hb dX6_hasPlaces_20 (by decide) ?_
      refine lv_aload_n hx hb dX6_hasPlaces_21 rfl (lv_at hl 0 rfl) ?_
      refine q_get (C := RX6) (T := TX6) (N := 3) (ci := 6) (v := .int (I k 2)) hx hb hts in_X6_hasPlaces_X6 hown hK hP (oX6 zk) rfl 2 (by decide) (hts (.fieldLink RX6 29 "RowsOnlyPrimes$Shelf" "length" "I") (by decide +kernel)) (fun _ h9 => h9) rfl dX6_hasPlaces_22 ?_
      refine lv_iload_n hx hb dX6_hasPlaces_25 rfl (lv_at hl 2 rfl) ?_
      refine lv_isub hx hb dX6_hasPlaces_26 ?_
      obtain ⟨v5, h6, hf⟩ := bd_ok hf
      refine q_cSi (va_runSN (host := RX8) (As := [.int p0, .int (0 : Int32), .int ((I k 2) - p1)]) (rest := []) ⟨hx, hb, hml, hown, hts⟩ (c_X8_within l (D := D) (ad := ad) (cy := cy) (sa := sa) (va := va) (I := I) (J := J) p0 (0 : Int32) ((I k 2) - p1) h6) ⟨va_cnB 3 hts gX6_hasPlaces_X8_within_n19 rfl rfl rfl (hK.2.1.2.1.1) (hts (.initialized RX8) (by decide +kernel)) (by decide +kernel) ⟨Nat.le_of_ble_eq_true rfl, Nat.le_of_ble_eq_true rfl⟩, (hts (.static yX8_within) (by decide +kernel)), trivial⟩ ⟨qPre_blind _, fun U hU hW => ⟨rfl, qPre_of hP hK hE hN va_S.rf U hU hW⟩⟩ rfl rfl hl.1 rfl (lv_room (Nat.le_of_ble_eq_true rfl)) dX6_hasPlaces_27 ⟨Nat.le_of_ble_eq_true rfl, Nat.le_of_ble_eq_true rfl⟩) ?_
      refine lv_if_eq (tgt := 37) hx hb dX6_hasPlaces_30 (by decide) (fun cc => ?_) (fun cc => ?_)
      · have hf := (if_ok hf).1 cc
        refine lv_iconst (v := 0) hx hb dX6_hasPlaces_37 (by decide) ?_
        exact W.zret (ty := .boolean) hx hb hr rfl (fun t ht _ => ⟨_, rfl, Option.some.inj hf, ht⟩) (fun _ h => by cases h) dX6_hasPlaces_38
      · have hf := (if_ok hf).2 cc
        refine lv_iconst (v := 1) hx hb dX6_hasPlaces_33 (by decide) ?_
        refine lv_goto (tgt := 38) hx hb dX6_hasPlaces_34 (by decide) ?_
        exact W.zret (ty := .boolean) hx hb hr rfl (fun t ht _ => ⟨_, rfl, Option.some.inj hf, ht⟩) (fun _ h => by cases h) dX6_hasPlaces_38
abbrev r_X6_at : Room := { frames := 3, cells := 0, slots := 0, locals := 64 }
theorem in_X6_at_X6 : ∀ w ∈ u_ws RX6 TX6 3, w ∈ wsX6_at := by decide +kernel
set_option maxHeartbeats 4000000 in
set_option maxRecDepth 100000 in
theorem c_X6_at (l : Launch) {D : va_G} {ad : Nat → Nat} {cy : Nat → ClassId} {sa va : Nat → Nat} {I : qI} {J : qJ} (k : Nat) (zk : isSh k) (p0 : Int32) {r : Int64} (hf : f_X6_at k p0 I J = some r) : Met l yX6_at wsX6_at r_X6_at (va_Pc [.ref (ad k), .int p0] (qPre D xS ad cy sa va (eX ad cy) I J)) (vp_Sl (fun x => x = r)) 0 0 (fun _ => False) := by
  refine Met.ofW (cc := cX6_at) (maxL := 2) (ret := (some .long)) (by decide) rfl ?_
  intro p e s m args below meth c s₁ B hml hv
  obtain ⟨rfl, hP, hK, hE, hN⟩ := hv
  have C : qC p s m _ meth c cX6_at 2 RX6 wsX6_at (some .long) := ⟨⟨B.exec, B.bytes, hml, findClass_of_methodNamed B.named, atoms_spec (ws := wsX6_at) B.pre⟩, B.returns, B.notSynchronized⟩
  have C0 := C
  obtain ⟨⟨hx, hb, hml, hown, hts⟩, hr, hlocks⟩ := C0
  have hl := lv_entry ([.ref (ad k), .int p0]) (n := 2) (Nat.le_of_ble_eq_true rfl)
  rw [lg_entry_eq]
  generalize (lg_sl ([.ref (ad k), .int p0]) ++ List.replicate (2 - (lg_sl ([.ref (ad k), .int p0])).length) Slot.unset).toArray = ls at hl ⊢
  have hl : lv_has ls 2 [(0, .ref (ad k)), (1, .int p0)] := hl
  unfold f_X6_at at hf
  refine lv_aload_n hx hb dX6_at_0 rfl (lv_at hl 0 rfl) ?_
  refine lv_iload_n hx hb dX6_at_1 rfl (lv_at hl 1 rfl) ?_
  refine lv_iconst (v := 1) hx hb dX6_at_2 (by decide) ?_
  obtain ⟨v1, h2, hf⟩ := bd_ok hf
  refine q_cSi (va_runV (As := [.int p0, .int (1 : Int32)]) (rest := []) ⟨hx, hb, hml, hown, hts⟩ (c_X6_hasPlaces l (D := D) (ad := ad) (cy := cy) (sa := sa) (va := va) (I := I) (J := J) k zk p0 (1 : Int32) h2) (cwV 2 hts gX6_at_X6_hasPlaces rfl rfl rfl (by decide +kernel) ⟨Nat.le_of_ble_eq_true rfl, Nat.le_of_ble_eq_true rfl⟩) ⟨qPre_blind _, q_recv hK hP (oX6 zk) rfl, fun U hU hW => ⟨rfl, qPre_of hP hK hE hN va_S.rf U hU hW⟩⟩ rfl rfl hl.1 rfl (lv_room (Nat.le_of_ble_eq_true rfl)) dX6_at_3 ⟨Nat.le_of_ble_eq_true rfl, Nat.le_of_ble_eq_true rfl⟩) ?_
  refine lv_if_eq (tgt := 18) hx hb dX6_at_6 (by decide) (fun cc => ?_) (fun cc => ?_)
  · have hf := (if_ok hf).1 cc
    refine lv_lconst (v := 0) hx hb dX6_at_18 (by decide) ?_
    exact W.lret hx hb hr (fun t ht _ => ⟨_, rfl, Option.some.inj hf, ht⟩) (fun _ h => by cases h) dX6_at_19
  · have hf := (if_ok hf).2 cc
    refine lv_aload_n hx hb dX6_at_9 rfl (lv_at hl 0 rfl) ?_
    refine q_get (C := RX6) (T := TX6) (N := 3) (ci := 6) (v := .ref (ad (k + 1))) hx hb hts in_X6_at_X6 hown hK hP (oX6 zk) rfl 0 (by decide) (hts (.fieldLink RX6 9 "RowsOnlyPrimes$Shelf" "elements" "[J") (by decide +kernel)) (fun _ h9 => h9) rfl dX6_at_10 ?_
    refine lv_iload_n hx hb dX6_at_13 rfl (lv_at hl 1 rfl) ?_
    obtain ⟨g3, hf⟩ := gd_ok hf
    refine q_lald hx hb hK hP (aX6_1 zk) g3 dX6_at_14 ?_
    refine lv_goto (tgt := 19) hx hb dX6_at_15 (by decide) ?_
    exact W.lret hx hb hr (fun t ht _ => ⟨_, rfl, Option.some.inj hf, ht⟩) (fun _ h => by cases h) dX6_at_19
abbrev r_X2_isSquare : Room := { frames := 0, cells := 0, slots := 0, locals := 0 }
set_option maxHeartbeats 4000000 in
set_option maxRecDepth 100000 in
theorem w_X2_isSquare_20 (C : qC p s m args meth c cX2_isSquare 2 RX2 wsX2_isSquare (some .boolean)) (hK : qK D cy sa s) (hE : qEnv sa va (qA xS ad) s s.heap) (hN : qN xS ad)   {I : qI} {J : qJ} (hP : qP D xS ad (eX ad cy) I J s.heap) {r : Int32} : ∀ (x0 : Int32) (x1 : Int32)  (ls : Array Slot), f_X2_isSquare_20 x0 x1 = some r → lv_has ls 2 [(0, .int x0), (1, .int x1)] → W p l e (headSpec wsX2_isSquare r_X2_isSquare).room s m args below meth c s.heap [] 0 0 (MQ below (vp_Si (fun x => x = r)) args s 0 0 (fun _ => False)) (F0 m 20 ls []) := by
  have C0 := C
  obtain ⟨⟨hx, hb, hml, hown, hts⟩, hr, hlocks⟩ := C0
  intro x0 x1 ls hf hl
  unfold f_X2_isSquare_20 at hf
  refine lv_iload_n hx hb dX2_isSquare_20 rfl (lv_at hl 1 rfl) ?_
  refine lv_iload_n hx hb dX2_isSquare_21 rfl (lv_at hl 1 rfl) ?_
  refine lv_imul hx hb dX2_isSquare_22 ?_
  refine lv_iload_n hx hb dX2_isSquare_23 rfl (lv_at hl 0 rfl) ?_
  refine lv_icmp_ne (tgt := 31) hx hb dX2_isSquare_24 (by decide) (fun cc => ?_) (fun cc => ?_)
  · have hf := (if_ok hf).2 cc
    refine lv_iconst (v := 0) hx hb dX2_isSquare_31 (by decide) ?_
    exact W.zret (ty := .boolean) hx hb hr rfl (fun t ht _ => ⟨_, rfl, Option.some.inj hf, ht⟩) (fun _ h => by cases h) dX2_isSquare_32
  · have hf := (if_ok hf).1 cc
    refine lv_iconst (v := 1) hx hb dX2_isSquare_27 (by decide) ?_
    refine lv_goto (tgt := 32) hx hb dX2_isSquare_28 (by decide) ?_
    exact W.zret (ty := .boolean) hx hb hr rfl (fun t ht _ => ⟨_, rfl, Option.some.inj hf, ht⟩) (fun _ h => by cases h) dX2_isSquare_32
set_option maxHeartbeats 4000000 in
set_option maxRecDepth 100000 in
theorem w_X2_isSquare_2 (C : qC p s m args meth c cX2_isSquare 2 RX2 wsX2_isSquare (some .boolean)) (hK : qK D cy sa s) (hE : qEnv sa va (qA xS ad) s s.heap) (hN : qN xS ad)   {I : qI} {J : qJ} (hP : qP D xS ad (eX ad cy) I J s.heap) {r : Int32} : ∀ (n : Nat) (x0 : Int32) (x1 : Int32)  (ls : Array Slot), f_X2_isSquare_2 n x0 x1 = some r → lv_has ls 2 [(0, .int x0), (1, .int x1)] → W p l e (headSpec wsX2_isSquare r_X2_isSquare).room s m args below meth c s.heap [] 0 0 (MQ below (vp_Si (fun x => x = r)) args s 0 0 (fun _ => False)) (F0 m 2 ls []) := by
  have C0 := C
  obtain ⟨⟨hx, hb, hml, hown, hts⟩, hr, hlocks⟩ := C0
  intro n
  induction n with
  | zero =>
    intro x0 x1 ls hf hl
    rw [f_X2_isSquare_2] at hf
    cases hf
  | succ n ih =>
    intro x0 x1 ls hf hl
    rw [f_X2_isSquare_2] at hf
    refine lv_iload_n hx hb dX2_isSquare_2 rfl (lv_at hl 1 rfl) ?_
    refine lv_iload_n hx hb dX2_isSquare_3 rfl (lv_at hl 1 rfl) ?_
    refine lv_imul hx hb dX2_isSquare_4 ?_
    refine lv_iload_n hx hb dX2_isSquare_5 rfl (lv_at hl 0 rfl) ?_
    refine lv_icmp_ge (tgt := 20) hx hb dX2_isSquare_6 (by decide) (fun cc => ?_) (fun cc => ?_)
    · have hf := (if_ok hf).1 cc
      exact w_X2_isSquare_20 C hK hE hN hP   x0 x1 _ hf (lv_sub hl [0, 1] rfl)
    · have hf := (if_ok hf).2 cc
      refine lv_iload_n hx hb dX2_isSquare_9 rfl (lv_at hl 1 rfl) ?_
      refine lv_iload_n hx hb dX2_isSquare_10 rfl (lv_at hl 0 rfl) ?_
      refine lv_icmp_ge (tgt := 20) hx hb dX2_isSquare_11 (by decide) (fun cc => ?_) (fun cc => ?_)
      · have hf := (if_ok hf).1 cc
        exact w_X2_isSquare_20 C hK hE hN hP   x0 x1 _ hf (lv_sub hl [0, 1] rfl)
      · have hf := (if_ok hf).2 cc
        refine lv_iinc (v := (x1 + (1 : Int32))) (lv' := [(1, .int (x1 + (1 : Int32))), (0, .int x0)]) hx hb dX2_isSquare_14 hl (k := 1) rfl rfl (by decide) rfl (fun ls hl => ?_)
        refine lv_goto (tgt := 2) hx hb dX2_isSquare_17 (by decide) ?_
        exact ih x0 (x1 + (1 : Int32)) _ hf (lv_sub hl [1, 0] rfl)
set_option maxHeartbeats 4000000 in
set_option maxRecDepth 100000 in
theorem c_X2_isSquare (l : Launch) {D : va_G} {ad : Nat → Nat} {cy : Nat → ClassId} {sa va : Nat → Nat} {I : qI} {J : qJ}   (p0 : Int32) {r : Int32} (hf : f_X2_isSquare p0 = some r) : Met l yX2_isSquare wsX2_isSquare r_X2_isSquare (va_Pc [.int p0] (qPre D xS ad cy sa va (eX ad cy) I J)) (vp_Si (fun x => x = r)) 0 0 (fun _ => False) := by
  refine Met.ofW (cc := cX2_isSquare) (maxL := 2) (ret := (some .boolean)) (by decide) rfl ?_
  intro p e s m args below meth c s₁ B hml hv
  obtain ⟨rfl, hP, hK, hE, hN⟩ := hv
  have C : qC p s m _ meth c cX2_isSquare 2 RX2 wsX2_isSquare (some .boolean) := ⟨⟨B.exec, B.bytes, hml, findClass_of_methodNamed B.named, atoms_spec (ws := wsX2_isSquare) B.pre⟩, B.returns, B.notSynchronized⟩
  have C0 := C
  obtain ⟨⟨hx, hb, hml, hown, hts⟩, hr, hlocks⟩ := C0
  have hl := lv_entry ([.int p0]) (n := 2) (Nat.le_of_ble_eq_true rfl)
  rw [lg_entry_eq]
  generalize (lg_sl ([.int p0]) ++ List.replicate (2 - (lg_sl ([.int p0])).length) Slot.unset).toArray = ls at hl ⊢
  have hl : lv_has ls 2 [(0, .int p0)] := hl
  unfold f_X2_isSquare at hf
  refine lv_iconst (v := 1) hx hb dX2_isSquare_0 (by decide) ?_
  refine lv_istore_n (lv' := [(1, .int (1 : Int32)), (0, .int p0)]) hx hb dX2_isSquare_1 rfl hl (by decide) rfl (fun ls hl => ?_)
  exact w_X2_isSquare_2 C hK hE hN hP  1000 p0 (1 : Int32) _ hf (lv_sub hl [1, 0] rfl)
abbrev r_X2_isPrime : Room := { frames := 0, cells := 0, slots := 0, locals := 0 }
set_option maxHeartbeats 4000000 in
set_option maxRecDepth 100000 in
theorem w_X2_isPrime_2 (C : qC p s m args meth c cX2_isPrime 2 RX2 wsX2_isPrime (some .boolean)) (hK : qK D cy sa s) (hE : qEnv sa va (qA xS ad) s s.heap) (hN : qN xS ad)   {I : qI} {J : qJ} (hP : qP D xS ad (eX ad cy) I J s.heap) {r : Int32} : ∀ (n : Nat) (x0 : Int32) (x1 : Int32)  (ls : Array Slot), f_X2_isPrime_2 n x0 x1 = some r → lv_has ls 2 [(0, .int x0), (1, .int x1)] → W p l e (headSpec wsX2_isPrime r_X2_isPrime).room s m args below meth c s.heap [] 0 0 (MQ below (vp_Si (fun x => x = r)) args s 0 0 (fun _ => False)) (F0 m 2 ls []) := by
  have C0 := C
  obtain ⟨⟨hx, hb, hml, hown, hts⟩, hr, hlocks⟩ := C0
  intro n
  induction n with
  | zero =>
    intro x0 x1 ls hf hl
    rw [f_X2_isPrime_2] at hf
    cases hf
  | succ n ih =>
    intro x0 x1 ls hf hl
    rw [f_X2_isPrime_2] at hf
    refine lv_iload_n hx hb dX2_isPrime_2 rfl (lv_at hl 1 rfl) ?_
    refine lv_iload_n hx hb dX2_isPrime_3 rfl (lv_at hl 1 rfl) ?_
    refine lv_imul hx hb dX2_isPrime_4 ?_
    refine lv_iload_n hx hb dX2_isPrime_5 rfl (lv_at hl 0 rfl) ?_
    refine lv_icmp_gt (tgt := 23) hx hb dX2_isPrime_6 (by decide) (fun cc => ?_) (fun cc => ?_)
    · have hf := (if_ok hf).1 cc
      refine lv_iload_n hx hb dX2_isPrime_23 rfl (lv_at hl 0 rfl) ?_
      refine lv_iconst (v := 2) hx hb dX2_isPrime_24 (by decide) ?_
      refine lv_icmp_lt (tgt := 32) hx hb dX2_isPrime_25 (by decide) (fun cc => ?_) (fun cc => ?_)
      · have hf := (if_ok hf).1 cc
        refine lv_iconst (v := 0) hx hb dX2_isPrime_32 (by decide) ?_
        exact W.zret (ty := .boolean) hx hb hr rfl (fun t ht _ => ⟨_, rfl, Option.some.inj hf, ht⟩) (fun _ h => by cases h) dX2_isPrime_33
      · have hf := (if_ok hf).2 cc
        refine lv_iconst (v := 1) hx hb dX2_isPrime_28 (by decide) ?_
        refine lv_goto (tgt := 33) hx hb dX2_isPrime_29 (by decide) ?_
        exact W.zret (ty := .boolean) hx hb hr rfl (fun t ht _ => ⟨_, rfl, Option.some.inj hf, ht⟩) (fun _ h => by cases h) dX2_isPrime_33
    · have hf := (if_ok hf).2 cc
      refine lv_iload_n hx hb dX2_isPrime_9 rfl (lv_at hl 0 rfl) ?_
      refine lv_iload_n hx hb dX2_isPrime_10 rfl (lv_at hl 1 rfl) ?_
      obtain ⟨g1, hf⟩ := gd_ok hf
      refine lv_irem hx hb dX2_isPrime_11 g1 ?_
      refine lv_if_ne (tgt := 17) hx hb dX2_isPrime_12 (by decide) (fun cc => ?_) (fun cc => ?_)
      · have hf := (if_ok hf).2 cc
        refine lv_iinc (v := (x1 + (1 : Int32))) (lv' := [(1, .int (x1 + (1 : Int32))), (0, .int x0)]) hx hb dX2_isPrime_17 hl (k := 1) rfl rfl (by decide) rfl (fun ls hl => ?_)
        refine lv_goto (tgt := 2) hx hb dX2_isPrime_20 (by decide) ?_
        exact ih x0 (x1 + (1 : Int32)) _ hf (lv_sub hl [1, 0] rfl)
      · have hf := (if_ok hf).1 cc
        refine lv_iconst (v := 0) hx hb dX2_isPrime_15 (by decide) ?_
        exact W.zret (ty := .boolean) hx hb hr rfl (fun t ht _ => ⟨_, rfl, Option.some.inj hf, ht⟩) (fun _ h => by cases h) dX2_isPrime_16
set_option maxHeartbeats 4000000 in
set_option maxRecDepth 100000 in
theorem c_X2_isPrime (l : Launch) {D : va_G} {ad : Nat → Nat} {cy : Nat → ClassId} {sa va : Nat → Nat} {I : qI} {J : qJ}   (p0 : Int32) {r : Int32} (hf : f_X2_isPrime p0 = some r) : Met l yX2_isPrime wsX2_isPrime r_X2_isPrime (va_Pc [.int p0] (qPre D xS ad cy sa va (eX ad cy) I J)) (vp_Si (fun x => x = r)) 0 0 (fun _ => False) := by
  refine Met.ofW (cc := cX2_isPrime) (maxL := 2) (ret := (some .boolean)) (by decide) rfl ?_
  intro p e s m args below meth c s₁ B hml hv
  obtain ⟨rfl, hP, hK, hE, hN⟩ := hv
  have C : qC p s m _ meth c cX2_isPrime 2 RX2 wsX2_isPrime (some .boolean) := ⟨⟨B.exec, B.bytes, hml, findClass_of_methodNamed B.named, atoms_spec (ws := wsX2_isPrime) B.pre⟩, B.returns, B.notSynchronized⟩
  have C0 := C
  obtain ⟨⟨hx, hb, hml, hown, hts⟩, hr, hlocks⟩ := C0
  have hl := lv_entry ([.int p0]) (n := 2) (Nat.le_of_ble_eq_true rfl)
  rw [lg_entry_eq]
  generalize (lg_sl ([.int p0]) ++ List.replicate (2 - (lg_sl ([.int p0])).length) Slot.unset).toArray = ls at hl ⊢
  have hl : lv_has ls 2 [(0, .int p0)] := hl
  unfold f_X2_isPrime at hf
  refine lv_iconst (v := 2) hx hb dX2_isPrime_0 (by decide) ?_
  refine lv_istore_n (lv' := [(1, .int (2 : Int32)), (0, .int p0)]) hx hb dX2_isPrime_1 rfl hl (by decide) rfl (fun ls hl => ?_)
  exact w_X2_isPrime_2 C hK hE hN hP  1000 p0 (2 : Int32) _ hf (lv_sub hl [1, 0] rfl)
abbrev r_X2_lets : Room := { frames := 1, cells := 0, slots := 0, locals := 22 }
theorem in_X2_lets_X2 : ∀ w ∈ u_ws RX2 TX2 13, w ∈ wsX2_lets := by decide +kernel
set_option maxHeartbeats 4000000 in
set_option maxRecDepth 100000 in
theorem c_X2_lets (l : Launch) {D : va_G} {ad : Nat → Nat} {cy : Nat → ClassId} {sa va : Nat → Nat} {I : qI} {J : qJ} (b : Nat) (zb : isB b) (p0 : Int32) {r : Int32} (hf : f_X2_lets b p0 I = some r) : Met l yX2_lets wsX2_lets r_X2_lets (va_Pc [.ref (ad b), .int p0] (qPre D xS ad cy sa va (eX ad cy) I J)) (vp_Si (fun x => x = r)) 0 0 (fun _ => False) := by
  refine Met.ofW (cc := cX2_lets) (maxL := 2) (ret := (some .boolean)) (by decide) rfl ?_
  intro p e s m args below meth c s₁ B hml hv
  obtain ⟨rfl, hP, hK, hE, hN⟩ := hv
  have C : qC p s m _ meth c cX2_lets 2 RX2 wsX2_lets (some .boolean) := ⟨⟨B.exec, B.bytes, hml, findClass_of_methodNamed B.named, atoms_spec (ws := wsX2_lets) B.pre⟩, B.returns, B.notSynchronized⟩
  have C0 := C
  obtain ⟨⟨hx, hb, hml, hown, hts⟩, hr, hlocks⟩ := C0
  have hl := lv_entry ([.ref (ad b), .int p0]) (n := 2) (Nat.le_of_ble_eq_true rfl)
  rw [lg_entry_eq]
  generalize (lg_sl ([.ref (ad b), .int p0]) ++ List.replicate (2 - (lg_sl ([.ref (ad b), .int p0])).length) Slot.unset).toArray = ls at hl ⊢
  have hl : lv_has ls 2 [(0, .ref (ad b)), (1, .int p0)] := hl
  unfold f_X2_lets at hf
  refine lv_iload_n hx hb dX2_lets_0 rfl (lv_at hl 1 rfl) ?_
  refine lv_iconst (v := 1) hx hb dX2_lets_1 (by decide) ?_
  refine lv_aload_n hx hb dX2_lets_2 rfl (lv_at hl 0 rfl) ?_
  refine q_get (C := RX2) (T := TX2) (N := 13) (ci := 2) (v := .ref (ad (b + 7))) hx hb hts in_X2_lets_X2 hown hK hP (oX2 zb) rfl 6 (by decide) (hts (.fieldLink RX2 30 "RowsOnlyPrimes$Bank" "told" "[I") (by decide +kernel)) (fun _ h9 => h9) rfl dX2_lets_3 ?_
  refine lv_iconst (v := 0) hx hb dX2_lets_6 (by decide) ?_
  refine q_iald hx hb hK hP (aX2_7 zb) (by decide) dX2_lets_7 ?_
  refine q_top (y := (I (b + 7) 0)) rfl ?_
  obtain ⟨v1, h2, hf⟩ := bd_ok hf
  refine q_cSi (va_runSN (host := RX8) (As := [.int p0, .int (1 : Int32), .int (I (b + 7) 0)]) (rest := []) ⟨hx, hb, hml, hown, hts⟩ (c_X8_within l (D := D) (ad := ad) (cy := cy) (sa := sa) (va := va) (I := I) (J := J) p0 (1 : Int32) (I (b + 7) 0) h2) ⟨va_cnB 3 hts gX2_lets_X8_within_n65 rfl rfl rfl (hK.2.1.2.1.2.1) (hts (.initialized RX8) (by decide +kernel)) (by decide +kernel) ⟨Nat.le_of_ble_eq_true rfl, Nat.le_of_ble_eq_true rfl⟩, (hts (.static yX8_within) (by decide +kernel)), trivial⟩ ⟨qPre_blind _, fun U hU hW => ⟨rfl, qPre_of hP hK hE hN va_S.rf U hU hW⟩⟩ rfl rfl hl.1 rfl (lv_room (Nat.le_of_ble_eq_true rfl)) dX2_lets_8 ⟨Nat.le_of_ble_eq_true rfl, Nat.le_of_ble_eq_true rfl⟩) ?_
  refine lv_if_ne (tgt := 16) hx hb dX2_lets_11 (by decide) (fun cc => ?_) (fun cc => ?_)
  · have hf := (if_ok hf).2 cc
    refine lv_aload_n hx hb dX2_lets_16 rfl (lv_at hl 0 rfl) ?_
    refine q_get (C := RX2) (T := TX2) (N := 13) (ci := 2) (v := .ref (ad (b + 7))) hx hb hts in_X2_lets_X2 hown hK hP (oX2 zb) rfl 6 (by decide) (hts (.fieldLink RX2 30 "RowsOnlyPrimes$Bank" "told" "[I") (by decide +kernel)) (fun _ h9 => h9) rfl dX2_lets_17 ?_
    refine lv_iconst (v := 1) hx hb dX2_lets_20 (by decide) ?_
    refine q_iald hx hb hK hP (aX2_7 zb) (by decide) dX2_lets_21 ?_
    refine q_top (y := (I (b + 7) 1)) rfl ?_
    by_cases c3 : (I (b + 7) 1) = (1 : Int32)
    · have hf := (if_ok hf).1 c3
      refine lv_tableIn (off := 26) (tgt := 48) hx hb dX2_lets_22 (by rw [c3]; decide) (by rw [c3]; decide) (by rw [c3]; rfl) (by decide) ?_
      refine lv_iload_n hx hb dX2_lets_48 rfl (lv_at hl 1 rfl) ?_
      refine lv_iconst (v := 2) hx hb dX2_lets_49 (by decide) ?_
      refine lv_irem hx hb dX2_lets_50 (by decide) ?_
      refine lv_if_ne (tgt := 58) hx hb dX2_lets_51 (by decide) (fun cc => ?_) (fun cc => ?_)
      · have hf := (if_ok hf).2 cc
        refine lv_iconst (v := 0) hx hb dX2_lets_58 (by decide) ?_
        exact W.zret (ty := .boolean) hx hb hr rfl (fun t ht _ => ⟨_, rfl, Option.some.inj hf, ht⟩) (fun _ h => by cases h) dX2_lets_59
      · have hf := (if_ok hf).1 cc
        refine lv_iconst (v := 1) hx hb dX2_lets_54 (by decide) ?_
        refine lv_goto (tgt := 59) hx hb dX2_lets_55 (by decide) ?_
        exact W.zret (ty := .boolean) hx hb hr rfl (fun t ht _ => ⟨_, rfl, Option.some.inj hf, ht⟩) (fun _ h => by cases h) dX2_lets_59
    have hf := (if_ok hf).2 c3
    by_cases c4 : (I (b + 7) 1) = (2 : Int32)
    · have hf := (if_ok hf).1 c4
      refine lv_tableIn (off := 38) (tgt := 60) hx hb dX2_lets_22 (by rw [c4]; decide) (by rw [c4]; decide) (by rw [c4]; rfl) (by decide) ?_
      refine lv_iload_n hx hb dX2_lets_60 rfl (lv_at hl 1 rfl) ?_
      refine lv_iconst (v := 2) hx hb dX2_lets_61 (by decide) ?_
      refine lv_irem hx hb dX2_lets_62 (by decide) ?_
      refine lv_iconst (v := 1) hx hb dX2_lets_63 (by decide) ?_
      refine lv_icmp_ne (tgt := 71) hx hb dX2_lets_64 (by decide) (fun cc => ?_) (fun cc => ?_)
      · have hf := (if_ok hf).2 cc
        refine lv_iconst (v := 0) hx hb dX2_lets_71 (by decide) ?_
        exact W.zret (ty := .boolean) hx hb hr rfl (fun t ht _ => ⟨_, rfl, Option.some.inj hf, ht⟩) (fun _ h => by cases h) dX2_lets_72
      · have hf := (if_ok hf).1 cc
        refine lv_iconst (v := 1) hx hb dX2_lets_67 (by decide) ?_
        refine lv_goto (tgt := 72) hx hb dX2_lets_68 (by decide) ?_
        exact W.zret (ty := .boolean) hx hb hr rfl (fun t ht _ => ⟨_, rfl, Option.some.inj hf, ht⟩) (fun _ h => by cases h) dX2_lets_72
    have hf := (if_ok hf).2 c4
    by_cases c5 : (I (b + 7) 1) = (3 : Int32)
    · have hf := (if_ok hf).1 c5
      refine lv_tableIn (off := 51) (tgt := 73) hx hb dX2_lets_22 (by rw [c5]; decide) (by rw [c5]; decide) (by rw [c5]; rfl) (by decide) ?_
      refine lv_iload_n hx hb dX2_lets_73 rfl (lv_at hl 1 rfl) ?_
      obtain ⟨v6, h7, hf⟩ := bd_ok hf
      refine q_cSi (va_runS (As := [.int p0]) (rest := []) ⟨hx, hb, hml, hown, hts⟩ (c_X2_isSquare l (D := D) (ad := ad) (cy := cy) (sa := sa) (va := va) (I := I) (J := J) p0 h7) (va_cwS 1 hts gX2_lets_X2_isSquare rfl rfl rfl (by decide +kernel) ⟨Nat.le_of_ble_eq_true rfl, Nat.le_of_ble_eq_true rfl⟩) ⟨qPre_blind _, fun U hU hW => ⟨rfl, qPre_of hP hK hE hN va_S.rf U hU hW⟩⟩ rfl rfl hl.1 rfl (lv_room (Nat.le_of_ble_eq_true rfl)) dX2_lets_74 ⟨Nat.le_of_ble_eq_true rfl, Nat.le_of_ble_eq_true rfl⟩) ?_
      obtain ⟨g8, hf⟩ := gd_ok hf
      exact W.zret (ty := .boolean) hx hb hr (q_narZ g8) (fun t ht _ => ⟨_, rfl, Option.some.inj hf, ht⟩) (fun _ h => by cases h) dX2_lets_77
    have hf := (if_ok hf).2 c5
    refine lv_tableOut (tgt := 78) hx hb dX2_lets_22 (by have c3 := q_nt c3 (show ((1 : Int32)).toInt = 1 by decide); have c4 := q_nt c4 (show ((2 : Int32)).toInt = 2 by decide); have c5 := q_nt c5 (show ((3 : Int32)).toInt = 3 by decide); omega) (by decide) ?_
    refine lv_iload_n hx hb dX2_lets_78 rfl (lv_at hl 1 rfl) ?_
    obtain ⟨v9, h10, hf⟩ := bd_ok hf
    refine q_cSi (va_runS (As := [.int p0]) (rest := []) ⟨hx, hb, hml, hown, hts⟩ (c_X2_isPrime l (D := D) (ad := ad) (cy := cy) (sa := sa) (va := va) (I := I) (J := J) p0 h10) (va_cwS 1 hts gX2_lets_X2_isPrime rfl rfl rfl (by decide +kernel) ⟨Nat.le_of_ble_eq_true rfl, Nat.le_of_ble_eq_true rfl⟩) ⟨qPre_blind _, fun U hU hW => ⟨rfl, qPre_of hP hK hE hN va_S.rf U hU hW⟩⟩ rfl rfl hl.1 rfl (lv_room (Nat.le_of_ble_eq_true rfl)) dX2_lets_79 ⟨Nat.le_of_ble_eq_true rfl, Nat.le_of_ble_eq_true rfl⟩) ?_
    obtain ⟨g11, hf⟩ := gd_ok hf
    exact W.zret (ty := .boolean) hx hb hr (q_narZ g11) (fun t ht _ => ⟨_, rfl, Option.some.inj hf, ht⟩) (fun _ h => by cases h) dX2_lets_82
  · have hf := (if_ok hf).1 cc
    refine lv_iconst (v := 0) hx hb dX2_lets_14 (by decide) ?_
    exact W.zret (ty := .boolean) hx hb hr rfl (fun t ht _ => ⟨_, rfl, Option.some.inj hf, ht⟩) (fun _ h => by cases h) dX2_lets_15
abbrev r_X8_has : Room := { frames := 0, cells := 0, slots := 0, locals := 0 }
set_option maxHeartbeats 4000000 in
set_option maxRecDepth 100000 in
theorem c_X8_has (l : Launch) {D : va_G} {ad : Nat → Nat} {cy : Nat → ClassId} {sa va : Nat → Nat} {I : qI} {J : qJ}   (p0 : Int32) (p1 : Int32) {r : Int32} (hf : f_X8_has p0 p1 = some r) : Met l yX8_has wsX8_has r_X8_has (va_Pc [.int p0, .int p1] (qPre D xS ad cy sa va (eX ad cy) I J)) (vp_Si (fun x => x = r)) 0 0 (fun _ => False) := by
  refine Met.ofW (cc := cX8_has) (maxL := 2) (ret := (some .boolean)) (by decide) rfl ?_
  intro p e s m args below meth c s₁ B hml hv
  obtain ⟨rfl, hP, hK, hE, hN⟩ := hv
  have C : qC p s m _ meth c cX8_has 2 RX8 wsX8_has (some .boolean) := ⟨⟨B.exec, B.bytes, hml, findClass_of_methodNamed B.named, atoms_spec (ws := wsX8_has) B.pre⟩, B.returns, B.notSynchronized⟩
  have C0 := C
  obtain ⟨⟨hx, hb, hml, hown, hts⟩, hr, hlocks⟩ := C0
  have hl := lv_entry ([.int p0, .int p1]) (n := 2) (Nat.le_of_ble_eq_true rfl)
  rw [lg_entry_eq]
  generalize (lg_sl ([.int p0, .int p1]) ++ List.replicate (2 - (lg_sl ([.int p0, .int p1])).length) Slot.unset).toArray = ls at hl ⊢
  have hl : lv_has ls 2 [(0, .int p0), (1, .int p1)] := hl
  unfold f_X8_has at hf
  refine lv_iload_n hx hb dX8_has_0 rfl (lv_at hl 0 rfl) ?_
  refine lv_iload_n hx hb dX8_has_1 rfl (lv_at hl 1 rfl) ?_
  refine lv_ishr hx hb dX8_has_2 ?_
  refine lv_iconst (v := 1) hx hb dX8_has_3 (by decide) ?_
  refine lv_iand hx hb dX8_has_4 ?_
  refine lv_iconst (v := 1) hx hb dX8_has_5 (by decide) ?_
  refine lv_icmp_ne (tgt := 13) hx hb dX8_has_6 (by decide) (fun cc => ?_) (fun cc => ?_)
  · have hf := (if_ok hf).2 cc
    refine lv_iconst (v := 0) hx hb dX8_has_13 (by decide) ?_
    exact W.zret (ty := .boolean) hx hb hr rfl (fun t ht _ => ⟨_, rfl, Option.some.inj hf, ht⟩) (fun _ h => by cases h) dX8_has_14
  · have hf := (if_ok hf).1 cc
    refine lv_iconst (v := 1) hx hb dX8_has_9 (by decide) ?_
    refine lv_goto (tgt := 14) hx hb dX8_has_10 (by decide) ?_
    exact W.zret (ty := .boolean) hx hb hr rfl (fun t ht _ => ⟨_, rfl, Option.some.inj hf, ht⟩) (fun _ h => by cases h) dX8_has_14
abbrev r_X2_headsIf : Room := { frames := 0, cells := 0, slots := 0, locals := 0 }
theorem in_X2_headsIf_X2 : ∀ w ∈ u_ws RX2 TX2 13, w ∈ wsX2_headsIf := by decide +kernel
set_option maxHeartbeats 4000000 in
set_option maxRecDepth 100000 in
theorem w_X2_headsIf_43 (C : qC p s m args meth c cX2_headsIf 6 RX2 wsX2_headsIf (some .int)) (hK : qK D cy sa s) (hE : qEnv sa va (qA xS ad) s s.heap) (hN : qN xS ad) (b : Nat) (zb : isB b) {I : qI} {J : qJ} (hP : qP D xS ad (eX ad cy) I J s.heap) {r : Int32} : ∀ (x1 : Int32) (x2 : Int32) (x3 : Int32) (x4 : Int32) (xs0 : Int32)  (ls : Array Slot), f_X2_headsIf_43 b I x1 x2 x3 x4 xs0 = some r → lv_has ls 6 [(0, .ref (ad b)), (1, .int x1), (2, .int x2), (3, .int x3), (4, .int x4)] → W p l e (headSpec wsX2_headsIf r_X2_headsIf).room s m args below meth c s.heap [] 0 0 (MQ below (vp_Si (fun x => x = r)) args s 0 0 (fun _ => False)) (F0 m 43 ls [.int xs0]) := by
  have C0 := C
  obtain ⟨⟨hx, hb, hml, hown, hts⟩, hr, hlocks⟩ := C0
  intro x1 x2 x3 x4 xs0 ls hf hl
  unfold f_X2_headsIf_43 at hf
  refine lv_istore (lv' := [(5, .int xs0), (0, .ref (ad b)), (1, .int x1), (2, .int x2), (3, .int x3), (4, .int x4)]) hx hb dX2_headsIf_43 hl (by decide) rfl (fun ls hl => ?_)
  refine lv_aload_n hx hb dX2_headsIf_45 rfl (lv_at hl 1 rfl) ?_
  refine q_get (C := RX2) (T := TX2) (N := 13) (ci := 2) (v := .ref (ad (b + 1))) hx hb hts in_X2_headsIf_X2 hown hK hP (oX2 zb) rfl 0 (by decide) (hts (.fieldLink RX2 9 "RowsOnlyPrimes$Bank" "kinds" "[I") (by decide +kernel)) (fun _ h9 => h9) rfl dX2_headsIf_46 ?_
  refine lv_iload_n hx hb dX2_headsIf_49 rfl (lv_at hl 2 rfl) ?_
  obtain ⟨g1, hf⟩ := gd_ok hf
  refine q_iald hx hb hK hP (aX2_1 zb) g1 dX2_headsIf_50 ?_
  by_cases c2 : (I (b + 1) x1.toNatClampNeg) = (1 : Int32)
  · have hf := (if_ok hf).1 c2
    refine lv_tableIn (off := 33) (tgt := 84) hx hb dX2_headsIf_51 (by rw [c2]; decide) (by rw [c2]; decide) (by rw [c2]; rfl) (by decide) ?_
    refine lv_iload hx hb dX2_headsIf_84 (lv_at hl 5 rfl) ?_
    exact W.iret hx hb hr (fun t ht _ => ⟨_, rfl, Option.some.inj hf, ht⟩) (fun _ h => by cases h) dX2_headsIf_86
  have hf := (if_ok hf).2 c2
  by_cases c3 : (I (b + 1) x1.toNatClampNeg) = (2 : Int32)
  · have hf := (if_ok hf).1 c3
    refine lv_tableIn (off := 43) (tgt := 94) hx hb dX2_headsIf_51 (by rw [c3]; decide) (by rw [c3]; decide) (by rw [c3]; rfl) (by decide) ?_
    refine lv_iload hx hb dX2_headsIf_94 (lv_at hl 0 rfl) ?_
    exact W.iret hx hb hr (fun t ht _ => ⟨_, rfl, Option.some.inj hf, ht⟩) (fun _ h => by cases h) dX2_headsIf_96
  have hf := (if_ok hf).2 c3
  by_cases c4 : (I (b + 1) x1.toNatClampNeg) = (3 : Int32)
  · have hf := (if_ok hf).1 c4
    refine lv_tableIn (off := 36) (tgt := 87) hx hb dX2_headsIf_51 (by rw [c4]; decide) (by rw [c4]; decide) (by rw [c4]; rfl) (by decide) ?_
    refine lv_iload hx hb dX2_headsIf_87 (lv_at hl 5 rfl) ?_
    refine lv_iconst (v := 1) hx hb dX2_headsIf_89 (by decide) ?_
    refine lv_iadd hx hb dX2_headsIf_90 ?_
    refine lv_iconst (v := 2) hx hb dX2_headsIf_91 (by decide) ?_
    refine lv_idiv hx hb dX2_headsIf_92 (by decide) ?_
    exact W.iret hx hb hr (fun t ht _ => ⟨_, rfl, Option.some.inj hf, ht⟩) (fun _ h => by cases h) dX2_headsIf_93
  have hf := (if_ok hf).2 c4
  by_cases c5 : (I (b + 1) x1.toNatClampNeg) = (4 : Int32)
  · have hf := (if_ok hf).1 c5
    refine lv_tableIn (off := 46) (tgt := 97) hx hb dX2_headsIf_51 (by rw [c5]; decide) (by rw [c5]; decide) (by rw [c5]; rfl) (by decide) ?_
    refine lv_iload hx hb dX2_headsIf_97 (lv_at hl 0 rfl) ?_
    refine lv_iconst (v := 1) hx hb dX2_headsIf_99 (by decide) ?_
    refine lv_iadd hx hb dX2_headsIf_100 ?_
    exact W.iret hx hb hr (fun t ht _ => ⟨_, rfl, Option.some.inj hf, ht⟩) (fun _ h => by cases h) dX2_headsIf_101
  have hf := (if_ok hf).2 c5
  by_cases c6 : (I (b + 1) x1.toNatClampNeg) = (5 : Int32)
  · have hf := (if_ok hf).1 c6
    refine lv_tableIn (off := 51) (tgt := 102) hx hb dX2_headsIf_51 (by rw [c6]; decide) (by rw [c6]; decide) (by rw [c6]; rfl) (by decide) ?_
    refine lv_iload_n hx hb dX2_headsIf_102 rfl (lv_at hl 3 rfl) ?_
    refine lv_iload_n hx hb dX2_headsIf_103 rfl (lv_at hl 4 rfl) ?_
    refine lv_iadd hx hb dX2_headsIf_104 ?_
    exact W.iret hx hb hr (fun t ht _ => ⟨_, rfl, Option.some.inj hf, ht⟩) (fun _ h => by cases h) dX2_headsIf_105
  have hf := (if_ok hf).2 c6
  refine lv_tableOut (tgt := 106) hx hb dX2_headsIf_51 (by have c2 := q_nt c2 (show ((1 : Int32)).toInt = 1 by decide); have c3 := q_nt c3 (show ((2 : Int32)).toInt = 2 by decide); have c4 := q_nt c4 (show ((3 : Int32)).toInt = 3 by decide); have c5 := q_nt c5 (show ((4 : Int32)).toInt = 4 by decide); have c6 := q_nt c6 (show ((5 : Int32)).toInt = 5 by decide); omega) (by decide) ?_
  refine lv_iload_n hx hb dX2_headsIf_106 rfl (lv_at hl 3 rfl) ?_
  exact W.iret hx hb hr (fun t ht _ => ⟨_, rfl, Option.some.inj hf, ht⟩) (fun _ h => by cases h) dX2_headsIf_107
set_option maxHeartbeats 4000000 in
set_option maxRecDepth 100000 in
theorem w_X2_headsIf_25 (C : qC p s m args meth c cX2_headsIf 6 RX2 wsX2_headsIf (some .int)) (hK : qK D cy sa s) (hE : qEnv sa va (qA xS ad) s s.heap) (hN : qN xS ad) (b : Nat) (zb : isB b) {I : qI} {J : qJ} (hP : qP D xS ad (eX ad cy) I J s.heap) {r : Int32} : ∀ (x1 : Int32) (x2 : Int32) (x3 : Int32) (xs0 : Int32)  (ls : Array Slot), f_X2_headsIf_25 b I x1 x2 x3 xs0 = some r → lv_has ls 6 [(0, .ref (ad b)), (1, .int x1), (2, .int x2), (3, .int x3)] → W p l e (headSpec wsX2_headsIf r_X2_headsIf).room s m args below meth c s.heap [] 0 0 (MQ below (vp_Si (fun x => x = r)) args s 0 0 (fun _ => False)) (F0 m 25 ls [.int xs0]) := by
  have C0 := C
  obtain ⟨⟨hx, hb, hml, hown, hts⟩, hr, hlocks⟩ := C0
  intro x1 x2 x3 xs0 ls hf hl
  unfold f_X2_headsIf_25 at hf
  refine lv_istore (lv' := [(4, .int xs0), (0, .ref (ad b)), (1, .int x1), (2, .int x2), (3, .int x3)]) hx hb dX2_headsIf_25 hl (by decide) rfl (fun ls hl => ?_)
  refine lv_aload_n hx hb dX2_headsIf_27 rfl (lv_at hl 1 rfl) ?_
  refine q_get (C := RX2) (T := TX2) (N := 13) (ci := 2) (v := .ref (ad (b + 7))) hx hb hts in_X2_headsIf_X2 hown hK hP (oX2 zb) rfl 6 (by decide) (hts (.fieldLink RX2 30 "RowsOnlyPrimes$Bank" "told" "[I") (by decide +kernel)) (fun _ h9 => h9) rfl dX2_headsIf_28 ?_
  refine lv_iconst (v := 2) hx hb dX2_headsIf_31 (by decide) ?_
  refine q_iald hx hb hK hP (aX2_7 zb) (by decide) dX2_headsIf_32 ?_
  refine q_top (y := (I (b + 7) 2)) rfl ?_
  refine lv_iconst (v := 2) hx hb dX2_headsIf_33 (by decide) ?_
  refine lv_iand hx hb dX2_headsIf_34 ?_
  refine lv_if_eq (tgt := 42) hx hb dX2_headsIf_35 (by decide) (fun cc => ?_) (fun cc => ?_)
  · have hf := (if_ok hf).1 cc
    refine lv_iload_n hx hb dX2_headsIf_42 rfl (lv_at hl 4 rfl) ?_
    exact w_X2_headsIf_43 C hK hE hN b zb hP   x1 x2 x3 xs0 x3 _ hf (lv_sub hl [1, 2, 3, 4, 0] rfl)
  · have hf := (if_ok hf).2 cc
    refine lv_iload_n hx hb dX2_headsIf_38 rfl (lv_at hl 3 rfl) ?_
    refine lv_goto (tgt := 43) hx hb dX2_headsIf_39 (by decide) ?_
    exact w_X2_headsIf_43 C hK hE hN b zb hP   x1 x2 x3 xs0 x2 _ hf (lv_sub hl [1, 2, 3, 4, 0] rfl)
set_option maxHeartbeats 4000000 in
set_option maxRecDepth 100000 in
theorem c_X2_headsIf (l : Launch) {D : va_G} {ad : Nat → Nat} {cy : Nat → ClassId} {sa va : Nat → Nat} {I : qI} {J : qJ} (b : Nat) (zb : isB b) (p0 : Int32) (p1 : Int32) {r : Int32} (hf : f_X2_headsIf b p0 p1 I = some r) : Met l yX2_headsIf wsX2_headsIf r_X2_headsIf (va_Pc [.ref (ad b), .int p0, .int p1] (qPre D xS ad cy sa va (eX ad cy) I J)) (vp_Si (fun x => x = r)) 0 0 (fun _ => False) := by
  refine Met.ofW (cc := cX2_headsIf) (maxL := 6) (ret := (some .int)) (by decide) rfl ?_
  intro p e s m args below meth c s₁ B hml hv
  obtain ⟨rfl, hP, hK, hE, hN⟩ := hv
  have C : qC p s m _ meth c cX2_headsIf 6 RX2 wsX2_headsIf (some .int) := ⟨⟨B.exec, B.bytes, hml, findClass_of_methodNamed B.named, atoms_spec (ws := wsX2_headsIf) B.pre⟩, B.returns, B.notSynchronized⟩
  have C0 := C
  obtain ⟨⟨hx, hb, hml, hown, hts⟩, hr, hlocks⟩ := C0
  have hl := lv_entry ([.ref (ad b), .int p0, .int p1]) (n := 6) (Nat.le_of_ble_eq_true rfl)
  rw [lg_entry_eq]
  generalize (lg_sl ([.ref (ad b), .int p0, .int p1]) ++ List.replicate (6 - (lg_sl ([.ref (ad b), .int p0, .int p1])).length) Slot.unset).toArray = ls at hl ⊢
  have hl : lv_has ls 6 [(0, .ref (ad b)), (1, .int p0), (2, .int p1)] := hl
  unfold f_X2_headsIf at hf
  refine lv_aload_n hx hb dX2_headsIf_0 rfl (lv_at hl 0 rfl) ?_
  refine q_get (C := RX2) (T := TX2) (N := 13) (ci := 2) (v := .ref (ad (b + 2))) hx hb hts in_X2_headsIf_X2 hown hK hP (oX2 zb) rfl 1 (by decide) (hts (.fieldLink RX2 15 "RowsOnlyPrimes$Bank" "extras" "[I") (by decide +kernel)) (fun _ h9 => h9) rfl dX2_headsIf_1 ?_
  refine lv_iload_n hx hb dX2_headsIf_4 rfl (lv_at hl 1 rfl) ?_
  obtain ⟨g1, hf⟩ := gd_ok hf
  refine q_iald hx hb hK hP (aX2_2 zb) g1 dX2_headsIf_5 ?_
  refine lv_istore_n (lv' := [(3, .int (I (b + 2) p0.toNatClampNeg)), (0, .ref (ad b)), (1, .int p0), (2, .int p1)]) hx hb dX2_headsIf_6 rfl hl (by decide) rfl (fun ls hl => ?_)
  refine lv_aload_n hx hb dX2_headsIf_7 rfl (lv_at hl 1 rfl) ?_
  refine q_get (C := RX2) (T := TX2) (N := 13) (ci := 2) (v := .ref (ad (b + 7))) hx hb hts in_X2_headsIf_X2 hown hK hP (oX2 zb) rfl 6 (by decide) (hts (.fieldLink RX2 30 "RowsOnlyPrimes$Bank" "told" "[I") (by decide +kernel)) (fun _ h9 => h9) rfl dX2_headsIf_8 ?_
  refine lv_iconst (v := 2) hx hb dX2_headsIf_11 (by decide) ?_
  refine q_iald hx hb hK hP (aX2_7 zb) (by decide) dX2_headsIf_12 ?_
  refine q_top (y := (I (b + 7) 2)) rfl ?_
  refine lv_iconst (v := 1) hx hb dX2_headsIf_13 (by decide) ?_
  refine lv_iand hx hb dX2_headsIf_14 ?_
  refine lv_if_eq (tgt := 24) hx hb dX2_headsIf_15 (by decide) (fun cc => ?_) (fun cc => ?_)
  · have hf := (if_ok hf).1 cc
    refine lv_iload_n hx hb dX2_headsIf_24 rfl (lv_at hl 3 rfl) ?_
    exact w_X2_headsIf_25 C hK hE hN b zb hP   p0 p1 (I (b + 2) p0.toNatClampNeg) p1 _ hf (lv_sub hl [1, 2, 3, 0] rfl)
  · have hf := (if_ok hf).2 cc
    refine lv_iload_n hx hb dX2_headsIf_18 rfl (lv_at hl 3 rfl) ?_
    refine lv_iload_n hx hb dX2_headsIf_19 rfl (lv_at hl 0 rfl) ?_
    refine lv_iadd hx hb dX2_headsIf_20 ?_
    refine lv_goto (tgt := 25) hx hb dX2_headsIf_21 (by decide) ?_
    exact w_X2_headsIf_25 C hK hE hN b zb hP   p0 p1 (I (b + 2) p0.toNatClampNeg) (p1 + (I (b + 2) p0.toNatClampNeg)) _ hf (lv_sub hl [1, 2, 3, 0] rfl)
abbrev r_X2_headsOf : Room := { frames := 1, cells := 0, slots := 0, locals := 25 }
theorem in_X2_headsOf_X2 : ∀ w ∈ u_ws RX2 TX2 13, w ∈ wsX2_headsOf := by decide +kernel
set_option maxHeartbeats 4000000 in
set_option maxRecDepth 100000 in
theorem c_X2_headsOf (l : Launch) {D : va_G} {ad : Nat → Nat} {cy : Nat → ClassId} {sa va : Nat → Nat} {I : qI} {J : qJ} (b : Nat) (zb : isB b) (p0 : Int32) {r : Int32} (hf : f_X2_headsOf b p0 I = some r) : Met l yX2_headsOf wsX2_headsOf r_X2_headsOf (va_Pc [.ref (ad b), .int p0] (qPre D xS ad cy sa va (eX ad cy) I J)) (vp_Si (fun x => x = r)) 0 0 (fun _ => False) := by
  refine Met.ofW (cc := cX2_headsOf) (maxL := 2) (ret := (some .int)) (by decide) rfl ?_
  intro p e s m args below meth c s₁ B hml hv
  obtain ⟨rfl, hP, hK, hE, hN⟩ := hv
  have C : qC p s m _ meth c cX2_headsOf 2 RX2 wsX2_headsOf (some .int) := ⟨⟨B.exec, B.bytes, hml, findClass_of_methodNamed B.named, atoms_spec (ws := wsX2_headsOf) B.pre⟩, B.returns, B.notSynchronized⟩
  have C0 := C
  obtain ⟨⟨hx, hb, hml, hown, hts⟩, hr, hlocks⟩ := C0
  have hl := lv_entry ([.ref (ad b), .int p0]) (n := 2) (Nat.le_of_ble_eq_true rfl)
  rw [lg_entry_eq]
  generalize (lg_sl ([.ref (ad b), .int p0]) ++ List.replicate (2 - (lg_sl ([.ref (ad b), .int p0])).length) Slot.unset).toArray = ls at hl ⊢
  have hl : lv_has ls 2 [(0, .ref (ad b)), (1, .int p0)] := hl
  unfold f_X2_headsOf at hf
  refine lv_aload_n hx hb dX2_headsOf_0 rfl (lv_at hl 0 rfl) ?_
  refine lv_iload_n hx hb dX2_headsOf_1 rfl (lv_at hl 1 rfl) ?_
  refine lv_aload_n hx hb dX2_headsOf_2 rfl (lv_at hl 0 rfl) ?_
  refine q_get (C := RX2) (T := TX2) (N := 13) (ci := 2) (v := .ref (ad (b + 3))) hx hb hts in_X2_headsOf_X2 hown hK hP (oX2 zb) rfl 2 (by decide) (hts (.fieldLink RX2 18 "RowsOnlyPrimes$Bank" "counts" "[I") (by decide +kernel)) (fun _ h9 => h9) rfl dX2_headsOf_3 ?_
  refine lv_iload_n hx hb dX2_headsOf_6 rfl (lv_at hl 1 rfl) ?_
  obtain ⟨g1, hf⟩ := gd_ok hf
  refine q_iald hx hb hK hP (aX2_3 zb) g1 dX2_headsOf_7 ?_
  obtain ⟨v2, h3, hf⟩ := bd_ok hf
  refine q_cSi (va_runV (As := [.int p0, .int (I (b + 3) p0.toNatClampNeg)]) (rest := []) ⟨hx, hb, hml, hown, hts⟩ (c_X2_headsIf l (D := D) (ad := ad) (cy := cy) (sa := sa) (va := va) (I := I) (J := J) b zb p0 (I (b + 3) p0.toNatClampNeg) h3) (cwV 2 hts gX2_headsOf_X2_headsIf rfl rfl rfl (by decide +kernel) ⟨Nat.le_of_ble_eq_true rfl, Nat.le_of_ble_eq_true rfl⟩) ⟨qPre_blind _, q_recv hK hP (oX2 zb) rfl, fun U hU hW => ⟨rfl, qPre_of hP hK hE hN va_S.rf U hU hW⟩⟩ rfl rfl hl.1 rfl (lv_room (Nat.le_of_ble_eq_true rfl)) dX2_headsOf_8 ⟨Nat.le_of_ble_eq_true rfl, Nat.le_of_ble_eq_true rfl⟩) ?_
  exact W.iret hx hb hr (fun t ht _ => ⟨_, rfl, Option.some.inj hf, ht⟩) (fun _ h => by cases h) dX2_headsOf_11
abbrev r_X2_headsTogether : Room := { frames := 2, cells := 0, slots := 0, locals := 46 }
theorem in_X2_headsTogether_X2 : ∀ w ∈ u_ws RX2 TX2 13, w ∈ wsX2_headsTogether := by decide +kernel
set_option maxHeartbeats 4000000 in
set_option maxRecDepth 100000 in
theorem w_X2_headsTogether_4 (C : qC p s m args meth c cX2_headsTogether 4 RX2 wsX2_headsTogether (some .int)) (hK : qK D cy sa s) (hE : qEnv sa va (qA xS ad) s s.heap) (hN : qN xS ad) (b : Nat) (zb : isB b) {I : qI} {J : qJ} (hP : qP D xS ad (eX ad cy) I J s.heap) {r : Int32} : ∀ (n : Nat) (x1 : Int32) (x2 : Int32) (x3 : Int32)  (ls : Array Slot), f_X2_headsTogether_4 b I n x1 x2 x3 = some r → lv_has ls 4 [(0, .ref (ad b)), (1, .int x1), (2, .int x2), (3, .int x3)] → W p l e (headSpec wsX2_headsTogether r_X2_headsTogether).room s m args below meth c s.heap [] 0 0 (MQ below (vp_Si (fun x => x = r)) args s 0 0 (fun _ => False)) (F0 m 4 ls []) := by
  have C0 := C
  obtain ⟨⟨hx, hb, hml, hown, hts⟩, hr, hlocks⟩ := C0
  intro n
  induction n with
  | zero =>
    intro x1 x2 x3 ls hf hl
    rw [f_X2_headsTogether_4] at hf
    cases hf
  | succ n ih =>
    intro x1 x2 x3 ls hf hl
    rw [f_X2_headsTogether_4] at hf
    refine lv_iload_n hx hb dX2_headsTogether_4 rfl (lv_at hl 3 rfl) ?_
    refine lv_aload_n hx hb dX2_headsTogether_5 rfl (lv_at hl 0 rfl) ?_
    refine q_get (C := RX2) (T := TX2) (N := 13) (ci := 2) (v := .int (I b 7)) hx hb hts in_X2_headsTogether_X2 hown hK hP (oX2 zb) rfl 7 (by decide) (hts (.fieldLink RX2 46 "RowsOnlyPrimes$Bank" "size" "I") (by decide +kernel)) (fun _ h9 => h9) rfl dX2_headsTogether_6 ?_
    refine lv_icmp_ge (tgt := 34) hx hb dX2_headsTogether_9 (by decide) (fun cc => ?_) (fun cc => ?_)
    · have hf := (if_ok hf).1 cc
      refine lv_iload_n hx hb dX2_headsTogether_34 rfl (lv_at hl 2 rfl) ?_
      exact W.iret hx hb hr (fun t ht _ => ⟨_, rfl, Option.some.inj hf, ht⟩) (fun _ h => by cases h) dX2_headsTogether_35
    · have hf := (if_ok hf).2 cc
      refine lv_iload_n hx hb dX2_headsTogether_12 rfl (lv_at hl 1 rfl) ?_
      refine lv_iload_n hx hb dX2_headsTogether_13 rfl (lv_at hl 3 rfl) ?_
      obtain ⟨v1, h2, hf⟩ := bd_ok hf
      refine q_cSi (va_runSN (host := RX8) (As := [.int x1, .int x3]) (rest := []) ⟨hx, hb, hml, hown, hts⟩ (c_X8_has l (D := D) (ad := ad) (cy := cy) (sa := sa) (va := va) (I := I) (J := J) x1 x3 h2) ⟨va_cnB 2 hts gX2_headsTogether_X8_has_n77 rfl rfl rfl (hK.2.1.2.1.2.2.1) (hts (.initialized RX8) (by decide +kernel)) (by decide +kernel) ⟨Nat.le_of_ble_eq_true rfl, Nat.le_of_ble_eq_true rfl⟩, (hts (.static yX8_has) (by decide +kernel)), trivial⟩ ⟨qPre_blind _, fun U hU hW => ⟨rfl, qPre_of hP hK hE hN va_S.rf U hU hW⟩⟩ rfl rfl hl.1 rfl (lv_room (Nat.le_of_ble_eq_true rfl)) dX2_headsTogether_14 ⟨Nat.le_of_ble_eq_true rfl, Nat.le_of_ble_eq_true rfl⟩) ?_
      refine lv_if_eq (tgt := 28) hx hb dX2_headsTogether_17 (by decide) (fun cc => ?_) (fun cc => ?_)
      · have hf := (if_ok hf).1 cc
        refine lv_iinc (v := (x3 + (1 : Int32))) (lv' := [(3, .int (x3 + (1 : Int32))), (0, .ref (ad b)), (1, .int x1), (2, .int x2)]) hx hb dX2_headsTogether_28 hl (k := 3) rfl rfl (by decide) rfl (fun ls hl => ?_)
        refine lv_goto (tgt := 4) hx hb dX2_headsTogether_31 (by decide) ?_
        exact ih x1 x2 (x3 + (1 : Int32)) _ hf (lv_sub hl [1, 2, 3, 0] rfl)
      · have hf := (if_ok hf).2 cc
        refine lv_iload_n hx hb dX2_headsTogether_20 rfl (lv_at hl 2 rfl) ?_
        refine lv_aload_n hx hb dX2_headsTogether_21 rfl (lv_at hl 0 rfl) ?_
        refine lv_iload_n hx hb dX2_headsTogether_22 rfl (lv_at hl 3 rfl) ?_
        obtain ⟨v3, h4, hf⟩ := bd_ok hf
        refine q_cSi (va_runV (As := [.int x3]) (rest := [.int x2]) ⟨hx, hb, hml, hown, hts⟩ (c_X2_headsOf l (D := D) (ad := ad) (cy := cy) (sa := sa) (va := va) (I := I) (J := J) b zb x3 h4) (cwV 1 hts gX2_headsTogether_X2_headsOf rfl rfl rfl (by decide +kernel) ⟨Nat.le_of_ble_eq_true rfl, Nat.le_of_ble_eq_true rfl⟩) ⟨qPre_blind _, q_recv hK hP (oX2 zb) rfl, fun U hU hW => ⟨rfl, qPre_of hP hK hE hN va_S.rf U hU hW⟩⟩ rfl rfl hl.1 rfl (lv_room (Nat.le_of_ble_eq_true rfl)) dX2_headsTogether_23 ⟨Nat.le_of_ble_eq_true rfl, Nat.le_of_ble_eq_true rfl⟩) ?_
        refine lv_iadd hx hb dX2_headsTogether_26 ?_
        refine lv_istore_n (lv' := [(2, .int (x2 + v3)), (0, .ref (ad b)), (1, .int x1), (3, .int x3)]) hx hb dX2_headsTogether_27 rfl hl (by decide) rfl (fun ls hl => ?_)
        refine lv_iinc (v := (x3 + (1 : Int32))) (lv' := [(3, .int (x3 + (1 : Int32))), (2, .int (x2 + v3)), (0, .ref (ad b)), (1, .int x1)]) hx hb dX2_headsTogether_28 hl (k := 3) rfl rfl (by decide) rfl (fun ls hl => ?_)
        refine lv_goto (tgt := 4) hx hb dX2_headsTogether_31 (by decide) ?_
        exact ih x1 (x2 + v3) (x3 + (1 : Int32)) _ hf (lv_sub hl [2, 3, 1, 0] rfl)
set_option maxHeartbeats 4000000 in
set_option maxRecDepth 100000 in
theorem c_X2_headsTogether (l : Launch) {D : va_G} {ad : Nat → Nat} {cy : Nat → ClassId} {sa va : Nat → Nat} {I : qI} {J : qJ} (b : Nat) (zb : isB b) (p0 : Int32) {r : Int32} (hf : f_X2_headsTogether b p0 I = some r) : Met l yX2_headsTogether wsX2_headsTogether r_X2_headsTogether (va_Pc [.ref (ad b), .int p0] (qPre D xS ad cy sa va (eX ad cy) I J)) (vp_Si (fun x => x = r)) 0 0 (fun _ => False) := by
  refine Met.ofW (cc := cX2_headsTogether) (maxL := 4) (ret := (some .int)) (by decide) rfl ?_
  intro p e s m args below meth c s₁ B hml hv
  obtain ⟨rfl, hP, hK, hE, hN⟩ := hv
  have C : qC p s m _ meth c cX2_headsTogether 4 RX2 wsX2_headsTogether (some .int) := ⟨⟨B.exec, B.bytes, hml, findClass_of_methodNamed B.named, atoms_spec (ws := wsX2_headsTogether) B.pre⟩, B.returns, B.notSynchronized⟩
  have C0 := C
  obtain ⟨⟨hx, hb, hml, hown, hts⟩, hr, hlocks⟩ := C0
  have hl := lv_entry ([.ref (ad b), .int p0]) (n := 4) (Nat.le_of_ble_eq_true rfl)
  rw [lg_entry_eq]
  generalize (lg_sl ([.ref (ad b), .int p0]) ++ List.replicate (4 - (lg_sl ([.ref (ad b), .int p0])).length) Slot.unset).toArray = ls at hl ⊢
  have hl : lv_has ls 4 [(0, .ref (ad b)), (1, .int p0)] := hl
  unfold f_X2_headsTogether at hf
  refine lv_iconst (v := 0) hx hb dX2_headsTogether_0 (by decide) ?_
  refine lv_istore_n (lv' := [(2, .int (0 : Int32)), (0, .ref (ad b)), (1, .int p0)]) hx hb dX2_headsTogether_1 rfl hl (by decide) rfl (fun ls hl => ?_)
  refine lv_iconst (v := 0) hx hb dX2_headsTogether_2 (by decide) ?_
  refine lv_istore_n (lv' := [(3, .int (0 : Int32)), (2, .int (0 : Int32)), (0, .ref (ad b)), (1, .int p0)]) hx hb dX2_headsTogether_3 rfl hl (by decide) rfl (fun ls hl => ?_)
  exact w_X2_headsTogether_4 C hK hE hN b zb hP  1000 p0 (0 : Int32) (0 : Int32) _ hf (lv_sub hl [2, 3, 1, 0] rfl)
abbrev r_X2_agrees : Room := { frames := 1, cells := 0, slots := 0, locals := 21 }
theorem in_X2_agrees_X2 : ∀ w ∈ u_ws RX2 TX2 13, w ∈ wsX2_agrees := by decide +kernel
set_option maxHeartbeats 4000000 in
set_option maxRecDepth 100000 in
theorem w_X2_agrees_21 (C : qC p s m args meth c cX2_agrees 5 RX2 wsX2_agrees (some .boolean)) (hK : qK D cy sa s) (hE : qEnv sa va (qA xS ad) s s.heap) (hN : qN xS ad) (b : Nat) (zb : isB b) {I : qI} {J : qJ} (hP : qP D xS ad (eX ad cy) I J s.heap) {r : Int32} : ∀ (n : Nat) (x1 : Int32) (x3 : Int32) (x4 : Int32)  (ls : Array Slot), f_X2_agrees_21 b I n x1 x3 x4 = some r → lv_has ls 5 [(0, .ref (ad b)), (1, .int x1), (3, .int x3), (4, .int x4)] → W p l e (headSpec wsX2_agrees r_X2_agrees).room s m args below meth c s.heap [] 0 0 (MQ below (vp_Si (fun x => x = r)) args s 0 0 (fun _ => False)) (F0 m 21 ls []) := by
  have C0 := C
  obtain ⟨⟨hx, hb, hml, hown, hts⟩, hr, hlocks⟩ := C0
  intro n
  induction n with
  | zero =>
    intro x1 x3 x4 ls hf hl
    rw [f_X2_agrees_21] at hf
    cases hf
  | succ n ih =>
    intro x1 x3 x4 ls hf hl
    rw [f_X2_agrees_21] at hf
    refine lv_iload hx hb dX2_agrees_21 (lv_at hl 3 rfl) ?_
    refine lv_aload_n hx hb dX2_agrees_23 rfl (lv_at hl 0 rfl) ?_
    refine q_get (C := RX2) (T := TX2) (N := 13) (ci := 2) (v := .int (I b 7)) hx hb hts in_X2_agrees_X2 hown hK hP (oX2 zb) rfl 7 (by decide) (hts (.fieldLink RX2 46 "RowsOnlyPrimes$Bank" "size" "I") (by decide +kernel)) (fun _ h9 => h9) rfl dX2_agrees_24 ?_
    refine lv_icmp_ge (tgt := 71) hx hb dX2_agrees_27 (by decide) (fun cc => ?_) (fun cc => ?_)
    · have hf := (if_ok hf).1 cc
      refine lv_iconst (v := 1) hx hb dX2_agrees_71 (by decide) ?_
      exact W.zret (ty := .boolean) hx hb hr rfl (fun t ht _ => ⟨_, rfl, Option.some.inj hf, ht⟩) (fun _ h => by cases h) dX2_agrees_72
    · have hf := (if_ok hf).2 cc
      refine lv_iload_n hx hb dX2_agrees_30 rfl (lv_at hl 1 rfl) ?_
      refine lv_iload hx hb dX2_agrees_31 (lv_at hl 3 rfl) ?_
      obtain ⟨v1, h2, hf⟩ := bd_ok hf
      refine q_cSi (va_runSN (host := RX8) (As := [.int x1, .int x4]) (rest := []) ⟨hx, hb, hml, hown, hts⟩ (c_X8_has l (D := D) (ad := ad) (cy := cy) (sa := sa) (va := va) (I := I) (J := J) x1 x4 h2) ⟨va_cnB 2 hts gX2_agrees_X8_has_n77 rfl rfl rfl (hK.2.1.2.1.2.2.1) (hts (.initialized RX8) (by decide +kernel)) (by decide +kernel) ⟨Nat.le_of_ble_eq_true rfl, Nat.le_of_ble_eq_true rfl⟩, (hts (.static yX8_has) (by decide +kernel)), trivial⟩ ⟨qPre_blind _, fun U hU hW => ⟨rfl, qPre_of hP hK hE hN va_S.rf U hU hW⟩⟩ rfl rfl hl.1 rfl (lv_room (Nat.le_of_ble_eq_true rfl)) dX2_agrees_33 ⟨Nat.le_of_ble_eq_true rfl, Nat.le_of_ble_eq_true rfl⟩) ?_
      refine lv_if_eq (tgt := 65) hx hb dX2_agrees_36 (by decide) (fun cc => ?_) (fun cc => ?_)
      · have hf := (if_ok hf).1 cc
        refine lv_iinc (v := (x4 + (1 : Int32))) (lv' := [(4, .int (x4 + (1 : Int32))), (0, .ref (ad b)), (1, .int x1), (3, .int x3)]) hx hb dX2_agrees_65 hl (k := 3) rfl rfl (by decide) rfl (fun ls hl => ?_)
        refine lv_goto (tgt := 21) hx hb dX2_agrees_68 (by decide) ?_
        exact ih x1 x3 (x4 + (1 : Int32)) _ hf (lv_sub hl [1, 2, 3, 0] rfl)
      · have hf := (if_ok hf).2 cc
        refine lv_aload_n hx hb dX2_agrees_39 rfl (lv_at hl 0 rfl) ?_
        refine q_get (C := RX2) (T := TX2) (N := 13) (ci := 2) (v := .ref (ad (b + 6))) hx hb hts in_X2_agrees_X2 hown hK hP (oX2 zb) rfl 5 (by decide) (hts (.fieldLink RX2 27 "RowsOnlyPrimes$Bank" "shuns" "[I") (by decide +kernel)) (fun _ h9 => h9) rfl dX2_agrees_40 ?_
        refine lv_iload hx hb dX2_agrees_43 (lv_at hl 3 rfl) ?_
        obtain ⟨g3, hf⟩ := gd_ok hf
        refine q_iald hx hb hK hP (aX2_6 zb) g3 dX2_agrees_45 ?_
        refine lv_iload_n hx hb dX2_agrees_46 rfl (lv_at hl 1 rfl) ?_
        refine lv_iand hx hb dX2_agrees_47 ?_
        refine lv_if_ne (tgt := 63) hx hb dX2_agrees_48 (by decide) (fun cc => ?_) (fun cc => ?_)
        · have hf := (if_ok hf).2 cc
          refine lv_iconst (v := 0) hx hb dX2_agrees_63 (by decide) ?_
          exact W.zret (ty := .boolean) hx hb hr rfl (fun t ht _ => ⟨_, rfl, Option.some.inj hf, ht⟩) (fun _ h => by cases h) dX2_agrees_64
        · have hf := (if_ok hf).1 cc
          refine lv_aload_n hx hb dX2_agrees_51 rfl (lv_at hl 0 rfl) ?_
          refine q_get (C := RX2) (T := TX2) (N := 13) (ci := 2) (v := .ref (ad (b + 5))) hx hb hts in_X2_agrees_X2 hown hK hP (oX2 zb) rfl 4 (by decide) (hts (.fieldLink RX2 24 "RowsOnlyPrimes$Bank" "ties" "[I") (by decide +kernel)) (fun _ h9 => h9) rfl dX2_agrees_52 ?_
          refine lv_iload hx hb dX2_agrees_55 (lv_at hl 3 rfl) ?_
          obtain ⟨g4, hf⟩ := gd_ok hf
          refine q_iald hx hb hK hP (aX2_5 zb) g4 dX2_agrees_57 ?_
          refine lv_iload_n hx hb dX2_agrees_58 rfl (lv_at hl 2 rfl) ?_
          refine lv_iand hx hb dX2_agrees_59 ?_
          refine lv_if_eq (tgt := 65) hx hb dX2_agrees_60 (by decide) (fun cc => ?_) (fun cc => ?_)
          · have hf := (if_ok hf).1 cc
            refine lv_iinc (v := (x4 + (1 : Int32))) (lv' := [(4, .int (x4 + (1 : Int32))), (0, .ref (ad b)), (1, .int x1), (3, .int x3)]) hx hb dX2_agrees_65 hl (k := 3) rfl rfl (by decide) rfl (fun ls hl => ?_)
            refine lv_goto (tgt := 21) hx hb dX2_agrees_68 (by decide) ?_
            exact ih x1 x3 (x4 + (1 : Int32)) _ hf (lv_sub hl [1, 2, 3, 0] rfl)
          · have hf := (if_ok hf).2 cc
            refine lv_iconst (v := 0) hx hb dX2_agrees_63 (by decide) ?_
            exact W.zret (ty := .boolean) hx hb hr rfl (fun t ht _ => ⟨_, rfl, Option.some.inj hf, ht⟩) (fun _ h => by cases h) dX2_agrees_64
set_option maxHeartbeats 4000000 in
set_option maxRecDepth 100000 in
theorem c_X2_agrees (l : Launch) {D : va_G} {ad : Nat → Nat} {cy : Nat → ClassId} {sa va : Nat → Nat} {I : qI} {J : qJ} (b : Nat) (zb : isB b) (p0 : Int32) (p1 : Int32) {r : Int32} (hf : f_X2_agrees b p0 p1 I = some r) : Met l yX2_agrees wsX2_agrees r_X2_agrees (va_Pc [.ref (ad b), .int p0, .int p1] (qPre D xS ad cy sa va (eX ad cy) I J)) (vp_Si (fun x => x = r)) 0 0 (fun _ => False) := by
  refine Met.ofW (cc := cX2_agrees) (maxL := 5) (ret := (some .boolean)) (by decide) rfl ?_
  intro p e s m args below meth c s₁ B hml hv
  obtain ⟨rfl, hP, hK, hE, hN⟩ := hv
  have C : qC p s m _ meth c cX2_agrees 5 RX2 wsX2_agrees (some .boolean) := ⟨⟨B.exec, B.bytes, hml, findClass_of_methodNamed B.named, atoms_spec (ws := wsX2_agrees) B.pre⟩, B.returns, B.notSynchronized⟩
  have C0 := C
  obtain ⟨⟨hx, hb, hml, hown, hts⟩, hr, hlocks⟩ := C0
  have hl := lv_entry ([.ref (ad b), .int p0, .int p1]) (n := 5) (Nat.le_of_ble_eq_true rfl)
  rw [lg_entry_eq]
  generalize (lg_sl ([.ref (ad b), .int p0, .int p1]) ++ List.replicate (5 - (lg_sl ([.ref (ad b), .int p0, .int p1])).length) Slot.unset).toArray = ls at hl ⊢
  have hl : lv_has ls 5 [(0, .ref (ad b)), (1, .int p0), (2, .int p1)] := hl
  unfold f_X2_agrees at hf
  refine lv_iload_n hx hb dX2_agrees_0 rfl (lv_at hl 1 rfl) ?_
  refine lv_if_eq (tgt := 10) hx hb dX2_agrees_1 (by decide) (fun cc => ?_) (fun cc => ?_)
  · have hf := (if_ok hf).1 cc
    refine lv_iconst (v := 0) hx hb dX2_agrees_10 (by decide) ?_
    exact W.zret (ty := .boolean) hx hb hr rfl (fun t ht _ => ⟨_, rfl, Option.some.inj hf, ht⟩) (fun _ h => by cases h) dX2_agrees_11
  · have hf := (if_ok hf).2 cc
    refine lv_iload_n hx hb dX2_agrees_4 rfl (lv_at hl 1 rfl) ?_
    refine lv_iload_n hx hb dX2_agrees_5 rfl (lv_at hl 2 rfl) ?_
    refine lv_iand hx hb dX2_agrees_6 ?_
    refine lv_if_eq (tgt := 12) hx hb dX2_agrees_7 (by decide) (fun cc => ?_) (fun cc => ?_)
    · have hf := (if_ok hf).1 cc
      refine lv_iload_n hx hb dX2_agrees_12 rfl (lv_at hl 1 rfl) ?_
      refine lv_iload_n hx hb dX2_agrees_13 rfl (lv_at hl 2 rfl) ?_
      refine lv_ior hx hb dX2_agrees_14 ?_
      refine lv_iconst (v := -1) hx hb dX2_agrees_15 (by decide) ?_
      refine lv_ixor hx hb dX2_agrees_16 ?_
      refine lv_istore_n (lv' := [(3, .int ((p0 ||| p1) ^^^ (-1 : Int32))), (0, .ref (ad b)), (1, .int p0), (2, .int p1)]) hx hb dX2_agrees_17 rfl hl (by decide) rfl (fun ls hl => ?_)
      refine lv_iconst (v := 0) hx hb dX2_agrees_18 (by decide) ?_
      refine lv_istore (lv' := [(4, .int (0 : Int32)), (3, .int ((p0 ||| p1) ^^^ (-1 : Int32))), (0, .ref (ad b)), (1, .int p0), (2, .int p1)]) hx hb dX2_agrees_19 hl (by decide) rfl (fun ls hl => ?_)
      exact w_X2_agrees_21 C hK hE hN b zb hP  1000 p0 ((p0 ||| p1) ^^^ (-1 : Int32)) (0 : Int32) _ hf (lv_sub hl [2, 3, 1, 0] rfl)
    · have hf := (if_ok hf).2 cc
      refine lv_iconst (v := 0) hx hb dX2_agrees_10 (by decide) ?_
      exact W.zret (ty := .boolean) hx hb hr rfl (fun t ht _ => ⟨_, rfl, Option.some.inj hf, ht⟩) (fun _ h => by cases h) dX2_agrees_11
abbrev r_X0_markFits : Room := { frames := 3, cells := 0, slots := 0, locals := 69 }
theorem in_X0_markFits_X0 : ∀ w ∈ u_ws RX0 TX0 3, w ∈ wsX0_markFits := by decide +kernel
theorem in_X0_markFits_X2 : ∀ w ∈ u_ws RX2 TX2 13, w ∈ wsX0_markFits := by decide +kernel
set_option maxHeartbeats 4000000 in
set_option maxRecDepth 100000 in
theorem w_X0_markFits_99 (C : qC p s m args meth c cX0_markFits 9 RX0 wsX0_markFits none) (hK : qK D cy sa s) (hE : qEnv sa va (qA xS ad) s s.heap) (hN : qN xS ad) (c0 : Nat) (zc0 : isB c0) {J : qJ} {Ie : qI} (k33 : Int32 → Int64 → Int32 → Int32 → qI → Option qI) (hk33 : ∀ (x2 : Int32) (x3 : Int64) (x5 : Int32) (x6 : Int32)  (I : qI) (ls : Array Slot) (H : Heap) (locs : List Loc), k33 x2 x3 x5 x6 I = some Ie → lv_has ls 9 [(0, .ref (ad 54)), (1, .ref (ad c0)), (2, .int x2), (3, .long x3), (5, .int x5), (6, .int x6)] → qP D xS ad (eX ad cy) I J H → va_S (qA xS ad) s.heap H locs → W p l e (headSpec wsX0_markFits r_X0_markFits).room s m args below meth c H locs 0 0 (MQ below (va_Qv (S := Unit) (fun _ => True) (fun _ t => qP D xS ad (eX ad cy) Ie J t.heap) (qA xS ad)) args s 0 0 (qA xS ad)) (F0 m 33 ls [])) : ∀ (x2 : Int32) (x3 : Int64) (x5 : Int32) (x6 : Int32) (xs0 : Int32) (xs1 : Int32)  (I : qI) (ls : Array Slot) (H : Heap) (locs : List Loc), f_X0_markFits_99 c0 k33 x2 x3 x5 x6 xs0 xs1 I = some Ie → lv_has ls 9 [(0, .ref (ad 54)), (1, .ref (ad c0)), (2, .int x2), (3, .long x3), (5, .int x5), (6, .int x6)] → qP D xS ad (eX ad cy) I J H → va_S (qA xS ad) s.heap H locs → W p l e (headSpec wsX0_markFits r_X0_markFits).room s m args below meth c H locs 0 0 (MQ below (va_Qv (S := Unit) (fun _ => True) (fun _ t => qP D xS ad (eX ad cy) Ie J t.heap) (qA xS ad)) args s 0 0 (qA xS ad)) (F0 m 99 ls [.int xs0, .int xs1, .ref (ad 55)]) := by
  have C0 := C
  obtain ⟨⟨hx, hb, hml, hown, hts⟩, hr, hlocks⟩ := C0
  intro x2 x3 x5 x6 xs0 xs1 I ls H locs hf hl hP hS
  unfold f_X0_markFits_99 at hf
  obtain ⟨g1, hf⟩ := gd_ok hf
  obtain ⟨I2, eI2, hf⟩ := lt_ok hf
  refine q_zast hx hb hK hP hN hS aX0_1 g1 dX0_markFits_99 (fun H locs hP hS => ?_)
  have hP : qP D xS ad (eX ad cy) I2 J H := by rw [eI2]; exact hP
  refine lv_iinc (v := (x6 + (1 : Int32))) (lv' := [(6, .int (x6 + (1 : Int32))), (0, .ref (ad 54)), (1, .ref (ad c0)), (2, .int x2), (3, .long x3), (5, .int x5)]) hx hb dX0_markFits_100 hl (k := 5) rfl rfl (by decide) rfl (fun ls hl => ?_)
  refine lv_goto (tgt := 33) hx hb dX0_markFits_103 (by decide) ?_
  exact hk33 x2 x3 x5 (x6 + (1 : Int32)) I2 _ _ _ hf (lv_sub hl [1, 2, 3, 4, 5, 0] rfl) hP hS
set_option maxHeartbeats 4000000 in
set_option maxRecDepth 100000 in
theorem w_X0_markFits_98 (C : qC p s m args meth c cX0_markFits 9 RX0 wsX0_markFits none) (hK : qK D cy sa s) (hE : qEnv sa va (qA xS ad) s s.heap) (hN : qN xS ad) (c0 : Nat) (zc0 : isB c0) {J : qJ} {Ie : qI} (k33 : Int32 → Int64 → Int32 → Int32 → qI → Option qI) (hk33 : ∀ (x2 : Int32) (x3 : Int64) (x5 : Int32) (x6 : Int32)  (I : qI) (ls : Array Slot) (H : Heap) (locs : List Loc), k33 x2 x3 x5 x6 I = some Ie → lv_has ls 9 [(0, .ref (ad 54)), (1, .ref (ad c0)), (2, .int x2), (3, .long x3), (5, .int x5), (6, .int x6)] → qP D xS ad (eX ad cy) I J H → va_S (qA xS ad) s.heap H locs → W p l e (headSpec wsX0_markFits r_X0_markFits).room s m args below meth c H locs 0 0 (MQ below (va_Qv (S := Unit) (fun _ => True) (fun _ t => qP D xS ad (eX ad cy) Ie J t.heap) (qA xS ad)) args s 0 0 (qA xS ad)) (F0 m 33 ls [])) : ∀ (x2 : Int32) (x3 : Int64) (x5 : Int32) (x6 : Int32) (xs0 : Int32)  (I : qI) (ls : Array Slot) (H : Heap) (locs : List Loc), f_X0_markFits_98 c0 k33 x2 x3 x5 x6 xs0 I = some Ie → lv_has ls 9 [(0, .ref (ad 54)), (1, .ref (ad c0)), (2, .int x2), (3, .long x3), (5, .int x5), (6, .int x6)] → qP D xS ad (eX ad cy) I J H → va_S (qA xS ad) s.heap H locs → W p l e (headSpec wsX0_markFits r_X0_markFits).room s m args below meth c H locs 0 0 (MQ below (va_Qv (S := Unit) (fun _ => True) (fun _ t => qP D xS ad (eX ad cy) Ie J t.heap) (qA xS ad)) args s 0 0 (qA xS ad)) (F0 m 98 ls [.int xs0, .ref (ad 55)]) := by
  have C0 := C
  obtain ⟨⟨hx, hb, hml, hown, hts⟩, hr, hlocks⟩ := C0
  intro x2 x3 x5 x6 xs0 I ls H locs hf hl hP hS
  unfold f_X0_markFits_98 at hf
  refine lv_iconst (v := 0) hx hb dX0_markFits_98 (by decide) ?_
  exact w_X0_markFits_99 C hK hE hN c0 zc0 k33 hk33  x2 x3 x5 x6 (0 : Int32) xs0 I _ _ _ hf (lv_sub hl [0, 1, 2, 3, 4, 5] rfl) hP hS
set_option maxHeartbeats 4000000 in
set_option maxRecDepth 100000 in
theorem w_X0_markFits_33 (C : qC p s m args meth c cX0_markFits 9 RX0 wsX0_markFits none) (hK : qK D cy sa s) (hE : qEnv sa va (qA xS ad) s s.heap) (hN : qN xS ad) (c0 : Nat) (zc0 : isB c0) {J : qJ} {Ie : qI} : ∀ (n : Nat) (x2 : Int32) (x3 : Int64) (x5 : Int32) (x6 : Int32)  (I : qI) (ls : Array Slot) (H : Heap) (locs : List Loc), f_X0_markFits_33 c0 n x2 x3 x5 x6 I = some Ie → lv_has ls 9 [(0, .ref (ad 54)), (1, .ref (ad c0)), (2, .int x2), (3, .long x3), (5, .int x5), (6, .int x6)] → qP D xS ad (eX ad cy) I J H → va_S (qA xS ad) s.heap H locs → W p l e (headSpec wsX0_markFits r_X0_markFits).room s m args below meth c H locs 0 0 (MQ below (va_Qv (S := Unit) (fun _ => True) (fun _ t => qP D xS ad (eX ad cy) Ie J t.heap) (qA xS ad)) args s 0 0 (qA xS ad)) (F0 m 33 ls []) := by
  have C0 := C
  obtain ⟨⟨hx, hb, hml, hown, hts⟩, hr, hlocks⟩ := C0
  intro n
  induction n with
  | zero =>
    intro x2 x3 x5 x6 I ls H locs hf hl hP hS
    rw [f_X0_markFits_33] at hf
    cases hf
  | succ n ih =>
    intro x2 x3 x5 x6 I ls H locs hf hl hP hS
    rw [f_X0_markFits_33] at hf
    refine lv_iload hx hb dX0_markFits_33 (lv_at hl 5 rfl) ?_
    refine lv_iload_n hx hb dX0_markFits_35 rfl (lv_at hl 2 rfl) ?_
    refine lv_icmp_gt (tgt := 106) hx hb dX0_markFits_36 (by decide) (fun cc => ?_) (fun cc => ?_)
    · have hf := (if_ok hf).1 cc
      have e9 := Option.some.inj hf
      have eI9 : I = Ie := e9
      exact W.vret hx hb hr (fun t ht _ => ⟨⟨(), rfl, trivial, by show qP D _ ad _ _ _ t.heap; rw [ht, ← eI9]; exact hP⟩, hS.F ht⟩) hS.2.2 dX0_markFits_106
    · have hf := (if_ok hf).2 cc
      refine lv_lload_n hx hb dX0_markFits_39 rfl (lv_at hl 3 rfl) ?_
      refine lv_aload_n hx hb dX0_markFits_40 rfl (lv_at hl 1 rfl) ?_
      refine lv_iload hx hb dX0_markFits_41 (lv_at hl 5 rfl) ?_
      obtain ⟨v1, h2, hf⟩ := bd_ok hf
      refine q_cSi (va_runV (As := [.int x6]) (rest := [.long x3]) ⟨hx, hb, hml, hown, hts⟩ (c_X2_headsTogether l (D := D) (ad := ad) (cy := cy) (sa := sa) (va := va) (I := I) (J := J) c0 zc0 x6 h2) (cwV 1 hts gX0_markFits_X2_headsTogether rfl rfl rfl (by decide +kernel) ⟨Nat.le_of_ble_eq_true rfl, Nat.le_of_ble_eq_true rfl⟩) ⟨qPre_blind _, q_recv hK hP (oX2 zc0) rfl, fun U hU hW => ⟨rfl, qPre_of hP hK hE hN hS U hU hW⟩⟩ rfl rfl hl.1 rfl (lv_room (Nat.le_of_ble_eq_true rfl)) dX0_markFits_43 ⟨Nat.le_of_ble_eq_true rfl, Nat.le_of_ble_eq_true rfl⟩) ?_
      refine lv_i2l hx hb dX0_markFits_46 rfl ?_
      refine lv_lsub hx hb dX0_markFits_47 ?_
      refine lv_lstore (lv' := [(7, .long (x3 - v1.toInt64)), (0, .ref (ad 54)), (1, .ref (ad c0)), (2, .int x2), (3, .long x3), (5, .int x5), (6, .int x6)]) hx hb dX0_markFits_48 hl (by decide) rfl (fun ls hl => ?_)
      refine lv_aload_n hx hb dX0_markFits_50 rfl (lv_at hl 1 rfl) ?_
      refine q_get (C := RX0) (T := TX0) (N := 3) (ci := 0) (v := .ref (ad 55)) hx hb hts in_X0_markFits_X0 hown hK hP oX0 rfl 0 (by decide) (hts (.fieldLink RX0 9 "RowsOnlyPrimes$Account" "fits" "[Z") (by decide +kernel)) (fun _ h9 => h9) rfl dX0_markFits_51 ?_
      refine lv_iload hx hb dX0_markFits_54 (lv_at hl 6 rfl) ?_
      refine lv_iload hx hb dX0_markFits_56 (lv_at hl 5 rfl) ?_
      refine lv_if_eq (tgt := 98) hx hb dX0_markFits_58 (by decide) (fun cc => ?_) (fun cc => ?_)
      · have hf := (if_ok hf).1 cc
        exact w_X0_markFits_98 C hK hE hN c0 zc0 (f_X0_markFits_33 c0 n) ih  x2 x3 x5 x6 x6 I _ _ _ hf (lv_sub hl [1, 2, 3, 4, 5, 6] rfl) hP hS
      · have hf := (if_ok hf).2 cc
        refine lv_lload hx hb dX0_markFits_61 (lv_at hl 0 rfl) ?_
        refine lv_lconst (v := 0) hx hb dX0_markFits_63 (by decide) ?_
        refine W.lcmp hx hb dX0_markFits_64 ?_
        refine lv_if_lt (tgt := 98) hx hb dX0_markFits_65 (by decide) (fun cc => ?_) (fun cc => ?_)
        · have hf := (if_ok hf).1 cc
          exact w_X0_markFits_98 C hK hE hN c0 zc0 (f_X0_markFits_33 c0 n) ih  x2 x3 x5 x6 x6 I _ _ _ hf (lv_sub hl [1, 2, 3, 4, 5, 6] rfl) hP hS
        · have hf := (if_ok hf).2 cc
          refine lv_lload hx hb dX0_markFits_68 (lv_at hl 0 rfl) ?_
          refine lv_aload_n hx hb dX0_markFits_70 rfl (lv_at hl 2 rfl) ?_
          refine q_get (C := RX2) (T := TX2) (N := 13) (ci := 2) (v := .ref (ad (c0 + 7))) hx hb hts in_X0_markFits_X2 hown hK hP (oX2 zc0) rfl 6 (by decide) (hts (.fieldLink RX0 61 "RowsOnlyPrimes$Bank" "told" "[I") (by decide +kernel)) (fun _ h9 => h9) rfl dX0_markFits_71 ?_
          refine lv_iconst (v := 3) hx hb dX0_markFits_74 (by decide) ?_
          refine q_iald hx hb hK hP (aX2_7 zc0) (by decide) dX0_markFits_75 ?_
          refine q_top (y := (I (c0 + 7) 3)) rfl ?_
          refine lv_i2l hx hb dX0_markFits_76 rfl ?_
          refine W.lcmp hx hb dX0_markFits_77 ?_
          refine lv_if_gt (tgt := 98) hx hb dX0_markFits_78 (by decide) (fun cc => ?_) (fun cc => ?_)
          · have hf := (if_ok hf).1 cc
            exact w_X0_markFits_98 C hK hE hN c0 zc0 (f_X0_markFits_33 c0 n) ih  x2 x3 x5 x6 x6 I _ _ _ hf (lv_sub hl [1, 2, 3, 4, 5, 6] rfl) hP hS
          · have hf := (if_ok hf).2 cc
            refine lv_aload_n hx hb dX0_markFits_81 rfl (lv_at hl 2 rfl) ?_
            refine lv_iload hx hb dX0_markFits_82 (lv_at hl 6 rfl) ?_
            refine lv_aload_n hx hb dX0_markFits_84 rfl (lv_at hl 2 rfl) ?_
            refine q_get (C := RX2) (T := TX2) (N := 13) (ci := 2) (v := .int (I c0 8)) hx hb hts in_X0_markFits_X2 hown hK hP (oX2 zc0) rfl 8 (by decide) (hts (.fieldLink RX0 64 "RowsOnlyPrimes$Bank" "over" "I") (by decide +kernel)) (fun _ h9 => h9) rfl dX0_markFits_85 ?_
            obtain ⟨v3, h4, hf⟩ := bd_ok hf
            refine q_cSi (va_runV (As := [.int x6, .int (I c0 8)]) (rest := [.int x6, .ref (ad 55)]) ⟨hx, hb, hml, hown, hts⟩ (c_X2_agrees l (D := D) (ad := ad) (cy := cy) (sa := sa) (va := va) (I := I) (J := J) c0 zc0 x6 (I c0 8) h4) (cwV 2 hts gX0_markFits_X2_agrees rfl rfl rfl (by decide +kernel) ⟨Nat.le_of_ble_eq_true rfl, Nat.le_of_ble_eq_true rfl⟩) ⟨qPre_blind _, q_recv hK hP (oX2 zc0) rfl, fun U hU hW => ⟨rfl, qPre_of hP hK hE hN hS U hU hW⟩⟩ rfl rfl hl.1 rfl (lv_room (Nat.le_of_ble_eq_true rfl)) dX0_markFits_88 ⟨Nat.le_of_ble_eq_true rfl, Nat.le_of_ble_eq_true rfl⟩) ?_
            refine lv_if_eq (tgt := 98) hx hb dX0_markFits_91 (by decide) (fun cc => ?_) (fun cc => ?_)
            · have hf := (if_ok hf).1 cc
              exact w_X0_markFits_98 C hK hE hN c0 zc0 (f_X0_markFits_33 c0 n) ih  x2 x3 x5 x6 x6 I _ _ _ hf (lv_sub hl [1, 2, 3, 4, 5, 6] rfl) hP hS
            · have hf := (if_ok hf).2 cc
              refine lv_iconst (v := 1) hx hb dX0_markFits_94 (by decide) ?_
              refine lv_goto (tgt := 99) hx hb dX0_markFits_95 (by decide) ?_
              exact w_X0_markFits_99 C hK hE hN c0 zc0 (f_X0_markFits_33 c0 n) ih  x2 x3 x5 x6 (1 : Int32) x6 I _ _ _ hf (lv_sub hl [1, 2, 3, 4, 5, 6] rfl) hP hS
set_option maxHeartbeats 4000000 in
set_option maxRecDepth 100000 in
theorem c_X0_markFits (l : Launch) {D : va_G} {ad : Nat → Nat} {cy : Nat → ClassId} {sa va : Nat → Nat} {I : qI} {J : qJ} (c0 : Nat) (zc0 : isB c0) (p1 : Int32) (p2 : Int64) {Ie : qI} (hf : f_X0_markFits c0 p1 p2 I = some Ie) : Met l yX0_markFits wsX0_markFits r_X0_markFits (va_Pc [.ref (ad 54), .ref (ad c0), .int p1, .long p2] (qPre D xS ad cy sa va (eX ad cy) I J)) (va_Qv (S := Unit) (fun _ => True) (fun _ t => qP D xS ad (eX ad cy) Ie J t.heap) (qA xS ad)) 0 0 (qA xS ad) := by
  refine Met.ofW (cc := cX0_markFits) (maxL := 9) (ret := none) (by decide) rfl ?_
  intro p e s m args below meth c s₁ B hml hv
  obtain ⟨rfl, hP, hK, hE, hN⟩ := hv
  have C : qC p s m _ meth c cX0_markFits 9 RX0 wsX0_markFits none := ⟨⟨B.exec, B.bytes, hml, findClass_of_methodNamed B.named, atoms_spec (ws := wsX0_markFits) B.pre⟩, B.returns, B.notSynchronized⟩
  have C0 := C
  obtain ⟨⟨hx, hb, hml, hown, hts⟩, hr, hlocks⟩ := C0
  have hS : va_S (qA xS ad) s.heap s.heap [] := va_S.rf
  have hl := lv_entry ([.ref (ad 54), .ref (ad c0), .int p1, .long p2]) (n := 9) (Nat.le_of_ble_eq_true rfl)
  rw [lg_entry_eq]
  generalize (lg_sl ([.ref (ad 54), .ref (ad c0), .int p1, .long p2]) ++ List.replicate (9 - (lg_sl ([.ref (ad 54), .ref (ad c0), .int p1, .long p2])).length) Slot.unset).toArray = ls at hl ⊢
  have hl : lv_has ls 9 [(0, .ref (ad 54)), (1, .ref (ad c0)), (2, .int p1), (3, .long p2)] := hl
  unfold f_X0_markFits at hf
  refine lv_lload_n hx hb dX0_markFits_0 rfl (lv_at hl 3 rfl) ?_
  refine lv_lconst (v := 1) hx hb dX0_markFits_1 (by decide) ?_
  refine W.lcmp hx hb dX0_markFits_2 ?_
  refine lv_if_lt (tgt := 27) hx hb dX0_markFits_3 (by decide) (fun cc => ?_) (fun cc => ?_)
  · have hf := (if_ok hf).1 cc
    refine lv_iconst (v := 0) hx hb dX0_markFits_27 (by decide) ?_
    refine lv_istore (lv' := [(5, .int (0 : Int32)), (0, .ref (ad 54)), (1, .ref (ad c0)), (2, .int p1), (3, .long p2)]) hx hb dX0_markFits_28 hl (by decide) rfl (fun ls hl => ?_)
    refine lv_iconst (v := 1) hx hb dX0_markFits_30 (by decide) ?_
    refine lv_istore (lv' := [(6, .int (1 : Int32)), (5, .int (0 : Int32)), (0, .ref (ad 54)), (1, .ref (ad c0)), (2, .int p1), (3, .long p2)]) hx hb dX0_markFits_31 hl (by decide) rfl (fun ls hl => ?_)
    exact w_X0_markFits_33 C hK hE hN c0 zc0  1000 p1 p2 (0 : Int32) (1 : Int32) I _ _ _ hf (lv_sub hl [2, 3, 4, 5, 1, 0] rfl) hP hS
  · have hf := (if_ok hf).2 cc
    refine lv_lload_n hx hb dX0_markFits_6 rfl (lv_at hl 3 rfl) ?_
    refine lv_ldc2 (own := RX0) (v := 99) hx hb hown (hts (.constantLong RX0 52 (99)) (by decide +kernel)) dX0_markFits_7 ?_
    refine W.lcmp hx hb dX0_markFits_10 ?_
    refine lv_if_gt (tgt := 27) hx hb dX0_markFits_11 (by decide) (fun cc => ?_) (fun cc => ?_)
    · have hf := (if_ok hf).1 cc
      refine lv_iconst (v := 0) hx hb dX0_markFits_27 (by decide) ?_
      refine lv_istore (lv' := [(5, .int (0 : Int32)), (0, .ref (ad 54)), (1, .ref (ad c0)), (2, .int p1), (3, .long p2)]) hx hb dX0_markFits_28 hl (by decide) rfl (fun ls hl => ?_)
      refine lv_iconst (v := 1) hx hb dX0_markFits_30 (by decide) ?_
      refine lv_istore (lv' := [(6, .int (1 : Int32)), (5, .int (0 : Int32)), (0, .ref (ad 54)), (1, .ref (ad c0)), (2, .int p1), (3, .long p2)]) hx hb dX0_markFits_31 hl (by decide) rfl (fun ls hl => ?_)
      exact w_X0_markFits_33 C hK hE hN c0 zc0  1000 p1 p2 (0 : Int32) (1 : Int32) I _ _ _ hf (lv_sub hl [2, 3, 4, 5, 1, 0] rfl) hP hS
    · have hf := (if_ok hf).2 cc
      refine lv_aload_n hx hb dX0_markFits_14 rfl (lv_at hl 1 rfl) ?_
      refine lv_lload_n hx hb dX0_markFits_15 rfl (lv_at hl 3 rfl) ?_
      refine lv_l2i hx hb dX0_markFits_16 rfl ?_
      obtain ⟨v1, h2, hf⟩ := bd_ok hf
      refine q_cSi (va_runV (As := [.int p2.toInt32]) (rest := []) ⟨hx, hb, hml, hown, hts⟩ (c_X2_lets l (D := D) (ad := ad) (cy := cy) (sa := sa) (va := va) (I := I) (J := J) c0 zc0 p2.toInt32 h2) (cwV 1 hts gX0_markFits_X2_lets rfl rfl rfl (by decide +kernel) ⟨Nat.le_of_ble_eq_true rfl, Nat.le_of_ble_eq_true rfl⟩) ⟨qPre_blind _, q_recv hK hP (oX2 zc0) rfl, fun U hU hW => ⟨rfl, qPre_of hP hK hE hN hS U hU hW⟩⟩ rfl rfl hl.1 rfl (lv_room (Nat.le_of_ble_eq_true rfl)) dX0_markFits_17 ⟨Nat.le_of_ble_eq_true rfl, Nat.le_of_ble_eq_true rfl⟩) ?_
      refine lv_if_eq (tgt := 27) hx hb dX0_markFits_20 (by decide) (fun cc => ?_) (fun cc => ?_)
      · have hf := (if_ok hf).1 cc
        refine lv_iconst (v := 0) hx hb dX0_markFits_27 (by decide) ?_
        refine lv_istore (lv' := [(5, .int (0 : Int32)), (0, .ref (ad 54)), (1, .ref (ad c0)), (2, .int p1), (3, .long p2)]) hx hb dX0_markFits_28 hl (by decide) rfl (fun ls hl => ?_)
        refine lv_iconst (v := 1) hx hb dX0_markFits_30 (by decide) ?_
        refine lv_istore (lv' := [(6, .int (1 : Int32)), (5, .int (0 : Int32)), (0, .ref (ad 54)), (1, .ref (ad c0)), (2, .int p1), (3, .long p2)]) hx hb dX0_markFits_31 hl (by decide) rfl (fun ls hl => ?_)
        exact w_X0_markFits_33 C hK hE hN c0 zc0  1000 p1 p2 (0 : Int32) (1 : Int32) I _ _ _ hf (lv_sub hl [2, 3, 4, 5, 1, 0] rfl) hP hS
      · have hf := (if_ok hf).2 cc
        refine lv_iconst (v := 1) hx hb dX0_markFits_23 (by decide) ?_
        refine lv_goto (tgt := 28) hx hb dX0_markFits_24 (by decide) ?_
        refine lv_istore (lv' := [(5, .int (1 : Int32)), (0, .ref (ad 54)), (1, .ref (ad c0)), (2, .int p1), (3, .long p2)]) hx hb dX0_markFits_28 hl (by decide) rfl (fun ls hl => ?_)
        refine lv_iconst (v := 1) hx hb dX0_markFits_30 (by decide) ?_
        refine lv_istore (lv' := [(6, .int (1 : Int32)), (5, .int (1 : Int32)), (0, .ref (ad 54)), (1, .ref (ad c0)), (2, .int p1), (3, .long p2)]) hx hb dX0_markFits_31 hl (by decide) rfl (fun ls hl => ?_)
        exact w_X0_markFits_33 C hK hE hN c0 zc0  1000 p1 p2 (1 : Int32) (1 : Int32) I _ _ _ hf (lv_sub hl [2, 3, 4, 5, 1, 0] rfl) hP hS
abbrev r_X0_firstFit : Room := { frames := 0, cells := 0, slots := 0, locals := 0 }
theorem in_X0_firstFit_X0 : ∀ w ∈ u_ws RX0 TX0 3, w ∈ wsX0_firstFit := by decide +kernel
set_option maxHeartbeats 4000000 in
set_option maxRecDepth 100000 in
theorem w_X0_firstFit_2 (C : qC p s m args meth c cX0_firstFit 3 RX0 wsX0_firstFit (some .int)) (hK : qK D cy sa s) (hE : qEnv sa va (qA xS ad) s s.heap) (hN : qN xS ad)   {I : qI} {J : qJ} (hP : qP D xS ad (eX ad cy) I J s.heap) {r : Int32} : ∀ (n : Nat) (x1 : Int32) (x2 : Int32)  (ls : Array Slot), f_X0_firstFit_2 I n x1 x2 = some r → lv_has ls 3 [(0, .ref (ad 54)), (1, .int x1), (2, .int x2)] → W p l e (headSpec wsX0_firstFit r_X0_firstFit).room s m args below meth c s.heap [] 0 0 (MQ below (vp_Si (fun x => x = r)) args s 0 0 (fun _ => False)) (F0 m 2 ls []) := by
  have C0 := C
  obtain ⟨⟨hx, hb, hml, hown, hts⟩, hr, hlocks⟩ := C0
  intro n
  induction n with
  | zero =>
    intro x1 x2 ls hf hl
    rw [f_X0_firstFit_2] at hf
    cases hf
  | succ n ih =>
    intro x1 x2 ls hf hl
    rw [f_X0_firstFit_2] at hf
    refine lv_iload_n hx hb dX0_firstFit_2 rfl (lv_at hl 2 rfl) ?_
    refine lv_iload_n hx hb dX0_firstFit_3 rfl (lv_at hl 1 rfl) ?_
    refine lv_icmp_gt (tgt := 43) hx hb dX0_firstFit_4 (by decide) (fun cc => ?_) (fun cc => ?_)
    · have hf := (if_ok hf).1 cc
      refine lv_iconst (v := -1) hx hb dX0_firstFit_43 (by decide) ?_
      exact W.iret hx hb hr (fun t ht _ => ⟨_, rfl, Option.some.inj hf, ht⟩) (fun _ h => by cases h) dX0_firstFit_44
    · have hf := (if_ok hf).2 cc
      refine lv_iload_n hx hb dX0_firstFit_7 rfl (lv_at hl 2 rfl) ?_
      refine lv_iload_n hx hb dX0_firstFit_8 rfl (lv_at hl 1 rfl) ?_
      refine lv_iconst (v := -1) hx hb dX0_firstFit_9 (by decide) ?_
      refine lv_ixor hx hb dX0_firstFit_10 ?_
      refine lv_iand hx hb dX0_firstFit_11 ?_
      refine lv_if_ne (tgt := 37) hx hb dX0_firstFit_12 (by decide) (fun cc => ?_) (fun cc => ?_)
      · have hf := (if_ok hf).2 cc
        refine lv_iinc (v := (x2 + (1 : Int32))) (lv' := [(2, .int (x2 + (1 : Int32))), (0, .ref (ad 54)), (1, .int x1)]) hx hb dX0_firstFit_37 hl (k := 2) rfl rfl (by decide) rfl (fun ls hl => ?_)
        refine lv_goto (tgt := 2) hx hb dX0_firstFit_40 (by decide) ?_
        exact ih x1 (x2 + (1 : Int32)) _ hf (lv_sub hl [1, 2, 0] rfl)
      · have hf := (if_ok hf).1 cc
        refine lv_aload_n hx hb dX0_firstFit_15 rfl (lv_at hl 0 rfl) ?_
        refine q_get (C := RX0) (T := TX0) (N := 3) (ci := 0) (v := .ref (ad 55)) hx hb hts in_X0_firstFit_X0 hown hK hP oX0 rfl 0 (by decide) (hts (.fieldLink RX0 9 "RowsOnlyPrimes$Account" "fits" "[Z") (by decide +kernel)) (fun _ h9 => h9) rfl dX0_firstFit_16 ?_
        refine lv_iload_n hx hb dX0_firstFit_19 rfl (lv_at hl 2 rfl) ?_
        obtain ⟨g1, hf⟩ := gd_ok hf
        refine q_zald hx hb hK hP aX0_1 g1 dX0_firstFit_20 ?_
        refine lv_if_eq (tgt := 37) hx hb dX0_firstFit_21 (by decide) (fun cc => ?_) (fun cc => ?_)
        · have hf := (if_ok hf).1 cc
          refine lv_iinc (v := (x2 + (1 : Int32))) (lv' := [(2, .int (x2 + (1 : Int32))), (0, .ref (ad 54)), (1, .int x1)]) hx hb dX0_firstFit_37 hl (k := 2) rfl rfl (by decide) rfl (fun ls hl => ?_)
          refine lv_goto (tgt := 2) hx hb dX0_firstFit_40 (by decide) ?_
          exact ih x1 (x2 + (1 : Int32)) _ hf (lv_sub hl [1, 2, 0] rfl)
        · have hf := (if_ok hf).2 cc
          refine lv_aload_n hx hb dX0_firstFit_24 rfl (lv_at hl 0 rfl) ?_
          refine q_get (C := RX0) (T := TX0) (N := 3) (ci := 0) (v := .ref (ad 56)) hx hb hts in_X0_firstFit_X0 hown hK hP oX0 rfl 1 (by decide) (hts (.fieldLink RX0 15 "RowsOnlyPrimes$Account" "ways" "[I") (by decide +kernel)) (fun _ h9 => h9) rfl dX0_firstFit_25 ?_
          refine lv_iload_n hx hb dX0_firstFit_28 rfl (lv_at hl 1 rfl) ?_
          refine lv_iload_n hx hb dX0_firstFit_29 rfl (lv_at hl 2 rfl) ?_
          refine lv_ixor hx hb dX0_firstFit_30 ?_
          obtain ⟨g2, hf⟩ := gd_ok hf
          refine q_iald hx hb hK hP aX0_2 g2 dX0_firstFit_31 ?_
          refine lv_if_le (tgt := 37) hx hb dX0_firstFit_32 (by decide) (fun cc => ?_) (fun cc => ?_)
          · have hf := (if_ok hf).1 cc
            refine lv_iinc (v := (x2 + (1 : Int32))) (lv' := [(2, .int (x2 + (1 : Int32))), (0, .ref (ad 54)), (1, .int x1)]) hx hb dX0_firstFit_37 hl (k := 2) rfl rfl (by decide) rfl (fun ls hl => ?_)
            refine lv_goto (tgt := 2) hx hb dX0_firstFit_40 (by decide) ?_
            exact ih x1 (x2 + (1 : Int32)) _ hf (lv_sub hl [1, 2, 0] rfl)
          · have hf := (if_ok hf).2 cc
            refine lv_iload_n hx hb dX0_firstFit_35 rfl (lv_at hl 2 rfl) ?_
            exact W.iret hx hb hr (fun t ht _ => ⟨_, rfl, Option.some.inj hf, ht⟩) (fun _ h => by cases h) dX0_firstFit_36
set_option maxHeartbeats 4000000 in
set_option maxRecDepth 100000 in
theorem c_X0_firstFit (l : Launch) {D : va_G} {ad : Nat → Nat} {cy : Nat → ClassId} {sa va : Nat → Nat} {I : qI} {J : qJ}   (p0 : Int32) {r : Int32} (hf : f_X0_firstFit p0 I = some r) : Met l yX0_firstFit wsX0_firstFit r_X0_firstFit (va_Pc [.ref (ad 54), .int p0] (qPre D xS ad cy sa va (eX ad cy) I J)) (vp_Si (fun x => x = r)) 0 0 (fun _ => False) := by
  refine Met.ofW (cc := cX0_firstFit) (maxL := 3) (ret := (some .int)) (by decide) rfl ?_
  intro p e s m args below meth c s₁ B hml hv
  obtain ⟨rfl, hP, hK, hE, hN⟩ := hv
  have C : qC p s m _ meth c cX0_firstFit 3 RX0 wsX0_firstFit (some .int) := ⟨⟨B.exec, B.bytes, hml, findClass_of_methodNamed B.named, atoms_spec (ws := wsX0_firstFit) B.pre⟩, B.returns, B.notSynchronized⟩
  have C0 := C
  obtain ⟨⟨hx, hb, hml, hown, hts⟩, hr, hlocks⟩ := C0
  have hl := lv_entry ([.ref (ad 54), .int p0]) (n := 3) (Nat.le_of_ble_eq_true rfl)
  rw [lg_entry_eq]
  generalize (lg_sl ([.ref (ad 54), .int p0]) ++ List.replicate (3 - (lg_sl ([.ref (ad 54), .int p0])).length) Slot.unset).toArray = ls at hl ⊢
  have hl : lv_has ls 3 [(0, .ref (ad 54)), (1, .int p0)] := hl
  unfold f_X0_firstFit at hf
  refine lv_iconst (v := 1) hx hb dX0_firstFit_0 (by decide) ?_
  refine lv_istore_n (lv' := [(2, .int (1 : Int32)), (0, .ref (ad 54)), (1, .int p0)]) hx hb dX0_firstFit_1 rfl hl (by decide) rfl (fun ls hl => ?_)
  exact w_X0_firstFit_2 C hK hE hN hP  1000 p0 (1 : Int32) _ hf (lv_sub hl [1, 2, 0] rfl)
abbrev r_X0_waysFrom : Room := { frames := 0, cells := 0, slots := 0, locals := 0 }
theorem in_X0_waysFrom_X0 : ∀ w ∈ u_ws RX0 TX0 3, w ∈ wsX0_waysFrom := by decide +kernel
set_option maxHeartbeats 4000000 in
set_option maxRecDepth 100000 in
theorem w_X0_waysFrom_28 (C : qC p s m args meth c cX0_waysFrom 4 RX0 wsX0_waysFrom (some .int)) (hK : qK D cy sa s) (hE : qEnv sa va (qA xS ad) s s.heap) (hN : qN xS ad)   {I : qI} {J : qJ} (hP : qP D xS ad (eX ad cy) I J s.heap) {r : Int32} (k4 : Int32 → Int32 → Int32 → Option Int32) (hk4 : ∀ (x1 : Int32) (x2 : Int32) (x3 : Int32)  (ls : Array Slot), k4 x1 x2 x3 = some r → lv_has ls 4 [(0, .ref (ad 54)), (1, .int x1), (2, .int x2), (3, .int x3)] → W p l e (headSpec wsX0_waysFrom r_X0_waysFrom).room s m args below meth c s.heap [] 0 0 (MQ below (vp_Si (fun x => x = r)) args s 0 0 (fun _ => False)) (F0 m 4 ls [])) : ∀ (x1 : Int32) (x2 : Int32) (x3 : Int32)  (ls : Array Slot), f_X0_waysFrom_28 I k4 x1 x2 x3 = some r → lv_has ls 4 [(0, .ref (ad 54)), (1, .int x1), (2, .int x2), (3, .int x3)] → W p l e (headSpec wsX0_waysFrom r_X0_waysFrom).room s m args below meth c s.heap [] 0 0 (MQ below (vp_Si (fun x => x = r)) args s 0 0 (fun _ => False)) (F0 m 28 ls []) := by
  have C0 := C
  obtain ⟨⟨hx, hb, hml, hown, hts⟩, hr, hlocks⟩ := C0
  intro x1 x2 x3 ls hf hl
  unfold f_X0_waysFrom_28 at hf
  refine lv_iload_n hx hb dX0_waysFrom_28 rfl (lv_at hl 3 rfl) ?_
  refine lv_iconst (v := 1) hx hb dX0_waysFrom_29 (by decide) ?_
  refine lv_isub hx hb dX0_waysFrom_30 ?_
  refine lv_iload_n hx hb dX0_waysFrom_31 rfl (lv_at hl 1 rfl) ?_
  refine lv_iand hx hb dX0_waysFrom_32 ?_
  refine lv_istore_n (lv' := [(3, .int ((x3 - (1 : Int32)) &&& x1)), (0, .ref (ad 54)), (1, .int x1), (2, .int x2)]) hx hb dX0_waysFrom_33 rfl hl (by decide) rfl (fun ls hl => ?_)
  refine lv_goto (tgt := 4) hx hb dX0_waysFrom_34 (by decide) ?_
  exact hk4 x1 x2 ((x3 - (1 : Int32)) &&& x1) _ hf (lv_sub hl [1, 2, 3, 0] rfl)
set_option maxHeartbeats 4000000 in
set_option maxRecDepth 100000 in
theorem w_X0_waysFrom_4 (C : qC p s m args meth c cX0_waysFrom 4 RX0 wsX0_waysFrom (some .int)) (hK : qK D cy sa s) (hE : qEnv sa va (qA xS ad) s s.heap) (hN : qN xS ad)   {I : qI} {J : qJ} (hP : qP D xS ad (eX ad cy) I J s.heap) {r : Int32} : ∀ (n : Nat) (x1 : Int32) (x2 : Int32) (x3 : Int32)  (ls : Array Slot), f_X0_waysFrom_4 I n x1 x2 x3 = some r → lv_has ls 4 [(0, .ref (ad 54)), (1, .int x1), (2, .int x2), (3, .int x3)] → W p l e (headSpec wsX0_waysFrom r_X0_waysFrom).room s m args below meth c s.heap [] 0 0 (MQ below (vp_Si (fun x => x = r)) args s 0 0 (fun _ => False)) (F0 m 4 ls []) := by
  have C0 := C
  obtain ⟨⟨hx, hb, hml, hown, hts⟩, hr, hlocks⟩ := C0
  intro n
  induction n with
  | zero =>
    intro x1 x2 x3 ls hf hl
    rw [f_X0_waysFrom_4] at hf
    cases hf
  | succ n ih =>
    intro x1 x2 x3 ls hf hl
    rw [f_X0_waysFrom_4] at hf
    refine lv_iload_n hx hb dX0_waysFrom_4 rfl (lv_at hl 3 rfl) ?_
    refine lv_if_le (tgt := 37) hx hb dX0_waysFrom_5 (by decide) (fun cc => ?_) (fun cc => ?_)
    · have hf := (if_ok hf).1 cc
      refine lv_iload_n hx hb dX0_waysFrom_37 rfl (lv_at hl 2 rfl) ?_
      exact W.iret hx hb hr (fun t ht _ => ⟨_, rfl, Option.some.inj hf, ht⟩) (fun _ h => by cases h) dX0_waysFrom_38
    · have hf := (if_ok hf).2 cc
      refine lv_aload_n hx hb dX0_waysFrom_8 rfl (lv_at hl 0 rfl) ?_
      refine q_get (C := RX0) (T := TX0) (N := 3) (ci := 0) (v := .ref (ad 55)) hx hb hts in_X0_waysFrom_X0 hown hK hP oX0 rfl 0 (by decide) (hts (.fieldLink RX0 9 "RowsOnlyPrimes$Account" "fits" "[Z") (by decide +kernel)) (fun _ h9 => h9) rfl dX0_waysFrom_9 ?_
      refine lv_iload_n hx hb dX0_waysFrom_12 rfl (lv_at hl 3 rfl) ?_
      obtain ⟨g1, hf⟩ := gd_ok hf
      refine q_zald hx hb hK hP aX0_1 g1 dX0_waysFrom_13 ?_
      refine lv_if_eq (tgt := 28) hx hb dX0_waysFrom_14 (by decide) (fun cc => ?_) (fun cc => ?_)
      · have hf := (if_ok hf).1 cc
        exact w_X0_waysFrom_28 C hK hE hN hP (f_X0_waysFrom_4 I n) ih  x1 x2 x3 _ hf (lv_sub hl [0, 1, 2, 3] rfl)
      · have hf := (if_ok hf).2 cc
        refine lv_iload_n hx hb dX0_waysFrom_17 rfl (lv_at hl 2 rfl) ?_
        refine lv_aload_n hx hb dX0_waysFrom_18 rfl (lv_at hl 0 rfl) ?_
        refine q_get (C := RX0) (T := TX0) (N := 3) (ci := 0) (v := .ref (ad 56)) hx hb hts in_X0_waysFrom_X0 hown hK hP oX0 rfl 1 (by decide) (hts (.fieldLink RX0 15 "RowsOnlyPrimes$Account" "ways" "[I") (by decide +kernel)) (fun _ h9 => h9) rfl dX0_waysFrom_19 ?_
        refine lv_iload_n hx hb dX0_waysFrom_22 rfl (lv_at hl 1 rfl) ?_
        refine lv_iload_n hx hb dX0_waysFrom_23 rfl (lv_at hl 3 rfl) ?_
        refine lv_ixor hx hb dX0_waysFrom_24 ?_
        obtain ⟨g2, hf⟩ := gd_ok hf
        refine q_iald hx hb hK hP aX0_2 g2 dX0_waysFrom_25 ?_
        refine lv_iadd hx hb dX0_waysFrom_26 ?_
        refine lv_istore_n (lv' := [(2, .int (x2 + (I 56 (x1 ^^^ x3).toNatClampNeg))), (0, .ref (ad 54)), (1, .int x1), (3, .int x3)]) hx hb dX0_waysFrom_27 rfl hl (by decide) rfl (fun ls hl => ?_)
        exact w_X0_waysFrom_28 C hK hE hN hP (f_X0_waysFrom_4 I n) ih  x1 (x2 + (I 56 (x1 ^^^ x3).toNatClampNeg)) x3 _ hf (lv_sub hl [1, 2, 0, 3] rfl)
set_option maxHeartbeats 4000000 in
set_option maxRecDepth 100000 in
theorem c_X0_waysFrom (l : Launch) {D : va_G} {ad : Nat → Nat} {cy : Nat → ClassId} {sa va : Nat → Nat} {I : qI} {J : qJ}   (p0 : Int32) {r : Int32} (hf : f_X0_waysFrom p0 I = some r) : Met l yX0_waysFrom wsX0_waysFrom r_X0_waysFrom (va_Pc [.ref (ad 54), .int p0] (qPre D xS ad cy sa va (eX ad cy) I J)) (vp_Si (fun x => x = r)) 0 0 (fun _ => False) := by
  refine Met.ofW (cc := cX0_waysFrom) (maxL := 4) (ret := (some .int)) (by decide) rfl ?_
  intro p e s m args below meth c s₁ B hml hv
  obtain ⟨rfl, hP, hK, hE, hN⟩ := hv
  have C : qC p s m _ meth c cX0_waysFrom 4 RX0 wsX0_waysFrom (some .int) := ⟨⟨B.exec, B.bytes, hml, findClass_of_methodNamed B.named, atoms_spec (ws := wsX0_waysFrom) B.pre⟩, B.returns, B.notSynchronized⟩
  have C0 := C
  obtain ⟨⟨hx, hb, hml, hown, hts⟩, hr, hlocks⟩ := C0
  have hl := lv_entry ([.ref (ad 54), .int p0]) (n := 4) (Nat.le_of_ble_eq_true rfl)
  rw [lg_entry_eq]
  generalize (lg_sl ([.ref (ad 54), .int p0]) ++ List.replicate (4 - (lg_sl ([.ref (ad 54), .int p0])).length) Slot.unset).toArray = ls at hl ⊢
  have hl : lv_has ls 4 [(0, .ref (ad 54)), (1, .int p0)] := hl
  unfold f_X0_waysFrom at hf
  refine lv_iconst (v := 0) hx hb dX0_waysFrom_0 (by decide) ?_
  refine lv_istore_n (lv' := [(2, .int (0 : Int32)), (0, .ref (ad 54)), (1, .int p0)]) hx hb dX0_waysFrom_1 rfl hl (by decide) rfl (fun ls hl => ?_)
  refine lv_iload_n hx hb dX0_waysFrom_2 rfl (lv_at hl 2 rfl) ?_
  refine lv_istore_n (lv' := [(3, .int p0), (2, .int (0 : Int32)), (0, .ref (ad 54)), (1, .int p0)]) hx hb dX0_waysFrom_3 rfl hl (by decide) rfl (fun ls hl => ?_)
  exact w_X0_waysFrom_4 C hK hE hN hP  1000 p0 (0 : Int32) p0 _ hf (lv_sub hl [2, 3, 1, 0] rfl)
abbrev r_X0_waysToCross : Room := { frames := 4, cells := 0, slots := 0, locals := 97 }
theorem in_X0_waysToCross_X0 : ∀ w ∈ u_ws RX0 TX0 3, w ∈ wsX0_waysToCross := by decide +kernel
set_option maxHeartbeats 4000000 in
set_option maxRecDepth 100000 in
theorem w_X0_waysToCross_92 (C : qC p s m args meth c cX0_waysToCross 7 RX0 wsX0_waysToCross (some .int)) (hK : qK D cy sa s) (hE : qEnv sa va (qA xS ad) s s.heap) (hN : qN xS ad) (c0 : Nat) (c1 : Nat) (zc0 : isB c0) (zc1 : isSh c1) {r : Int32} {Ie : qI} (k24 : Int32 → Int32 → qI → qJ → Option (Int32 × qI)) (hk24 : ∀ (x4 : Int32) (x5 : Int32)  (I : qI) (J : qJ) (ls : Array Slot) (H : Heap) (locs : List Loc), k24 x4 x5 I J = some (r, Ie) → lv_has ls 7 [(0, .ref (ad 54)), (1, .ref (ad c0)), (2, .ref (ad c1)), (4, .int x4), (5, .int x5)] → qP D xS ad (eX ad cy) I J H → va_S (qA xS ad) s.heap H locs → W p l e (headSpec wsX0_waysToCross r_X0_waysToCross).room s m args below meth c H locs 0 0 (MQ below (va_Qi (S := Unit) (fun x _ => x = r) (fun _ t => qP D xS ad (eX ad cy) Ie J t.heap) (qA xS ad)) args s 0 0 (qA xS ad)) (F0 m 24 ls [])) (k61 : Int32 → Int32 → Int32 → qI → qJ → Option (Int32 × qI)) (hk61 : ∀ (x4 : Int32) (x5 : Int32) (x6 : Int32)  (I : qI) (J : qJ) (ls : Array Slot) (H : Heap) (locs : List Loc), k61 x4 x5 x6 I J = some (r, Ie) → lv_has ls 7 [(0, .ref (ad 54)), (1, .ref (ad c0)), (2, .ref (ad c1)), (4, .int x4), (5, .int x5), (6, .int x6)] → qP D xS ad (eX ad cy) I J H → va_S (qA xS ad) s.heap H locs → W p l e (headSpec wsX0_waysToCross r_X0_waysToCross).room s m args below meth c H locs 0 0 (MQ below (va_Qi (S := Unit) (fun x _ => x = r) (fun _ t => qP D xS ad (eX ad cy) Ie J t.heap) (qA xS ad)) args s 0 0 (qA xS ad)) (F0 m 61 ls [])) : ∀ (x4 : Int32) (x5 : Int32) (x6 : Int32) (xs0 : Int32) (xs1 : Int32)  (I : qI) (J : qJ) (ls : Array Slot) (H : Heap) (locs : List Loc), f_X0_waysToCross_92 c0 c1 k24 k61 x4 x5 x6 xs0 xs1 I J = some (r, Ie) → lv_has ls 7 [(0, .ref (ad 54)), (1, .ref (ad c0)), (2, .ref (ad c1)), (4, .int x4), (5, .int x5), (6, .int x6)] → qP D xS ad (eX ad cy) I J H → va_S (qA xS ad) s.heap H locs → W p l e (headSpec wsX0_waysToCross r_X0_waysToCross).room s m args below meth c H locs 0 0 (MQ below (va_Qi (S := Unit) (fun x _ => x = r) (fun _ t => qP D xS ad (eX ad cy) Ie J t.heap) (qA xS ad)) args s 0 0 (qA xS ad)) (F0 m 92 ls [.int xs0, .int xs1, .ref (ad 56)]) := by
  have C0 := C
  obtain ⟨⟨hx, hb, hml, hown, hts⟩, hr, hlocks⟩ := C0
  intro x4 x5 x6 xs0 xs1 I J ls H locs hf hl hP hS
  unfold f_X0_waysToCross_92 at hf
  obtain ⟨g1, hf⟩ := gd_ok hf
  obtain ⟨I2, eI2, hf⟩ := lt_ok hf
  refine q_iast hx hb hK hP hN hS aX0_2 g1 dX0_waysToCross_92 (fun H locs hP hS => ?_)
  have hP : qP D xS ad (eX ad cy) I2 J H := by rw [eI2]; exact hP
  refine lv_iinc (v := (x6 + (-1 : Int32))) (lv' := [(6, .int (x6 + (-1 : Int32))), (0, .ref (ad 54)), (1, .ref (ad c0)), (2, .ref (ad c1)), (4, .int x4), (5, .int x5)]) hx hb dX0_waysToCross_93 hl (k := 5) rfl rfl (by decide) rfl (fun ls hl => ?_)
  refine lv_goto (tgt := 61) hx hb dX0_waysToCross_96 (by decide) ?_
  exact hk61 x4 x5 (x6 + (-1 : Int32)) I2 J _ _ _ hf (lv_sub hl [1, 2, 3, 4, 5, 0] rfl) hP hS
set_option maxHeartbeats 4000000 in
set_option maxRecDepth 100000 in
theorem w_X0_waysToCross_61 (C : qC p s m args meth c cX0_waysToCross 7 RX0 wsX0_waysToCross (some .int)) (hK : qK D cy sa s) (hE : qEnv sa va (qA xS ad) s s.heap) (hN : qN xS ad) (c0 : Nat) (c1 : Nat) (zc0 : isB c0) (zc1 : isSh c1) {r : Int32} {Ie : qI} (k24 : Int32 → Int32 → qI → qJ → Option (Int32 × qI)) (hk24 : ∀ (x4 : Int32) (x5 : Int32)  (I : qI) (J : qJ) (ls : Array Slot) (H : Heap) (locs : List Loc), k24 x4 x5 I J = some (r, Ie) → lv_has ls 7 [(0, .ref (ad 54)), (1, .ref (ad c0)), (2, .ref (ad c1)), (4, .int x4), (5, .int x5)] → qP D xS ad (eX ad cy) I J H → va_S (qA xS ad) s.heap H locs → W p l e (headSpec wsX0_waysToCross r_X0_waysToCross).room s m args below meth c H locs 0 0 (MQ below (va_Qi (S := Unit) (fun x _ => x = r) (fun _ t => qP D xS ad (eX ad cy) Ie J t.heap) (qA xS ad)) args s 0 0 (qA xS ad)) (F0 m 24 ls [])) : ∀ (n : Nat) (x4 : Int32) (x5 : Int32) (x6 : Int32)  (I : qI) (J : qJ) (ls : Array Slot) (H : Heap) (locs : List Loc), f_X0_waysToCross_61 c0 c1 k24 n x4 x5 x6 I J = some (r, Ie) → lv_has ls 7 [(0, .ref (ad 54)), (1, .ref (ad c0)), (2, .ref (ad c1)), (4, .int x4), (5, .int x5), (6, .int x6)] → qP D xS ad (eX ad cy) I J H → va_S (qA xS ad) s.heap H locs → W p l e (headSpec wsX0_waysToCross r_X0_waysToCross).room s m args below meth c H locs 0 0 (MQ below (va_Qi (S := Unit) (fun x _ => x = r) (fun _ t => qP D xS ad (eX ad cy) Ie J t.heap) (qA xS ad)) args s 0 0 (qA xS ad)) (F0 m 61 ls []) := by
  have C0 := C
  obtain ⟨⟨hx, hb, hml, hown, hts⟩, hr, hlocks⟩ := C0
  intro n
  induction n with
  | zero =>
    intro x4 x5 x6 I J ls H locs hf hl hP hS
    rw [f_X0_waysToCross_61] at hf
    cases hf
  | succ n ih =>
    intro x4 x5 x6 I J ls H locs hf hl hP hS
    rw [f_X0_waysToCross_61] at hf
    refine lv_iload hx hb dX0_waysToCross_61 (lv_at hl 5 rfl) ?_
    refine lv_if_lt (tgt := 99) hx hb dX0_waysToCross_63 (by decide) (fun cc => ?_) (fun cc => ?_)
    · have hf := (if_ok hf).1 cc
      refine lv_iinc (v := (x5 + (-1 : Int32))) (lv' := [(5, .int (x5 + (-1 : Int32))), (0, .ref (ad 54)), (1, .ref (ad c0)), (2, .ref (ad c1)), (4, .int x4), (6, .int x6)]) hx hb dX0_waysToCross_99 hl (k := 4) rfl rfl (by decide) rfl (fun ls hl => ?_)
      refine lv_goto (tgt := 24) hx hb dX0_waysToCross_102 (by decide) ?_
      exact hk24 x4 (x5 + (-1 : Int32)) I J _ _ _ hf (lv_sub hl [1, 2, 3, 4, 0] rfl) hP hS
    · have hf := (if_ok hf).2 cc
      refine lv_aload_n hx hb dX0_waysToCross_66 rfl (lv_at hl 0 rfl) ?_
      refine q_get (C := RX0) (T := TX0) (N := 3) (ci := 0) (v := .ref (ad 56)) hx hb hts in_X0_waysToCross_X0 hown hK hP oX0 rfl 1 (by decide) (hts (.fieldLink RX0 15 "RowsOnlyPrimes$Account" "ways" "[I") (by decide +kernel)) (fun _ h9 => h9) rfl dX0_waysToCross_67 ?_
      refine lv_iload hx hb dX0_waysToCross_70 (lv_at hl 5 rfl) ?_
      refine lv_iload hx hb dX0_waysToCross_72 (lv_at hl 5 rfl) ?_
      refine lv_iload hx hb dX0_waysToCross_74 (lv_at hl 3 rfl) ?_
      refine lv_iconst (v := -1) hx hb dX0_waysToCross_76 (by decide) ?_
      refine lv_ixor hx hb dX0_waysToCross_77 ?_
      refine lv_iand hx hb dX0_waysToCross_78 ?_
      refine lv_if_ne (tgt := 91) hx hb dX0_waysToCross_79 (by decide) (fun cc => ?_) (fun cc => ?_)
      · have hf := (if_ok hf).2 cc
        refine lv_iconst (v := 0) hx hb dX0_waysToCross_91 (by decide) ?_
        exact w_X0_waysToCross_92 C hK hE hN c0 c1 zc0 zc1 k24 hk24 (f_X0_waysToCross_61 c0 c1 k24 n) ih  x4 x5 x6 (0 : Int32) x6 I J _ _ _ hf (lv_sub hl [0, 1, 2, 3, 4, 5] rfl) hP hS
      · have hf := (if_ok hf).1 cc
        refine lv_aload_n hx hb dX0_waysToCross_82 rfl (lv_at hl 0 rfl) ?_
        refine lv_iload hx hb dX0_waysToCross_83 (lv_at hl 5 rfl) ?_
        obtain ⟨v1, h2, hf⟩ := bd_ok hf
        refine q_cSi (va_runV (As := [.int x6]) (rest := [.int x6, .ref (ad 56)]) ⟨hx, hb, hml, hown, hts⟩ (c_X0_waysFrom l (D := D) (ad := ad) (cy := cy) (sa := sa) (va := va) (I := I) (J := J) x6 h2) (cwV 1 hts gX0_waysToCross_X0_waysFrom rfl rfl rfl (by decide +kernel) ⟨Nat.le_of_ble_eq_true rfl, Nat.le_of_ble_eq_true rfl⟩) ⟨qPre_blind _, q_recv hK hP oX0 rfl, fun U hU hW => ⟨rfl, qPre_of hP hK hE hN hS U hU hW⟩⟩ rfl rfl hl.1 rfl (lv_room (Nat.le_of_ble_eq_true rfl)) dX0_waysToCross_85 ⟨Nat.le_of_ble_eq_true rfl, Nat.le_of_ble_eq_true rfl⟩) ?_
        refine lv_goto (tgt := 92) hx hb dX0_waysToCross_88 (by decide) ?_
        exact w_X0_waysToCross_92 C hK hE hN c0 c1 zc0 zc1 k24 hk24 (f_X0_waysToCross_61 c0 c1 k24 n) ih  x4 x5 x6 v1 x6 I J _ _ _ hf (lv_sub hl [0, 1, 2, 3, 4, 5] rfl) hP hS
set_option maxHeartbeats 4000000 in
set_option maxRecDepth 100000 in
theorem w_X0_waysToCross_24 (C : qC p s m args meth c cX0_waysToCross 7 RX0 wsX0_waysToCross (some .int)) (hK : qK D cy sa s) (hE : qEnv sa va (qA xS ad) s s.heap) (hN : qN xS ad) (c0 : Nat) (c1 : Nat) (zc0 : isB c0) (zc1 : isSh c1) {r : Int32} {Ie : qI} : ∀ (n : Nat) (x4 : Int32) (x5 : Int32)  (I : qI) (J : qJ) (ls : Array Slot) (H : Heap) (locs : List Loc), f_X0_waysToCross_24 c0 c1 n x4 x5 I J = some (r, Ie) → lv_has ls 7 [(0, .ref (ad 54)), (1, .ref (ad c0)), (2, .ref (ad c1)), (4, .int x4), (5, .int x5)] → qP D xS ad (eX ad cy) I J H → va_S (qA xS ad) s.heap H locs → W p l e (headSpec wsX0_waysToCross r_X0_waysToCross).room s m args below meth c H locs 0 0 (MQ below (va_Qi (S := Unit) (fun x _ => x = r) (fun _ t => qP D xS ad (eX ad cy) Ie J t.heap) (qA xS ad)) args s 0 0 (qA xS ad)) (F0 m 24 ls []) := by
  have C0 := C
  obtain ⟨⟨hx, hb, hml, hown, hts⟩, hr, hlocks⟩ := C0
  intro n
  induction n with
  | zero =>
    intro x4 x5 I J ls H locs hf hl hP hS
    rw [f_X0_waysToCross_24] at hf
    cases hf
  | succ n ih =>
    intro x4 x5 I J ls H locs hf hl hP hS
    rw [f_X0_waysToCross_24] at hf
    refine lv_iload hx hb dX0_waysToCross_24 (lv_at hl 4 rfl) ?_
    refine lv_if_lt (tgt := 105) hx hb dX0_waysToCross_26 (by decide) (fun cc => ?_) (fun cc => ?_)
    · have hf := (if_ok hf).1 cc
      refine lv_aload_n hx hb dX0_waysToCross_105 rfl (lv_at hl 0 rfl) ?_
      refine q_get (C := RX0) (T := TX0) (N := 3) (ci := 0) (v := .ref (ad 56)) hx hb hts in_X0_waysToCross_X0 hown hK hP oX0 rfl 1 (by decide) (hts (.fieldLink RX0 15 "RowsOnlyPrimes$Account" "ways" "[I") (by decide +kernel)) (fun _ h9 => h9) rfl dX0_waysToCross_106 ?_
      refine lv_iload hx hb dX0_waysToCross_109 (lv_at hl 3 rfl) ?_
      obtain ⟨g1, hf⟩ := gd_ok hf
      refine q_iald hx hb hK hP aX0_2 g1 dX0_waysToCross_111 ?_
      have e9 := Option.some.inj hf
      have eI9 : I = Ie := (congrArg Prod.snd e9)
      exact W.iret hx hb hr (fun t ht _ => ⟨⟨_, (), rfl, (congrArg Prod.fst e9), by show qP D _ ad _ _ _ t.heap; rw [ht, ← eI9]; exact hP⟩, hS.F ht⟩) hS.2.2 dX0_waysToCross_112
    · have hf := (if_ok hf).2 cc
      refine lv_aload_n hx hb dX0_waysToCross_29 rfl (lv_at hl 0 rfl) ?_
      refine lv_aload_n hx hb dX0_waysToCross_30 rfl (lv_at hl 1 rfl) ?_
      refine lv_iload hx hb dX0_waysToCross_31 (lv_at hl 3 rfl) ?_
      refine lv_aload_n hx hb dX0_waysToCross_33 rfl (lv_at hl 2 rfl) ?_
      refine lv_iload hx hb dX0_waysToCross_34 (lv_at hl 4 rfl) ?_
      obtain ⟨v2, h3, hf⟩ := bd_ok hf
      refine q_cSl (va_runV (As := [.int x5]) (rest := [.int x4, .ref (ad c0), .ref (ad 54)]) ⟨hx, hb, hml, hown, hts⟩ (c_X6_at l (D := D) (ad := ad) (cy := cy) (sa := sa) (va := va) (I := I) (J := J) c1 zc1 x5 h3) (cwV 1 hts gX0_waysToCross_X6_at rfl rfl rfl (by decide +kernel) ⟨Nat.le_of_ble_eq_true rfl, Nat.le_of_ble_eq_true rfl⟩) ⟨qPre_blind _, q_recv hK hP (oX6 zc1) rfl, fun U hU hW => ⟨rfl, qPre_of hP hK hE hN hS U hU hW⟩⟩ rfl rfl hl.1 rfl (lv_room (Nat.le_of_ble_eq_true rfl)) dX0_waysToCross_36 ⟨Nat.le_of_ble_eq_true rfl, Nat.le_of_ble_eq_true rfl⟩) ?_
      obtain ⟨I4, h5, hf⟩ := bd_ok hf
      refine q_cEv (va_runV (As := [.ref (ad c0), .int x4, .long v2]) (rest := []) ⟨hx, hb, hml, hown, hts⟩ (c_X0_markFits l (D := D) (ad := ad) (cy := cy) (sa := sa) (va := va) (I := I) (J := J) c0 zc0 x4 v2 h5) (cwV 3 hts gX0_waysToCross_X0_markFits rfl rfl rfl (by decide +kernel) ⟨Nat.le_of_ble_eq_true rfl, Nat.le_of_ble_eq_true rfl⟩) ⟨qPre_blind _, q_recv hK hP oX0 rfl, fun U hU hW => ⟨rfl, qPre_of hP hK hE hN hS U hU hW⟩⟩ rfl rfl hl.1 rfl (lv_room (Nat.le_of_ble_eq_true rfl)) dX0_waysToCross_39 ⟨Nat.le_of_ble_eq_true rfl, Nat.le_of_ble_eq_true rfl⟩) hS (fun H locs hP hS => ?_)
      refine lv_iload hx hb dX0_waysToCross_42 (lv_at hl 4 rfl) ?_
      refine lv_if_ne (tgt := 57) hx hb dX0_waysToCross_44 (by decide) (fun cc => ?_) (fun cc => ?_)
      · have hf := (if_ok hf).2 cc
        refine lv_iload hx hb dX0_waysToCross_57 (lv_at hl 3 rfl) ?_
        refine lv_istore (lv' := [(6, .int x4), (0, .ref (ad 54)), (1, .ref (ad c0)), (2, .ref (ad c1)), (4, .int x4), (5, .int x5)]) hx hb dX0_waysToCross_59 hl (by decide) rfl (fun ls hl => ?_)
        exact w_X0_waysToCross_61 C hK hE hN c0 c1 zc0 zc1 (f_X0_waysToCross_24 c0 c1 n) ih 1000 x4 x5 x4 I4 J _ _ _ hf (lv_sub hl [1, 2, 3, 4, 5, 0] rfl) hP hS
      · have hf := (if_ok hf).1 cc
        refine lv_aload_n hx hb dX0_waysToCross_47 rfl (lv_at hl 0 rfl) ?_
        refine lv_aload_n hx hb dX0_waysToCross_48 rfl (lv_at hl 0 rfl) ?_
        refine lv_iload hx hb dX0_waysToCross_49 (lv_at hl 3 rfl) ?_
        obtain ⟨v6, h7, hf⟩ := bd_ok hf
        refine q_cSi (va_runV (As := [.int x4]) (rest := [.ref (ad 54)]) ⟨hx, hb, hml, hown, hts⟩ (c_X0_firstFit l (D := D) (ad := ad) (cy := cy) (sa := sa) (va := va) (I := I4) (J := J) x4 h7) (cwV 1 hts gX0_waysToCross_X0_firstFit rfl rfl rfl (by decide +kernel) ⟨Nat.le_of_ble_eq_true rfl, Nat.le_of_ble_eq_true rfl⟩) ⟨qPre_blind _, q_recv hK hP oX0 rfl, fun U hU hW => ⟨rfl, qPre_of hP hK hE hN hS U hU hW⟩⟩ rfl rfl hl.1 rfl (lv_room (Nat.le_of_ble_eq_true rfl)) dX0_waysToCross_51 ⟨Nat.le_of_ble_eq_true rfl, Nat.le_of_ble_eq_true rfl⟩) ?_
        obtain ⟨I8, eI8, hf⟩ := lt_ok hf
        refine q_put (C := RX0) (T := TX0) (N := 3) (ci := 0) (v := .int v6) (x := v6) (ty := .int) hx hb hts in_X0_waysToCross_X0 tyX0 tyX0_ok nmX0 hown hK hP hN hS oX0 rfl 2 (by decide) (hts (.fieldLink RX0 25 "RowsOnlyPrimes$Account" "firstGroup" "I") (by decide +kernel)) (fun _ h9 => h9) rfl (by decide +kernel) rfl rfl (fun _ _ => rfl) (fun _ _ => Nat.le_of_ble_eq_true rfl) dX0_waysToCross_54 (fun H locs hP hS => ?_)
        rw [← eI8] at hP
        refine lv_iload hx hb dX0_waysToCross_57 (lv_at hl 3 rfl) ?_
        refine lv_istore (lv' := [(6, .int x4), (0, .ref (ad 54)), (1, .ref (ad c0)), (2, .ref (ad c1)), (4, .int x4), (5, .int x5)]) hx hb dX0_waysToCross_59 hl (by decide) rfl (fun ls hl => ?_)
        exact w_X0_waysToCross_61 C hK hE hN c0 c1 zc0 zc1 (f_X0_waysToCross_24 c0 c1 n) ih 1000 x4 x5 x4 I8 J _ _ _ hf (lv_sub hl [1, 2, 3, 4, 5, 0] rfl) hP hS
set_option maxHeartbeats 4000000 in
set_option maxRecDepth 100000 in
theorem c_X0_waysToCross (l : Launch) {D : va_G} {ad : Nat → Nat} {cy : Nat → ClassId} {sa va : Nat → Nat} {I : qI} {J : qJ} (c0 : Nat) (c1 : Nat) (zc0 : isB c0) (zc1 : isSh c1) (p2 : Int32) {r : Int32} {Ie : qI} (hf : f_X0_waysToCross c0 c1 p2 I J = some (r, Ie)) : Met l yX0_waysToCross wsX0_waysToCross r_X0_waysToCross (va_Pc [.ref (ad 54), .ref (ad c0), .ref (ad c1), .int p2] (qPre D xS ad cy sa va (eX ad cy) I J)) (va_Qi (S := Unit) (fun x _ => x = r) (fun _ t => qP D xS ad (eX ad cy) Ie J t.heap) (qA xS ad)) 0 0 (qA xS ad) := by
  refine Met.ofW (cc := cX0_waysToCross) (maxL := 7) (ret := (some .int)) (by decide) rfl ?_
  intro p e s m args below meth c s₁ B hml hv
  obtain ⟨rfl, hP, hK, hE, hN⟩ := hv
  have C : qC p s m _ meth c cX0_waysToCross 7 RX0 wsX0_waysToCross (some .int) := ⟨⟨B.exec, B.bytes, hml, findClass_of_methodNamed B.named, atoms_spec (ws := wsX0_waysToCross) B.pre⟩, B.returns, B.notSynchronized⟩
  have C0 := C
  obtain ⟨⟨hx, hb, hml, hown, hts⟩, hr, hlocks⟩ := C0
  have hS : va_S (qA xS ad) s.heap s.heap [] := va_S.rf
  have hl := lv_entry ([.ref (ad 54), .ref (ad c0), .ref (ad c1), .int p2]) (n := 7) (Nat.le_of_ble_eq_true rfl)
  rw [lg_entry_eq]
  generalize (lg_sl ([.ref (ad 54), .ref (ad c0), .ref (ad c1), .int p2]) ++ List.replicate (7 - (lg_sl ([.ref (ad 54), .ref (ad c0), .ref (ad c1), .int p2])).length) Slot.unset).toArray = ls at hl ⊢
  have hl : lv_has ls 7 [(0, .ref (ad 54)), (1, .ref (ad c0)), (2, .ref (ad c1)), (3, .int p2)] := hl
  unfold f_X0_waysToCross at hf
  refine lv_aload_n hx hb dX0_waysToCross_0 rfl (lv_at hl 1 rfl) ?_
  obtain ⟨v1, h2, hf⟩ := bd_ok hf
  refine q_cSi (va_runV (As := []) (rest := []) ⟨hx, hb, hml, hown, hts⟩ (c_X2_here l (D := D) (ad := ad) (cy := cy) (sa := sa) (va := va) (I := I) (J := J) c0 zc0 h2) (cwV 0 hts gX0_waysToCross_X2_here rfl rfl rfl (by decide +kernel) ⟨Nat.le_of_ble_eq_true rfl, Nat.le_of_ble_eq_true rfl⟩) ⟨qPre_blind _, q_recv hK hP (oX2 zc0) rfl, fun U hU hW => ⟨rfl, qPre_of hP hK hE hN hS U hU hW⟩⟩ rfl rfl hl.1 rfl (lv_room (Nat.le_of_ble_eq_true rfl)) dX0_waysToCross_1 ⟨Nat.le_of_ble_eq_true rfl, Nat.le_of_ble_eq_true rfl⟩) ?_
  refine lv_istore (lv' := [(4, .int v1), (0, .ref (ad 54)), (1, .ref (ad c0)), (2, .ref (ad c1)), (3, .int p2)]) hx hb dX0_waysToCross_4 hl (by decide) rfl (fun ls hl => ?_)
  refine lv_aload_n hx hb dX0_waysToCross_6 rfl (lv_at hl 1 rfl) ?_
  refine lv_iconst (v := -1) hx hb dX0_waysToCross_7 (by decide) ?_
  obtain ⟨I3, eI3, hf⟩ := lt_ok hf
  refine q_put (C := RX0) (T := TX0) (N := 3) (ci := 0) (v := .int (-1 : Int32)) (x := (-1 : Int32)) (ty := .int) hx hb hts in_X0_waysToCross_X0 tyX0 tyX0_ok nmX0 hown hK hP hN hS oX0 rfl 2 (by decide) (hts (.fieldLink RX0 25 "RowsOnlyPrimes$Account" "firstGroup" "I") (by decide +kernel)) (fun _ h9 => h9) rfl (by decide +kernel) rfl rfl (fun _ _ => rfl) (fun _ _ => Nat.le_of_ble_eq_true rfl) dX0_waysToCross_8 (fun H locs hP hS => ?_)
  rw [← eI3] at hP
  refine lv_aload_n hx hb dX0_waysToCross_11 rfl (lv_at hl 1 rfl) ?_
  refine q_get (C := RX0) (T := TX0) (N := 3) (ci := 0) (v := .ref (ad 56)) hx hb hts in_X0_waysToCross_X0 hown hK hP oX0 rfl 1 (by decide) (hts (.fieldLink RX0 15 "RowsOnlyPrimes$Account" "ways" "[I") (by decide +kernel)) (fun _ h9 => h9) rfl dX0_waysToCross_12 ?_
  refine lv_iconst (v := 1) hx hb dX0_waysToCross_15 (by decide) ?_
  obtain ⟨I4, h5, hf⟩ := bd_ok hf
  refine q_cEv (va_runS (As := [.ref (ad 56), .int (1 : Int32)]) (rest := []) ⟨hx, hb, hml, hown, hts⟩ (c_J7_fill_53178 l (S := xS) (ee := (eX ad cy)) (D := D) (ad := ad) (cy := cy) (sa := sa) (va := va) (I := I3) (J := J) 56 256 aX0_2 (1 : Int32) h5) (va_cwS 2 hts gX0_waysToCross_J7_fill_53178 rfl rfl rfl (by decide +kernel) ⟨Nat.le_of_ble_eq_true rfl, Nat.le_of_ble_eq_true rfl⟩) ⟨qPre_blind _, fun U hU hW => ⟨rfl, qPre_of hP hK hE hN hS U hU hW⟩⟩ rfl rfl hl.1 rfl (lv_room (Nat.le_of_ble_eq_true rfl)) dX0_waysToCross_16 ⟨Nat.le_of_ble_eq_true rfl, Nat.le_of_ble_eq_true rfl⟩) hS (fun H locs hP hS => ?_)
  refine lv_iload_n hx hb dX0_waysToCross_19 rfl (lv_at hl 4 rfl) ?_
  refine lv_iconst (v := 1) hx hb dX0_waysToCross_20 (by decide) ?_
  refine lv_isub hx hb dX0_waysToCross_21 ?_
  refine lv_istore (lv' := [(5, .int (p2 - (1 : Int32))), (4, .int v1), (0, .ref (ad 54)), (1, .ref (ad c0)), (2, .ref (ad c1)), (3, .int p2)]) hx hb dX0_waysToCross_22 hl (by decide) rfl (fun ls hl => ?_)
  exact w_X0_waysToCross_24 C hK hE hN c0 c1 zc0 zc1  1000 v1 (p2 - (1 : Int32)) I4 J _ _ _ hf (lv_sub hl [2, 3, 4, 1, 0] rfl) hP hS
abbrev r_X1_winningStep : Room := { frames := 1, cells := 0, slots := 0, locals := 24 }
theorem in_X1_winningStep_X1 : ∀ w ∈ u_ws RX1 TX1 2, w ∈ wsX1_winningStep := by decide +kernel
set_option maxHeartbeats 4000000 in
set_option maxRecDepth 100000 in
theorem w_X1_winningStep_17 (C : qC p s m args meth c cX1_winningStep 5 RX1 wsX1_winningStep (some .int)) (hK : qK D cy sa s) (hE : qEnv sa va (qA xS ad) s s.heap) (hN : qN xS ad)   {I : qI} {J : qJ} (hP : qP D xS ad (eX ad cy) I J s.heap) {r : Int32} : ∀ (n : Nat) (x1 : Int32) (x2 : Int32) (x3 : Int32) (x4 : Int32)  (ls : Array Slot), f_X1_winningStep_17 I n x1 x2 x3 x4 = some r → lv_has ls 5 [(0, .ref (ad 51)), (1, .int x1), (2, .int x2), (3, .int x3), (4, .int x4)] → W p l e (headSpec wsX1_winningStep r_X1_winningStep).room s m args below meth c s.heap [] 0 0 (MQ below (vp_Si (fun x => x = r)) args s 0 0 (fun _ => False)) (F0 m 17 ls []) := by
  have C0 := C
  obtain ⟨⟨hx, hb, hml, hown, hts⟩, hr, hlocks⟩ := C0
  intro n
  induction n with
  | zero =>
    intro x1 x2 x3 x4 ls hf hl
    rw [f_X1_winningStep_17] at hf
    cases hf
  | succ n ih =>
    intro x1 x2 x3 x4 ls hf hl
    rw [f_X1_winningStep_17] at hf
    refine lv_iload hx hb dX1_winningStep_17 (lv_at hl 4 rfl) ?_
    refine lv_iconst (v := 3) hx hb dX1_winningStep_19 (by decide) ?_
    refine lv_icmp_gt (tgt := 56) hx hb dX1_winningStep_20 (by decide) (fun cc => ?_) (fun cc => ?_)
    · have hf := (if_ok hf).1 cc
      refine lv_iconst (v := 0) hx hb dX1_winningStep_56 (by decide) ?_
      exact W.iret hx hb hr (fun t ht _ => ⟨_, rfl, Option.some.inj hf, ht⟩) (fun _ h => by cases h) dX1_winningStep_57
    · have hf := (if_ok hf).2 cc
      refine lv_iload hx hb dX1_winningStep_23 (lv_at hl 4 rfl) ?_
      refine lv_iload_n hx hb dX1_winningStep_25 rfl (lv_at hl 3 rfl) ?_
      refine lv_icmp_gt (tgt := 56) hx hb dX1_winningStep_26 (by decide) (fun cc => ?_) (fun cc => ?_)
      · have hf := (if_ok hf).1 cc
        refine lv_iconst (v := 0) hx hb dX1_winningStep_56 (by decide) ?_
        exact W.iret hx hb hr (fun t ht _ => ⟨_, rfl, Option.some.inj hf, ht⟩) (fun _ h => by cases h) dX1_winningStep_57
      · have hf := (if_ok hf).2 cc
        refine lv_aload_n hx hb dX1_winningStep_29 rfl (lv_at hl 0 rfl) ?_
        refine q_get (C := RX1) (T := TX1) (N := 2) (ci := 1) (v := .ref (ad 52)) hx hb hts in_X1_winningStep_X1 hown hK hP oX1 rfl 0 (by decide) (hts (.fieldLink RX1 9 "RowsOnlyPrimes$Auction" "wins" "[Z") (by decide +kernel)) (fun _ h9 => h9) rfl dX1_winningStep_30 ?_
        refine lv_iconst (v := 2) hx hb dX1_winningStep_33 (by decide) ?_
        refine lv_iload_n hx hb dX1_winningStep_34 rfl (lv_at hl 1 rfl) ?_
        refine lv_iload hx hb dX1_winningStep_35 (lv_at hl 4 rfl) ?_
        refine lv_iadd hx hb dX1_winningStep_37 ?_
        refine lv_imul hx hb dX1_winningStep_38 ?_
        refine lv_iconst (v := 1) hx hb dX1_winningStep_39 (by decide) ?_
        refine lv_iadd hx hb dX1_winningStep_40 ?_
        refine lv_iload_n hx hb dX1_winningStep_41 rfl (lv_at hl 2 rfl) ?_
        refine lv_isub hx hb dX1_winningStep_42 ?_
        obtain ⟨g1, hf⟩ := gd_ok hf
        refine q_zald hx hb hK hP aX1_1 g1 dX1_winningStep_43 ?_
        refine lv_if_ne (tgt := 50) hx hb dX1_winningStep_44 (by decide) (fun cc => ?_) (fun cc => ?_)
        · have hf := (if_ok hf).2 cc
          refine lv_iinc (v := (x4 + (1 : Int32))) (lv' := [(4, .int (x4 + (1 : Int32))), (0, .ref (ad 51)), (1, .int x1), (2, .int x2), (3, .int x3)]) hx hb dX1_winningStep_50 hl (k := 4) rfl rfl (by decide) rfl (fun ls hl => ?_)
          refine lv_goto (tgt := 17) hx hb dX1_winningStep_53 (by decide) ?_
          exact ih x1 x2 x3 (x4 + (1 : Int32)) _ hf (lv_sub hl [1, 2, 3, 4, 0] rfl)
        · have hf := (if_ok hf).1 cc
          refine lv_iload hx hb dX1_winningStep_47 (lv_at hl 4 rfl) ?_
          exact W.iret hx hb hr (fun t ht _ => ⟨_, rfl, Option.some.inj hf, ht⟩) (fun _ h => by cases h) dX1_winningStep_49
set_option maxHeartbeats 4000000 in
set_option maxRecDepth 100000 in
theorem c_X1_winningStep (l : Launch) {D : va_G} {ad : Nat → Nat} {cy : Nat → ClassId} {sa va : Nat → Nat} {I : qI} {J : qJ}   (p0 : Int32) (p1 : Int32) {r : Int32} (hf : f_X1_winningStep p0 p1 I = some r) : Met l yX1_winningStep wsX1_winningStep r_X1_winningStep (va_Pc [.ref (ad 51), .int p0, .int p1] (qPre D xS ad cy sa va (eX ad cy) I J)) (vp_Si (fun x => x = r)) 0 0 (fun _ => False) := by
  refine Met.ofW (cc := cX1_winningStep) (maxL := 5) (ret := (some .int)) (by decide) rfl ?_
  intro p e s m args below meth c s₁ B hml hv
  obtain ⟨rfl, hP, hK, hE, hN⟩ := hv
  have C : qC p s m _ meth c cX1_winningStep 5 RX1 wsX1_winningStep (some .int) := ⟨⟨B.exec, B.bytes, hml, findClass_of_methodNamed B.named, atoms_spec (ws := wsX1_winningStep) B.pre⟩, B.returns, B.notSynchronized⟩
  have C0 := C
  obtain ⟨⟨hx, hb, hml, hown, hts⟩, hr, hlocks⟩ := C0
  have hl := lv_entry ([.ref (ad 51), .int p0, .int p1]) (n := 5) (Nat.le_of_ble_eq_true rfl)
  rw [lg_entry_eq]
  generalize (lg_sl ([.ref (ad 51), .int p0, .int p1]) ++ List.replicate (5 - (lg_sl ([.ref (ad 51), .int p0, .int p1])).length) Slot.unset).toArray = ls at hl ⊢
  have hl : lv_has ls 5 [(0, .ref (ad 51)), (1, .int p0), (2, .int p1)] := hl
  unfold f_X1_winningStep at hf
  refine lv_aload_n hx hb dX1_winningStep_0 rfl (lv_at hl 0 rfl) ?_
  refine q_get (C := RX1) (T := TX1) (N := 2) (ci := 1) (v := .ref (ad 53)) hx hb hts in_X1_winningStep_X1 hown hK hP oX1 rfl 1 (by decide) (hts (.fieldLink RX1 15 "RowsOnlyPrimes$Auction" "purses" "[I") (by decide +kernel)) (fun _ h9 => h9) rfl dX1_winningStep_1 ?_
  refine lv_iload_n hx hb dX1_winningStep_4 rfl (lv_at hl 2 rfl) ?_
  obtain ⟨g1, hf⟩ := gd_ok hf
  refine q_iald hx hb hK hP aX1_2 g1 dX1_winningStep_5 ?_
  refine lv_bipush (v := 99) hx hb dX1_winningStep_6 (by decide) ?_
  refine va_mmin (own := RX1) hx hb (hml.trans hl.1.symm) hown (hts (.methodLink RX1 23 Lib.Math.min.name) (by decide +kernel)) (hts (.static Lib.Math.min.name) (by decide +kernel)) (hts (.initialized "java/lang/Math") (by decide +kernel)) (hts (.code Lib.Math.min.name Lib.Math.min.code 2 (some .int)) (by decide +kernel)) (Nat.le_of_ble_eq_true rfl) (Nat.le_of_ble_eq_true rfl) (Nat.zero_le _) (Nat.zero_le _) dX1_winningStep_8 ?_
  obtain ⟨v2, ev2, hf⟩ := lt_ok hf
  refine q_top ev2 ?_
  refine lv_iload_n hx hb dX1_winningStep_11 rfl (lv_at hl 1 rfl) ?_
  refine lv_isub hx hb dX1_winningStep_12 ?_
  refine lv_istore_n (lv' := [(3, .int (v2 - p0)), (0, .ref (ad 51)), (1, .int p0), (2, .int p1)]) hx hb dX1_winningStep_13 rfl hl (by decide) rfl (fun ls hl => ?_)
  refine lv_iconst (v := 1) hx hb dX1_winningStep_14 (by decide) ?_
  refine lv_istore (lv' := [(4, .int (1 : Int32)), (3, .int (v2 - p0)), (0, .ref (ad 51)), (1, .int p0), (2, .int p1)]) hx hb dX1_winningStep_15 hl (by decide) rfl (fun ls hl => ?_)
  exact w_X1_winningStep_17 C hK hE hN hP  1000 p0 p1 (v2 - p0) (1 : Int32) _ hf (lv_sub hl [2, 3, 4, 1, 0] rfl)
abbrev r_X1_firstBid : Room := { frames := 2, cells := 0, slots := 0, locals := 48 }
theorem in_X1_firstBid_X1 : ∀ w ∈ u_ws RX1 TX1 2, w ∈ wsX1_firstBid := by decide +kernel
set_option maxHeartbeats 4000000 in
set_option maxRecDepth 100000 in
theorem w_X1_firstBid_66 (C : qC p s m args meth c cX1_firstBid 4 RX1 wsX1_firstBid (some .int)) (hK : qK D cy sa s) (hE : qEnv sa va (qA xS ad) s s.heap) (hN : qN xS ad)   {J : qJ} {r : Int32} {Ie : qI} (k17 : Int32 → qI → Option (Int32 × qI)) (hk17 : ∀ (x3 : Int32)  (I : qI) (ls : Array Slot) (H : Heap) (locs : List Loc), k17 x3 I = some (r, Ie) → lv_has ls 4 [(0, .ref (ad 51)), (3, .int x3)] → qP D xS ad (eX ad cy) I J H → va_S (qA xS ad) s.heap H locs → W p l e (headSpec wsX1_firstBid r_X1_firstBid).room s m args below meth c H locs 0 0 (MQ below (va_Qi (S := Unit) (fun x _ => x = r) (fun _ t => qP D xS ad (eX ad cy) Ie J t.heap) (qA xS ad)) args s 0 0 (qA xS ad)) (F0 m 17 ls [])) : ∀ (x3 : Int32) (xs0 : Int32) (xs1 : Int32)  (I : qI) (ls : Array Slot) (H : Heap) (locs : List Loc), f_X1_firstBid_66 k17 x3 xs0 xs1 I = some (r, Ie) → lv_has ls 4 [(0, .ref (ad 51)), (3, .int x3)] → qP D xS ad (eX ad cy) I J H → va_S (qA xS ad) s.heap H locs → W p l e (headSpec wsX1_firstBid r_X1_firstBid).room s m args below meth c H locs 0 0 (MQ below (va_Qi (S := Unit) (fun x _ => x = r) (fun _ t => qP D xS ad (eX ad cy) Ie J t.heap) (qA xS ad)) args s 0 0 (qA xS ad)) (F0 m 66 ls [.int xs0, .int xs1, .ref (ad 52)]) := by
  have C0 := C
  obtain ⟨⟨hx, hb, hml, hown, hts⟩, hr, hlocks⟩ := C0
  intro x3 xs0 xs1 I ls H locs hf hl hP hS
  unfold f_X1_firstBid_66 at hf
  obtain ⟨g1, hf⟩ := gd_ok hf
  obtain ⟨I2, eI2, hf⟩ := lt_ok hf
  refine q_zast hx hb hK hP hN hS aX1_1 g1 dX1_firstBid_66 (fun H locs hP hS => ?_)
  have hP : qP D xS ad (eX ad cy) I2 J H := by rw [eI2]; exact hP
  refine lv_iinc (v := (x3 + (-1 : Int32))) (lv' := [(3, .int (x3 + (-1 : Int32))), (0, .ref (ad 51))]) hx hb dX1_firstBid_67 hl (k := 1) rfl rfl (by decide) rfl (fun ls hl => ?_)
  refine lv_goto (tgt := 17) hx hb dX1_firstBid_70 (by decide) ?_
  exact hk17 (x3 + (-1 : Int32)) I2 _ _ _ hf (lv_sub hl [1, 0] rfl) hP hS
set_option maxHeartbeats 4000000 in
set_option maxRecDepth 100000 in
theorem w_X1_firstBid_42 (C : qC p s m args meth c cX1_firstBid 4 RX1 wsX1_firstBid (some .int)) (hK : qK D cy sa s) (hE : qEnv sa va (qA xS ad) s s.heap) (hN : qN xS ad)   {J : qJ} {r : Int32} {Ie : qI} (k17 : Int32 → qI → Option (Int32 × qI)) (hk17 : ∀ (x3 : Int32)  (I : qI) (ls : Array Slot) (H : Heap) (locs : List Loc), k17 x3 I = some (r, Ie) → lv_has ls 4 [(0, .ref (ad 51)), (3, .int x3)] → qP D xS ad (eX ad cy) I J H → va_S (qA xS ad) s.heap H locs → W p l e (headSpec wsX1_firstBid r_X1_firstBid).room s m args below meth c H locs 0 0 (MQ below (va_Qi (S := Unit) (fun x _ => x = r) (fun _ t => qP D xS ad (eX ad cy) Ie J t.heap) (qA xS ad)) args s 0 0 (qA xS ad)) (F0 m 17 ls [])) : ∀ (x3 : Int32) (xs0 : Int32) (xs1 : Int32)  (I : qI) (ls : Array Slot) (H : Heap) (locs : List Loc), f_X1_firstBid_42 k17 x3 xs0 xs1 I = some (r, Ie) → lv_has ls 4 [(0, .ref (ad 51)), (3, .int x3)] → qP D xS ad (eX ad cy) I J H → va_S (qA xS ad) s.heap H locs → W p l e (headSpec wsX1_firstBid r_X1_firstBid).room s m args below meth c H locs 0 0 (MQ below (va_Qi (S := Unit) (fun x _ => x = r) (fun _ t => qP D xS ad (eX ad cy) Ie J t.heap) (qA xS ad)) args s 0 0 (qA xS ad)) (F0 m 42 ls [.int xs0, .int xs1, .ref (ad 52)]) := by
  have C0 := C
  obtain ⟨⟨hx, hb, hml, hown, hts⟩, hr, hlocks⟩ := C0
  intro x3 xs0 xs1 I ls H locs hf hl hP hS
  unfold f_X1_firstBid_42 at hf
  obtain ⟨g1, hf⟩ := gd_ok hf
  obtain ⟨I2, eI2, hf⟩ := lt_ok hf
  refine q_zast hx hb hK hP hN hS aX1_1 g1 dX1_firstBid_42 (fun H locs hP hS => ?_)
  have hP : qP D xS ad (eX ad cy) I2 J H := by rw [eI2]; exact hP
  refine lv_aload_n hx hb dX1_firstBid_43 rfl (lv_at hl 0 rfl) ?_
  refine q_get (C := RX1) (T := TX1) (N := 2) (ci := 1) (v := .ref (ad 52)) hx hb hts in_X1_firstBid_X1 hown hK hP oX1 rfl 0 (by decide) (hts (.fieldLink RX1 9 "RowsOnlyPrimes$Auction" "wins" "[Z") (by decide +kernel)) (fun _ h9 => h9) rfl dX1_firstBid_44 ?_
  refine lv_iconst (v := 2) hx hb dX1_firstBid_47 (by decide) ?_
  refine lv_iload_n hx hb dX1_firstBid_48 rfl (lv_at hl 1 rfl) ?_
  refine lv_imul hx hb dX1_firstBid_49 ?_
  refine lv_iconst (v := 1) hx hb dX1_firstBid_50 (by decide) ?_
  refine lv_iadd hx hb dX1_firstBid_51 ?_
  refine lv_aload_n hx hb dX1_firstBid_52 rfl (lv_at hl 0 rfl) ?_
  refine lv_iload_n hx hb dX1_firstBid_53 rfl (lv_at hl 1 rfl) ?_
  refine lv_iconst (v := 1) hx hb dX1_firstBid_54 (by decide) ?_
  obtain ⟨v3, h4, hf⟩ := bd_ok hf
  refine q_cSi (va_runV (As := [.int x3, .int (1 : Int32)]) (rest := [.int (((2 : Int32) * x3) + (1 : Int32)), .ref (ad 52)]) ⟨hx, hb, hml, hown, hts⟩ (c_X1_winningStep l (D := D) (ad := ad) (cy := cy) (sa := sa) (va := va) (I := I2) (J := J) x3 (1 : Int32) h4) (cwV 2 hts gX1_firstBid_X1_winningStep rfl rfl rfl (by decide +kernel) ⟨Nat.le_of_ble_eq_true rfl, Nat.le_of_ble_eq_true rfl⟩) ⟨qPre_blind _, q_recv hK hP oX1 rfl, fun U hU hW => ⟨rfl, qPre_of hP hK hE hN hS U hU hW⟩⟩ rfl rfl hl.1 rfl (lv_room (Nat.le_of_ble_eq_true rfl)) dX1_firstBid_55 ⟨Nat.le_of_ble_eq_true rfl, Nat.le_of_ble_eq_true rfl⟩) ?_
  refine lv_if_le (tgt := 65) hx hb dX1_firstBid_58 (by decide) (fun cc => ?_) (fun cc => ?_)
  · have hf := (if_ok hf).1 cc
    refine lv_iconst (v := 0) hx hb dX1_firstBid_65 (by decide) ?_
    exact w_X1_firstBid_66 C hK hE hN  k17 hk17  x3 (0 : Int32) (((2 : Int32) * x3) + (1 : Int32)) I2 _ _ _ hf (lv_sub hl [0, 1] rfl) hP hS
  · have hf := (if_ok hf).2 cc
    refine lv_iconst (v := 1) hx hb dX1_firstBid_61 (by decide) ?_
    refine lv_goto (tgt := 66) hx hb dX1_firstBid_62 (by decide) ?_
    exact w_X1_firstBid_66 C hK hE hN  k17 hk17  x3 (1 : Int32) (((2 : Int32) * x3) + (1 : Int32)) I2 _ _ _ hf (lv_sub hl [0, 1] rfl) hP hS
set_option maxHeartbeats 4000000 in
set_option maxRecDepth 100000 in
theorem w_X1_firstBid_17 (C : qC p s m args meth c cX1_firstBid 4 RX1 wsX1_firstBid (some .int)) (hK : qK D cy sa s) (hE : qEnv sa va (qA xS ad) s s.heap) (hN : qN xS ad)   {J : qJ} {r : Int32} {Ie : qI} : ∀ (n : Nat) (x3 : Int32)  (I : qI) (ls : Array Slot) (H : Heap) (locs : List Loc), f_X1_firstBid_17 n x3 I = some (r, Ie) → lv_has ls 4 [(0, .ref (ad 51)), (3, .int x3)] → qP D xS ad (eX ad cy) I J H → va_S (qA xS ad) s.heap H locs → W p l e (headSpec wsX1_firstBid r_X1_firstBid).room s m args below meth c H locs 0 0 (MQ below (va_Qi (S := Unit) (fun x _ => x = r) (fun _ t => qP D xS ad (eX ad cy) Ie J t.heap) (qA xS ad)) args s 0 0 (qA xS ad)) (F0 m 17 ls []) := by
  have C0 := C
  obtain ⟨⟨hx, hb, hml, hown, hts⟩, hr, hlocks⟩ := C0
  intro n
  induction n with
  | zero =>
    intro x3 I ls H locs hf hl hP hS
    rw [f_X1_firstBid_17] at hf
    cases hf
  | succ n ih =>
    intro x3 I ls H locs hf hl hP hS
    rw [f_X1_firstBid_17] at hf
    refine lv_iload_n hx hb dX1_firstBid_17 rfl (lv_at hl 1 rfl) ?_
    refine lv_if_lt (tgt := 73) hx hb dX1_firstBid_18 (by decide) (fun cc => ?_) (fun cc => ?_)
    · have hf := (if_ok hf).1 cc
      refine lv_aload_n hx hb dX1_firstBid_73 rfl (lv_at hl 0 rfl) ?_
      refine lv_iconst (v := 0) hx hb dX1_firstBid_74 (by decide) ?_
      refine lv_iconst (v := 0) hx hb dX1_firstBid_75 (by decide) ?_
      obtain ⟨v1, h2, hf⟩ := bd_ok hf
      refine q_cSi (va_runV (As := [.int (0 : Int32), .int (0 : Int32)]) (rest := []) ⟨hx, hb, hml, hown, hts⟩ (c_X1_winningStep l (D := D) (ad := ad) (cy := cy) (sa := sa) (va := va) (I := I) (J := J) (0 : Int32) (0 : Int32) h2) (cwV 2 hts gX1_firstBid_X1_winningStep rfl rfl rfl (by decide +kernel) ⟨Nat.le_of_ble_eq_true rfl, Nat.le_of_ble_eq_true rfl⟩) ⟨qPre_blind _, q_recv hK hP oX1 rfl, fun U hU hW => ⟨rfl, qPre_of hP hK hE hN hS U hU hW⟩⟩ rfl rfl hl.1 rfl (lv_room (Nat.le_of_ble_eq_true rfl)) dX1_firstBid_76 ⟨Nat.le_of_ble_eq_true rfl, Nat.le_of_ble_eq_true rfl⟩) ?_
      have e9 := Option.some.inj hf
      have eI9 : I = Ie := (congrArg Prod.snd e9)
      exact W.iret hx hb hr (fun t ht _ => ⟨⟨_, (), rfl, (congrArg Prod.fst e9), by show qP D _ ad _ _ _ t.heap; rw [ht, ← eI9]; exact hP⟩, hS.F ht⟩) hS.2.2 dX1_firstBid_79
    · have hf := (if_ok hf).2 cc
      refine lv_aload_n hx hb dX1_firstBid_21 rfl (lv_at hl 0 rfl) ?_
      refine q_get (C := RX1) (T := TX1) (N := 2) (ci := 1) (v := .ref (ad 52)) hx hb hts in_X1_firstBid_X1 hown hK hP oX1 rfl 0 (by decide) (hts (.fieldLink RX1 9 "RowsOnlyPrimes$Auction" "wins" "[Z") (by decide +kernel)) (fun _ h9 => h9) rfl dX1_firstBid_22 ?_
      refine lv_iconst (v := 2) hx hb dX1_firstBid_25 (by decide) ?_
      refine lv_iload_n hx hb dX1_firstBid_26 rfl (lv_at hl 1 rfl) ?_
      refine lv_imul hx hb dX1_firstBid_27 ?_
      refine lv_aload_n hx hb dX1_firstBid_28 rfl (lv_at hl 0 rfl) ?_
      refine lv_iload_n hx hb dX1_firstBid_29 rfl (lv_at hl 1 rfl) ?_
      refine lv_iconst (v := 0) hx hb dX1_firstBid_30 (by decide) ?_
      obtain ⟨v3, h4, hf⟩ := bd_ok hf
      refine q_cSi (va_runV (As := [.int x3, .int (0 : Int32)]) (rest := [.int ((2 : Int32) * x3), .ref (ad 52)]) ⟨hx, hb, hml, hown, hts⟩ (c_X1_winningStep l (D := D) (ad := ad) (cy := cy) (sa := sa) (va := va) (I := I) (J := J) x3 (0 : Int32) h4) (cwV 2 hts gX1_firstBid_X1_winningStep rfl rfl rfl (by decide +kernel) ⟨Nat.le_of_ble_eq_true rfl, Nat.le_of_ble_eq_true rfl⟩) ⟨qPre_blind _, q_recv hK hP oX1 rfl, fun U hU hW => ⟨rfl, qPre_of hP hK hE hN hS U hU hW⟩⟩ rfl rfl hl.1 rfl (lv_room (Nat.le_of_ble_eq_true rfl)) dX1_firstBid_31 ⟨Nat.le_of_ble_eq_true rfl, Nat.le_of_ble_eq_true rfl⟩) ?_
      refine lv_if_le (tgt := 41) hx hb dX1_firstBid_34 (by decide) (fun cc => ?_) (fun cc => ?_)
      · have hf := (if_ok hf).1 cc
        refine lv_iconst (v := 0) hx hb dX1_firstBid_41 (by decide) ?_
        exact w_X1_firstBid_42 C hK hE hN  (f_X1_firstBid_17 n) ih  x3 (0 : Int32) ((2 : Int32) * x3) I _ _ _ hf (lv_sub hl [0, 1] rfl) hP hS
      · have hf := (if_ok hf).2 cc
        refine lv_iconst (v := 1) hx hb dX1_firstBid_37 (by decide) ?_
        refine lv_goto (tgt := 42) hx hb dX1_firstBid_38 (by decide) ?_
        exact w_X1_firstBid_42 C hK hE hN  (f_X1_firstBid_17 n) ih  x3 (1 : Int32) ((2 : Int32) * x3) I _ _ _ hf (lv_sub hl [0, 1] rfl) hP hS
set_option maxHeartbeats 4000000 in
set_option maxRecDepth 100000 in
theorem c_X1_firstBid (l : Launch) {D : va_G} {ad : Nat → Nat} {cy : Nat → ClassId} {sa va : Nat → Nat} {I : qI} {J : qJ}   (p0 : Int32) (p1 : Int32) {r : Int32} {Ie : qI} (hf : f_X1_firstBid p0 p1 I = some (r, Ie)) : Met l yX1_firstBid wsX1_firstBid r_X1_firstBid (va_Pc [.ref (ad 51), .int p0, .int p1] (qPre D xS ad cy sa va (eX ad cy) I J)) (va_Qi (S := Unit) (fun x _ => x = r) (fun _ t => qP D xS ad (eX ad cy) Ie J t.heap) (qA xS ad)) 0 0 (qA xS ad) := by
  refine Met.ofW (cc := cX1_firstBid) (maxL := 4) (ret := (some .int)) (by decide) rfl ?_
  intro p e s m args below meth c s₁ B hml hv
  obtain ⟨rfl, hP, hK, hE, hN⟩ := hv
  have C : qC p s m _ meth c cX1_firstBid 4 RX1 wsX1_firstBid (some .int) := ⟨⟨B.exec, B.bytes, hml, findClass_of_methodNamed B.named, atoms_spec (ws := wsX1_firstBid) B.pre⟩, B.returns, B.notSynchronized⟩
  have C0 := C
  obtain ⟨⟨hx, hb, hml, hown, hts⟩, hr, hlocks⟩ := C0
  have hS : va_S (qA xS ad) s.heap s.heap [] := va_S.rf
  have hl := lv_entry ([.ref (ad 51), .int p0, .int p1]) (n := 4) (Nat.le_of_ble_eq_true rfl)
  rw [lg_entry_eq]
  generalize (lg_sl ([.ref (ad 51), .int p0, .int p1]) ++ List.replicate (4 - (lg_sl ([.ref (ad 51), .int p0, .int p1])).length) Slot.unset).toArray = ls at hl ⊢
  have hl : lv_has ls 4 [(0, .ref (ad 51)), (1, .int p0), (2, .int p1)] := hl
  unfold f_X1_firstBid at hf
  refine lv_aload_n hx hb dX1_firstBid_0 rfl (lv_at hl 0 rfl) ?_
  refine q_get (C := RX1) (T := TX1) (N := 2) (ci := 1) (v := .ref (ad 53)) hx hb hts in_X1_firstBid_X1 hown hK hP oX1 rfl 1 (by decide) (hts (.fieldLink RX1 15 "RowsOnlyPrimes$Auction" "purses" "[I") (by decide +kernel)) (fun _ h9 => h9) rfl dX1_firstBid_1 ?_
  refine lv_iconst (v := 0) hx hb dX1_firstBid_4 (by decide) ?_
  refine lv_iload_n hx hb dX1_firstBid_5 rfl (lv_at hl 1 rfl) ?_
  obtain ⟨I1, eI1, hf⟩ := lt_ok hf
  refine q_iast hx hb hK hP hN hS aX1_2 (by decide) dX1_firstBid_6 (fun H locs hP hS => ?_)
  have eI1 : I1 = _ := eI1
  have hP : qP D xS ad (eX ad cy) I1 J H := by rw [eI1]; exact hP
  refine lv_aload_n hx hb dX1_firstBid_7 rfl (lv_at hl 0 rfl) ?_
  refine q_get (C := RX1) (T := TX1) (N := 2) (ci := 1) (v := .ref (ad 53)) hx hb hts in_X1_firstBid_X1 hown hK hP oX1 rfl 1 (by decide) (hts (.fieldLink RX1 15 "RowsOnlyPrimes$Auction" "purses" "[I") (by decide +kernel)) (fun _ h9 => h9) rfl dX1_firstBid_8 ?_
  refine lv_iconst (v := 1) hx hb dX1_firstBid_11 (by decide) ?_
  refine lv_iload_n hx hb dX1_firstBid_12 rfl (lv_at hl 2 rfl) ?_
  obtain ⟨I2, eI2, hf⟩ := lt_ok hf
  refine q_iast hx hb hK hP hN hS aX1_2 (by decide) dX1_firstBid_13 (fun H locs hP hS => ?_)
  have eI2 : I2 = _ := eI2
  have hP : qP D xS ad (eX ad cy) I2 J H := by rw [eI2]; exact hP
  refine lv_bipush (v := 99) hx hb dX1_firstBid_14 (by decide) ?_
  refine lv_istore_n (lv' := [(3, .int (99 : Int32)), (0, .ref (ad 51)), (1, .int p0), (2, .int p1)]) hx hb dX1_firstBid_16 rfl hl (by decide) rfl (fun ls hl => ?_)
  exact w_X1_firstBid_17 C hK hE hN   1000 (99 : Int32) I2 _ _ _ hf (lv_sub hl [1, 0] rfl) hP hS
abbrev r_X2_become : Room := { frames := 1, cells := 0, slots := 0, locals := 40 }
theorem in_X2_become_X2 : ∀ w ∈ u_ws RX2 TX2 13, w ∈ wsX2_become := by decide +kernel
set_option maxHeartbeats 4000000 in
set_option maxRecDepth 100000 in
theorem c_X2_become (l : Launch) {D : va_G} {ad : Nat → Nat} {cy : Nat → ClassId} {sa va : Nat → Nat} {I : qI} {J : qJ} (b : Nat) (c0 : Nat) (zb : isB b) (zc0 : isB c0)  {Ie : qI} (hf : f_X2_become b c0 I = some Ie) : Met l yX2_become wsX2_become r_X2_become (va_Pc [.ref (ad b), .ref (ad c0)] (qPre D xS ad cy sa va (eX ad cy) I J)) (va_Qv (S := Unit) (fun _ => True) (fun _ t => qP D xS ad (eX ad cy) Ie J t.heap) (qA xS ad)) 0 0 (qA xS ad) := by
  refine Met.ofW (cc := cX2_become) (maxL := 2) (ret := none) (by decide) rfl ?_
  intro p e s m args below meth c s₁ B hml hv
  obtain ⟨rfl, hP, hK, hE, hN⟩ := hv
  have C : qC p s m _ meth c cX2_become 2 RX2 wsX2_become none := ⟨⟨B.exec, B.bytes, hml, findClass_of_methodNamed B.named, atoms_spec (ws := wsX2_become) B.pre⟩, B.returns, B.notSynchronized⟩
  have C0 := C
  obtain ⟨⟨hx, hb, hml, hown, hts⟩, hr, hlocks⟩ := C0
  have hS : va_S (qA xS ad) s.heap s.heap [] := va_S.rf
  have hl := lv_entry ([.ref (ad b), .ref (ad c0)]) (n := 2) (Nat.le_of_ble_eq_true rfl)
  rw [lg_entry_eq]
  generalize (lg_sl ([.ref (ad b), .ref (ad c0)]) ++ List.replicate (2 - (lg_sl ([.ref (ad b), .ref (ad c0)])).length) Slot.unset).toArray = ls at hl ⊢
  have hl : lv_has ls 2 [(0, .ref (ad b)), (1, .ref (ad c0))] := hl
  unfold f_X2_become at hf
  refine lv_aload_n hx hb dX2_become_0 rfl (lv_at hl 1 rfl) ?_
  refine q_get (C := RX2) (T := TX2) (N := 13) (ci := 2) (v := .ref (ad (c0 + 1))) hx hb hts in_X2_become_X2 hown hK hP (oX2 zc0) rfl 0 (by decide) (hts (.fieldLink RX2 9 "RowsOnlyPrimes$Bank" "kinds" "[I") (by decide +kernel)) (fun _ h9 => h9) rfl dX2_become_1 ?_
  refine lv_iconst (v := 0) hx hb dX2_become_4 (by decide) ?_
  refine lv_aload_n hx hb dX2_become_5 rfl (lv_at hl 0 rfl) ?_
  refine q_get (C := RX2) (T := TX2) (N := 13) (ci := 2) (v := .ref (ad (b + 1))) hx hb hts in_X2_become_X2 hown hK hP (oX2 zb) rfl 0 (by decide) (hts (.fieldLink RX2 9 "RowsOnlyPrimes$Bank" "kinds" "[I") (by decide +kernel)) (fun _ h9 => h9) rfl dX2_become_6 ?_
  refine lv_iconst (v := 0) hx hb dX2_become_9 (by decide) ?_
  refine lv_bipush (v := 8) hx hb dX2_become_10 (by decide) ?_
  obtain ⟨I1, eI1, hf⟩ := lt_ok hf
  refine q_copyi (own := RX2) (index := 40) hx hb (hml.trans hl.1.symm) hown (hts (.methodLink RX2 40 arraycopyName) (by decide +kernel)) (hts (.native arraycopyName) (by decide +kernel)) (hts (.static arraycopyName) (by decide +kernel)) (hts (.initialized "java/lang/System") (by decide +kernel)) hK hP hN hS (aX2_1 zc0) (aX2_1 zb) (by decide) (by decide) (by decide) (by decide) (by decide) (Nat.le_of_ble_eq_true rfl) (Nat.le_of_ble_eq_true rfl) dX2_become_12 (fun H locs hP hS => ?_)
  have hP : qP D xS ad (eX ad cy) I1 J H := by rw [eI1]; exact hP
  refine lv_aload_n hx hb dX2_become_15 rfl (lv_at hl 1 rfl) ?_
  refine q_get (C := RX2) (T := TX2) (N := 13) (ci := 2) (v := .ref (ad (c0 + 2))) hx hb hts in_X2_become_X2 hown hK hP (oX2 zc0) rfl 1 (by decide) (hts (.fieldLink RX2 15 "RowsOnlyPrimes$Bank" "extras" "[I") (by decide +kernel)) (fun _ h9 => h9) rfl dX2_become_16 ?_
  refine lv_iconst (v := 0) hx hb dX2_become_19 (by decide) ?_
  refine lv_aload_n hx hb dX2_become_20 rfl (lv_at hl 0 rfl) ?_
  refine q_get (C := RX2) (T := TX2) (N := 13) (ci := 2) (v := .ref (ad (b + 2))) hx hb hts in_X2_become_X2 hown hK hP (oX2 zb) rfl 1 (by decide) (hts (.fieldLink RX2 15 "RowsOnlyPrimes$Bank" "extras" "[I") (by decide +kernel)) (fun _ h9 => h9) rfl dX2_become_21 ?_
  refine lv_iconst (v := 0) hx hb dX2_become_24 (by decide) ?_
  refine lv_bipush (v := 8) hx hb dX2_become_25 (by decide) ?_
  obtain ⟨I2, eI2, hf⟩ := lt_ok hf
  refine q_copyi (own := RX2) (index := 40) hx hb (hml.trans hl.1.symm) hown (hts (.methodLink RX2 40 arraycopyName) (by decide +kernel)) (hts (.native arraycopyName) (by decide +kernel)) (hts (.static arraycopyName) (by decide +kernel)) (hts (.initialized "java/lang/System") (by decide +kernel)) hK hP hN hS (aX2_2 zc0) (aX2_2 zb) (by decide) (by decide) (by decide) (by decide) (by decide) (Nat.le_of_ble_eq_true rfl) (Nat.le_of_ble_eq_true rfl) dX2_become_27 (fun H locs hP hS => ?_)
  have hP : qP D xS ad (eX ad cy) I2 J H := by rw [eI2]; exact hP
  refine lv_aload_n hx hb dX2_become_30 rfl (lv_at hl 1 rfl) ?_
  refine q_get (C := RX2) (T := TX2) (N := 13) (ci := 2) (v := .ref (ad (c0 + 3))) hx hb hts in_X2_become_X2 hown hK hP (oX2 zc0) rfl 2 (by decide) (hts (.fieldLink RX2 18 "RowsOnlyPrimes$Bank" "counts" "[I") (by decide +kernel)) (fun _ h9 => h9) rfl dX2_become_31 ?_
  refine lv_iconst (v := 0) hx hb dX2_become_34 (by decide) ?_
  refine lv_aload_n hx hb dX2_become_35 rfl (lv_at hl 0 rfl) ?_
  refine q_get (C := RX2) (T := TX2) (N := 13) (ci := 2) (v := .ref (ad (b + 3))) hx hb hts in_X2_become_X2 hown hK hP (oX2 zb) rfl 2 (by decide) (hts (.fieldLink RX2 18 "RowsOnlyPrimes$Bank" "counts" "[I") (by decide +kernel)) (fun _ h9 => h9) rfl dX2_become_36 ?_
  refine lv_iconst (v := 0) hx hb dX2_become_39 (by decide) ?_
  refine lv_bipush (v := 8) hx hb dX2_become_40 (by decide) ?_
  obtain ⟨I3, eI3, hf⟩ := lt_ok hf
  refine q_copyi (own := RX2) (index := 40) hx hb (hml.trans hl.1.symm) hown (hts (.methodLink RX2 40 arraycopyName) (by decide +kernel)) (hts (.native arraycopyName) (by decide +kernel)) (hts (.static arraycopyName) (by decide +kernel)) (hts (.initialized "java/lang/System") (by decide +kernel)) hK hP hN hS (aX2_3 zc0) (aX2_3 zb) (by decide) (by decide) (by decide) (by decide) (by decide) (Nat.le_of_ble_eq_true rfl) (Nat.le_of_ble_eq_true rfl) dX2_become_42 (fun H locs hP hS => ?_)
  have hP : qP D xS ad (eX ad cy) I3 J H := by rw [eI3]; exact hP
  refine lv_aload_n hx hb dX2_become_45 rfl (lv_at hl 1 rfl) ?_
  refine q_get (C := RX2) (T := TX2) (N := 13) (ci := 2) (v := .ref (ad (c0 + 4))) hx hb hts in_X2_become_X2 hown hK hP (oX2 zc0) rfl 3 (by decide) (hts (.fieldLink RX2 21 "RowsOnlyPrimes$Bank" "wallets" "[I") (by decide +kernel)) (fun _ h9 => h9) rfl dX2_become_46 ?_
  refine lv_iconst (v := 0) hx hb dX2_become_49 (by decide) ?_
  refine lv_aload_n hx hb dX2_become_50 rfl (lv_at hl 0 rfl) ?_
  refine q_get (C := RX2) (T := TX2) (N := 13) (ci := 2) (v := .ref (ad (b + 4))) hx hb hts in_X2_become_X2 hown hK hP (oX2 zb) rfl 3 (by decide) (hts (.fieldLink RX2 21 "RowsOnlyPrimes$Bank" "wallets" "[I") (by decide +kernel)) (fun _ h9 => h9) rfl dX2_become_51 ?_
  refine lv_iconst (v := 0) hx hb dX2_become_54 (by decide) ?_
  refine lv_bipush (v := 8) hx hb dX2_become_55 (by decide) ?_
  obtain ⟨I4, eI4, hf⟩ := lt_ok hf
  refine q_copyi (own := RX2) (index := 40) hx hb (hml.trans hl.1.symm) hown (hts (.methodLink RX2 40 arraycopyName) (by decide +kernel)) (hts (.native arraycopyName) (by decide +kernel)) (hts (.static arraycopyName) (by decide +kernel)) (hts (.initialized "java/lang/System") (by decide +kernel)) hK hP hN hS (aX2_4 zc0) (aX2_4 zb) (by decide) (by decide) (by decide) (by decide) (by decide) (Nat.le_of_ble_eq_true rfl) (Nat.le_of_ble_eq_true rfl) dX2_become_57 (fun H locs hP hS => ?_)
  have hP : qP D xS ad (eX ad cy) I4 J H := by rw [eI4]; exact hP
  refine lv_aload_n hx hb dX2_become_60 rfl (lv_at hl 1 rfl) ?_
  refine q_get (C := RX2) (T := TX2) (N := 13) (ci := 2) (v := .ref (ad (c0 + 5))) hx hb hts in_X2_become_X2 hown hK hP (oX2 zc0) rfl 4 (by decide) (hts (.fieldLink RX2 24 "RowsOnlyPrimes$Bank" "ties" "[I") (by decide +kernel)) (fun _ h9 => h9) rfl dX2_become_61 ?_
  refine lv_iconst (v := 0) hx hb dX2_become_64 (by decide) ?_
  refine lv_aload_n hx hb dX2_become_65 rfl (lv_at hl 0 rfl) ?_
  refine q_get (C := RX2) (T := TX2) (N := 13) (ci := 2) (v := .ref (ad (b + 5))) hx hb hts in_X2_become_X2 hown hK hP (oX2 zb) rfl 4 (by decide) (hts (.fieldLink RX2 24 "RowsOnlyPrimes$Bank" "ties" "[I") (by decide +kernel)) (fun _ h9 => h9) rfl dX2_become_66 ?_
  refine lv_iconst (v := 0) hx hb dX2_become_69 (by decide) ?_
  refine lv_bipush (v := 8) hx hb dX2_become_70 (by decide) ?_
  obtain ⟨I5, eI5, hf⟩ := lt_ok hf
  refine q_copyi (own := RX2) (index := 40) hx hb (hml.trans hl.1.symm) hown (hts (.methodLink RX2 40 arraycopyName) (by decide +kernel)) (hts (.native arraycopyName) (by decide +kernel)) (hts (.static arraycopyName) (by decide +kernel)) (hts (.initialized "java/lang/System") (by decide +kernel)) hK hP hN hS (aX2_5 zc0) (aX2_5 zb) (by decide) (by decide) (by decide) (by decide) (by decide) (Nat.le_of_ble_eq_true rfl) (Nat.le_of_ble_eq_true rfl) dX2_become_72 (fun H locs hP hS => ?_)
  have hP : qP D xS ad (eX ad cy) I5 J H := by rw [eI5]; exact hP
  refine lv_aload_n hx hb dX2_become_75 rfl (lv_at hl 1 rfl) ?_
  refine q_get (C := RX2) (T := TX2) (N := 13) (ci := 2) (v := .ref (ad (c0 + 6))) hx hb hts in_X2_become_X2 hown hK hP (oX2 zc0) rfl 5 (by decide) (hts (.fieldLink RX2 27 "RowsOnlyPrimes$Bank" "shuns" "[I") (by decide +kernel)) (fun _ h9 => h9) rfl dX2_become_76 ?_
  refine lv_iconst (v := 0) hx hb dX2_become_79 (by decide) ?_
  refine lv_aload_n hx hb dX2_become_80 rfl (lv_at hl 0 rfl) ?_
  refine q_get (C := RX2) (T := TX2) (N := 13) (ci := 2) (v := .ref (ad (b + 6))) hx hb hts in_X2_become_X2 hown hK hP (oX2 zb) rfl 5 (by decide) (hts (.fieldLink RX2 27 "RowsOnlyPrimes$Bank" "shuns" "[I") (by decide +kernel)) (fun _ h9 => h9) rfl dX2_become_81 ?_
  refine lv_iconst (v := 0) hx hb dX2_become_84 (by decide) ?_
  refine lv_bipush (v := 8) hx hb dX2_become_85 (by decide) ?_
  obtain ⟨I6, eI6, hf⟩ := lt_ok hf
  refine q_copyi (own := RX2) (index := 40) hx hb (hml.trans hl.1.symm) hown (hts (.methodLink RX2 40 arraycopyName) (by decide +kernel)) (hts (.native arraycopyName) (by decide +kernel)) (hts (.static arraycopyName) (by decide +kernel)) (hts (.initialized "java/lang/System") (by decide +kernel)) hK hP hN hS (aX2_6 zc0) (aX2_6 zb) (by decide) (by decide) (by decide) (by decide) (by decide) (Nat.le_of_ble_eq_true rfl) (Nat.le_of_ble_eq_true rfl) dX2_become_87 (fun H locs hP hS => ?_)
  have hP : qP D xS ad (eX ad cy) I6 J H := by rw [eI6]; exact hP
  refine lv_aload_n hx hb dX2_become_90 rfl (lv_at hl 1 rfl) ?_
  refine q_get (C := RX2) (T := TX2) (N := 13) (ci := 2) (v := .ref (ad (c0 + 7))) hx hb hts in_X2_become_X2 hown hK hP (oX2 zc0) rfl 6 (by decide) (hts (.fieldLink RX2 30 "RowsOnlyPrimes$Bank" "told" "[I") (by decide +kernel)) (fun _ h9 => h9) rfl dX2_become_91 ?_
  refine lv_iconst (v := 0) hx hb dX2_become_94 (by decide) ?_
  refine lv_aload_n hx hb dX2_become_95 rfl (lv_at hl 0 rfl) ?_
  refine q_get (C := RX2) (T := TX2) (N := 13) (ci := 2) (v := .ref (ad (b + 7))) hx hb hts in_X2_become_X2 hown hK hP (oX2 zb) rfl 6 (by decide) (hts (.fieldLink RX2 30 "RowsOnlyPrimes$Bank" "told" "[I") (by decide +kernel)) (fun _ h9 => h9) rfl dX2_become_96 ?_
  refine lv_iconst (v := 0) hx hb dX2_become_99 (by decide) ?_
  refine lv_iconst (v := 5) hx hb dX2_become_100 (by decide) ?_
  obtain ⟨I7, eI7, hf⟩ := lt_ok hf
  refine q_copyi (own := RX2) (index := 40) hx hb (hml.trans hl.1.symm) hown (hts (.methodLink RX2 40 arraycopyName) (by decide +kernel)) (hts (.native arraycopyName) (by decide +kernel)) (hts (.static arraycopyName) (by decide +kernel)) (hts (.initialized "java/lang/System") (by decide +kernel)) hK hP hN hS (aX2_7 zc0) (aX2_7 zb) (by decide) (by decide) (by decide) (by decide) (by decide) (Nat.le_of_ble_eq_true rfl) (Nat.le_of_ble_eq_true rfl) dX2_become_101 (fun H locs hP hS => ?_)
  have hP : qP D xS ad (eX ad cy) I7 J H := by rw [eI7]; exact hP
  refine lv_aload_n hx hb dX2_become_104 rfl (lv_at hl 0 rfl) ?_
  refine lv_aload_n hx hb dX2_become_105 rfl (lv_at hl 1 rfl) ?_
  refine q_get (C := RX2) (T := TX2) (N := 13) (ci := 2) (v := .int (I7 c0 7)) hx hb hts in_X2_become_X2 hown hK hP (oX2 zc0) rfl 7 (by decide) (hts (.fieldLink RX2 46 "RowsOnlyPrimes$Bank" "size" "I") (by decide +kernel)) (fun _ h9 => h9) rfl dX2_become_106 ?_
  obtain ⟨I8, eI8, hf⟩ := lt_ok hf
  refine q_put (C := RX2) (T := TX2) (N := 13) (ci := 2) (v := .int (I7 c0 7)) (x := (I7 c0 7)) (ty := .int) hx hb hts in_X2_become_X2 tyX2 tyX2_ok nmX2 hown hK hP hN hS (oX2 zb) rfl 7 (by decide) (hts (.fieldLink RX2 46 "RowsOnlyPrimes$Bank" "size" "I") (by decide +kernel)) (fun _ h9 => h9) rfl (by decide +kernel) rfl rfl (fun _ _ => rfl) (fun _ _ => Nat.le_of_ble_eq_true rfl) dX2_become_109 (fun H locs hP hS => ?_)
  rw [← eI8] at hP
  refine lv_aload_n hx hb dX2_become_112 rfl (lv_at hl 0 rfl) ?_
  refine lv_aload_n hx hb dX2_become_113 rfl (lv_at hl 1 rfl) ?_
  refine q_get (C := RX2) (T := TX2) (N := 13) (ci := 2) (v := .int (I8 c0 8)) hx hb hts in_X2_become_X2 hown hK hP (oX2 zc0) rfl 8 (by decide) (hts (.fieldLink RX2 49 "RowsOnlyPrimes$Bank" "over" "I") (by decide +kernel)) (fun _ h9 => h9) rfl dX2_become_114 ?_
  obtain ⟨I9, eI9, hf⟩ := lt_ok hf
  refine q_put (C := RX2) (T := TX2) (N := 13) (ci := 2) (v := .int (I8 c0 8)) (x := (I8 c0 8)) (ty := .int) hx hb hts in_X2_become_X2 tyX2 tyX2_ok nmX2 hown hK hP hN hS (oX2 zb) rfl 8 (by decide) (hts (.fieldLink RX2 49 "RowsOnlyPrimes$Bank" "over" "I") (by decide +kernel)) (fun _ h9 => h9) rfl (by decide +kernel) rfl rfl (fun _ _ => rfl) (fun _ _ => Nat.le_of_ble_eq_true rfl) dX2_become_117 (fun H locs hP hS => ?_)
  rw [← eI9] at hP
  refine lv_aload_n hx hb dX2_become_120 rfl (lv_at hl 0 rfl) ?_
  refine lv_aload_n hx hb dX2_become_121 rfl (lv_at hl 1 rfl) ?_
  refine q_get (C := RX2) (T := TX2) (N := 13) (ci := 2) (v := .int (I9 c0 9)) hx hb hts in_X2_become_X2 hown hK hP (oX2 zc0) rfl 9 (by decide) (hts (.fieldLink RX2 52 "RowsOnlyPrimes$Bank" "minutes" "I") (by decide +kernel)) (fun _ h9 => h9) rfl dX2_become_122 ?_
  obtain ⟨I10, eI10, hf⟩ := lt_ok hf
  refine q_put (C := RX2) (T := TX2) (N := 13) (ci := 2) (v := .int (I9 c0 9)) (x := (I9 c0 9)) (ty := .int) hx hb hts in_X2_become_X2 tyX2 tyX2_ok nmX2 hown hK hP hN hS (oX2 zb) rfl 9 (by decide) (hts (.fieldLink RX2 52 "RowsOnlyPrimes$Bank" "minutes" "I") (by decide +kernel)) (fun _ h9 => h9) rfl (by decide +kernel) rfl rfl (fun _ _ => rfl) (fun _ _ => Nat.le_of_ble_eq_true rfl) dX2_become_125 (fun H locs hP hS => ?_)
  rw [← eI10] at hP
  refine lv_aload_n hx hb dX2_become_128 rfl (lv_at hl 0 rfl) ?_
  refine lv_aload_n hx hb dX2_become_129 rfl (lv_at hl 1 rfl) ?_
  refine q_get (C := RX2) (T := TX2) (N := 13) (ci := 2) (v := .int (I10 c0 10)) hx hb hts in_X2_become_X2 hown hK hP (oX2 zc0) rfl 10 (by decide) (hts (.fieldLink RX2 55 "RowsOnlyPrimes$Bank" "paid" "I") (by decide +kernel)) (fun _ h9 => h9) rfl dX2_become_130 ?_
  obtain ⟨I11, eI11, hf⟩ := lt_ok hf
  refine q_put (C := RX2) (T := TX2) (N := 13) (ci := 2) (v := .int (I10 c0 10)) (x := (I10 c0 10)) (ty := .int) hx hb hts in_X2_become_X2 tyX2 tyX2_ok nmX2 hown hK hP hN hS (oX2 zb) rfl 10 (by decide) (hts (.fieldLink RX2 55 "RowsOnlyPrimes$Bank" "paid" "I") (by decide +kernel)) (fun _ h9 => h9) rfl (by decide +kernel) rfl rfl (fun _ _ => rfl) (fun _ _ => Nat.le_of_ble_eq_true rfl) dX2_become_133 (fun H locs hP hS => ?_)
  rw [← eI11] at hP
  refine lv_aload_n hx hb dX2_become_136 rfl (lv_at hl 0 rfl) ?_
  refine lv_aload_n hx hb dX2_become_137 rfl (lv_at hl 1 rfl) ?_
  refine q_get (C := RX2) (T := TX2) (N := 13) (ci := 2) (v := .int (I11 c0 11)) hx hb hts in_X2_become_X2 hown hK hP (oX2 zc0) rfl 11 (by decide) (hts (.fieldLink RX2 58 "RowsOnlyPrimes$Bank" "crossings" "I") (by decide +kernel)) (fun _ h9 => h9) rfl dX2_become_138 ?_
  obtain ⟨I12, eI12, hf⟩ := lt_ok hf
  refine q_put (C := RX2) (T := TX2) (N := 13) (ci := 2) (v := .int (I11 c0 11)) (x := (I11 c0 11)) (ty := .int) hx hb hts in_X2_become_X2 tyX2 tyX2_ok nmX2 hown hK hP hN hS (oX2 zb) rfl 11 (by decide) (hts (.fieldLink RX2 58 "RowsOnlyPrimes$Bank" "crossings" "I") (by decide +kernel)) (fun _ h9 => h9) rfl (by decide +kernel) rfl rfl (fun _ _ => rfl) (fun _ _ => Nat.le_of_ble_eq_true rfl) dX2_become_141 (fun H locs hP hS => ?_)
  rw [← eI12] at hP
  refine lv_aload_n hx hb dX2_become_144 rfl (lv_at hl 0 rfl) ?_
  refine lv_aload_n hx hb dX2_become_145 rfl (lv_at hl 1 rfl) ?_
  refine q_get (C := RX2) (T := TX2) (N := 13) (ci := 2) (v := .int (I12 c0 12)) hx hb hts in_X2_become_X2 hown hK hP (oX2 zc0) rfl 12 (by decide) (hts (.fieldLink RX2 33 "RowsOnlyPrimes$Bank" "chance" "I") (by decide +kernel)) (fun _ h9 => h9) rfl dX2_become_146 ?_
  obtain ⟨I13, eI13, hf⟩ := lt_ok hf
  refine q_put (C := RX2) (T := TX2) (N := 13) (ci := 2) (v := .int (I12 c0 12)) (x := (I12 c0 12)) (ty := .int) hx hb hts in_X2_become_X2 tyX2 tyX2_ok nmX2 hown hK hP hN hS (oX2 zb) rfl 12 (by decide) (hts (.fieldLink RX2 33 "RowsOnlyPrimes$Bank" "chance" "I") (by decide +kernel)) (fun _ h9 => h9) rfl (by decide +kernel) rfl rfl (fun _ _ => rfl) (fun _ _ => Nat.le_of_ble_eq_true rfl) dX2_become_149 (fun H locs hP hS => ?_)
  rw [← eI13] at hP
  have e9 := Option.some.inj hf
  have eI9 : I13 = Ie := e9
  exact W.vret hx hb hr (fun t ht _ => ⟨⟨(), rfl, trivial, by show qP D _ ad _ _ _ t.heap; rw [ht, ← eI9]; exact hP⟩, hS.F ht⟩) hS.2.2 dX2_become_152
end
