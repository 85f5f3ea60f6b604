/-! THE CLAIM OUT OF ONE WALK OF THE LAW'S BODY. Your part is whole_start (and what it stands on); all else here is the same for every law, but numbers. -/
def R_law : String := "RowsOnlyPrimesLaw"
def lw_P (b : Addr) (xs : List Int32) (args : Array Value) (s : State) : Prop := args = #[.ref b] ∧ s.IntsAt b xs ∧ xs.length ≤ 3072 ∧ (Jvm.Cond.and given_1 narrow_1).before args s = true
def lw_Q (_ : Array Value) (s : State) (o : Outcome) (t : State) : Prop := o = .returned (some (.int 1)) ∧ Framed s o t [] 600000 7302250
def lw_Z (below : List Frame) (a : Array Value) (s : State) : State → Prop := fun t => ∃ o, t.status = .running ∧ Ended t below o ∧ lw_Q a s o t
/-- the law's own end, with 1 on the stack, nothing written that was there before, its room as the claim has it -/
theorem lw_ret {p : Program} {l : Launch} {e : Env} {s : State} {m : MethodId} {below : List Frame} {meth : Method} {c : Code} {b : Nat} (hx : p.tables.exec = Jvm.exec) (hb : c.code = code) (hr : meth.sig.returnType = ret) (hlocks : meth.locks = false) {pc : Nat} {H : Heap} {ls : Array Slot} (hdg : decode code pc = .ok (.ireturn, 1)) : W p l e room_1 s m #[Value.ref b] below meth c H [] 600000 7302250 (lw_Z below #[Value.ref b] s) (F0 m pc ls [.int 1]) := by
  intro T hT X
  obtain ⟨fs, hret, hrun, hended, hW, hframe⟩ := X.leave (v := some (.int 1)) (hlocks := hlocks) (fun h => by rw [hr] at h; cases h)
  have hmeth' : T.vm.method? m = some meth := X.method'
  refine ⟨T.setFrames fs, ?_, .returned (some (.int 1)), hrun, hended, rfl, ⟨_, rfl⟩, hW, hframe⟩
  jvm_step X.here [X.here.top, hx, hb, hdg, hmeth', hr, ret, narrow_b1]
  (try refine ⟨rfl, ?_⟩); (try refine ⟨rfl, ?_⟩)
  first | (intro acts; rw [hret _ acts rfl rfl rfl]) | rw [hret _ _ rfl rfl rfl]
  exact Steps.refl _
/-- what holds at the law's entry: the machine, the code, the tables' words (any of lw_tbl by 'hts w (by decide +kernel)'), the script of L ints xs at the cell b, what the Statement gives of the start (any of its parts by flat_of_before) -/
def lw_At (p : Program) (s : State) (m : MethodId) (meth : Method) (c : Code) (b L : Nat) (xs : Nat → Int32) : Prop :=
  p.tables.exec = Jvm.exec ∧ c.code = code ∧ meth.sig.returnType = ret ∧ c.maxLocals = 4 ∧ s.vm.findClass R_law = some m.cls ∧ (∀ w ∈ lw_tbl, w.before #[Value.ref b] s = true) ∧ va_X b L xs s s.heap ∧ b < s.heap.size ∧ meth.locks = false ∧ (Jvm.Cond.and given_1 narrow_1).before #[Value.ref b] s = true
/-! the law: one call of each side after the other -/
theorem Rel.jj {t : qF} {I : qI} {J : qJ} {A : qI} {B B' : qJ} (h : Rel t I J A B) (hB : ∀ k j, k < 40 → B' k j = B k j) : Rel t I J A B' := by
  obtain ⟨V, Z, h1, h2, h3, hs, hr, ht⟩ := h
  exact ⟨V, Z, h1, h2, h3, fun s hs8 => (hs s hs8).fr (fun j => rfl) (fun j => rfl) ⟨rfl, rfl, rfl, rfl⟩ (fun j => hB _ j (by omega)), hr, ht⟩
theorem Rel.f27 {t : qF} {I : qI} {J : qJ} {A : qI} {B : qJ} (h : Rel t I J A B) : A 0 27 = t.1 := by
  obtain ⟨V, Z, -, -, -, -, -, ht⟩ := h
  exact ht.1.1
theorem Rel.f26 {t : qF} {I : qI} {J : qJ} {A : qI} {B : qJ} (h : Rel t I J A B) : A 0 26 = t.2 := by
  obtain ⟨V, Z, -, -, -, -, -, ht⟩ := h
  exact ht.1.2
theorem Rel.f4026 {t : qF} {I : qI} {J : qJ} {A : qI} {B : qJ} (h : Rel t I J A B) : A 40 26 = 0 := by
  obtain ⟨V, Z, -, -, -, -, -, ht⟩ := h
  exact ht.2.1.1
theorem Rel.f8027 {t : qF} {I : qI} {J : qJ} {A : qI} {B : qJ} (h : Rel t I J A B) : A 80 27 = 0 := by
  obtain ⟨V, Z, -, -, -, -, -, ht⟩ := h
  exact ht.2.2.2
theorem Rel.f80 {t : qF} {I : qI} {J : qJ} {A : qI} {B : qJ} (h : Rel t I J A B) : A 80 26 = 0 ∧ A 80 27 = 0 := by
  obtain ⟨V, Z, -, -, -, -, -, ht⟩ := h
  exact ht.2.2
theorem Rel.f11 {t : qF} {I : qI} {J : qJ} {A : qI} {B : qJ} (h : Rel t I J A B) : I 0 11 = t.2 := by
  obtain ⟨V, Z, -, hk, -, -, -, ht⟩ := h
  exact hk.1.symm.trans ht.1.2
theorem s_bankA {a b1 : Bool} {I : qI} {J : qJ} {A : qI} {B : qJ} (h : Rel (b2i a, b2i b1) I J A B) : ∃ r I1 A1, f_X8_bank I = some (r, I1) ∧ f_X9_bank_18 (tdI a A) = some (r, A1) ∧ Rel (b2i true, b2i b1) I1 J A1 (tdJ a B) := by
  cases a with
  | true => exact s_bankT h (show ¬ A 0 27 = 0 by rw [h.f27]; exact show ¬ b2i true = 0 by decide)
  | false =>
    have h1 : Rel (1, b2i b1) I J (qu (blkI 40 A) 0 27 1) B := h.flag qu_s (by rw [qu_i (by decide), blkI_out (by decide)]) ⟨by rw [qu_k (by decide)]; exact congrFun (blkI_in (j := 0) (by decide)) 26, by rw [qu_k (by decide)]; exact congrFun (blkI_in (j := 0) (by decide)) 27⟩ (fun k j hq hk => by rw [qu_o (by omega), blkI_out (by omega)])
    exact s_bankT (h1.jj (B' := blkJ 40 B) (fun k j hk => by rw [blkJ_out (by omega)])) (by rw [show tdI false A = qu (blkI 40 A) 0 27 1 from rfl, qu_s]; decide)
theorem s_imageA {a b1 : Bool} {I : qI} {J : qJ} {A : qI} {B : qJ} (h : Rel (b2i a, b2i b1) I J A B) : ∃ r I1 A1, f_X8_image I = some (r, I1) ∧ f_X9_image_18 (kdI b1 A) = some (r, A1) ∧ Rel (b2i a, b2i true) I1 J A1 (kdJ b1 B) := by
  cases b1 with
  | true => exact s_imageT h h.f26 h.f80 (fun _ _ _ _ => rfl)
  | false =>
    exact s_imageT (A := qu (blkI 80 A) 0 26 1) (h.jj (B' := blkJ 80 B) (fun k j hk => by rw [blkJ_out (by omega)])) qu_s ⟨by rw [qu_k (by decide)]; exact congrFun (blkI_in (j := 0) (by decide)) 26, by rw [qu_k (by decide)]; exact congrFun (blkI_in (j := 0) (by decide)) 27⟩ (fun k j hq hk => by rw [qu_o (by omega), blkI_out (by omega)])
theorem s_backA {a b1 : Bool} {I : qI} {J : qJ} {A : qI} {B : qJ} (h : Rel (b2i a, b2i b1) I J A B) : ∃ r I1 A1, f_X8_back I = some (r, I1) ∧ bkV A = some (r, A1) ∧ Rel (b2i a, b2i b1) I1 J A1 B := by
  unfold bkV
  rw [h.f26]
  cases b1 with
  | true =>
    rw [if_neg (show ¬ b2i true = 0 by decide)]
    exact s_backT h (by rw [h.f11]; exact show ¬ b2i true = 0 by decide)
  | false =>
    rw [if_pos (show b2i false = 0 from rfl)]
    exact s_back0 h h.f11
/-- both worlds stand, apart from each other, and what was there before is as it was -/
def lwW (s : State) (D : va_G) (cy : Nat → ClassId) (adX adM : Nat → Nat) (a b1 : Bool) (I : qI) (J : qJ) (A : qI) (B : qJ) (H : Heap) : Prop :=
  (qP D xS adX (eX adX cy) I J H ∧ qN xS adX ∧ ∀ k, xS k → s.heap.size ≤ adX k) ∧ (qP D (mS a b1) adM (eM adM cy) A B H ∧ qN (mS a b1) adM ∧ ∀ k, mS a b1 k → s.heap.size ≤ adM k) ∧ (∀ j k, xS j → mS a b1 k → adX j ≠ adM k) ∧ s.heap.size ≤ H.size ∧ ∀ q : Nat, q < s.heap.size → H[q]? = s.heap[q]?
def lwC (p : Program) (s : State) (m : MethodId) (c : Code) (b L : Nat) (xs : Nat → Int32) (D : va_G) (cy : Nat → ClassId) (sa va : Nat → Nat) : Prop :=
  (p.tables.exec = Jvm.exec ∧ c.code = cL_law ∧ c.maxLocals = 4 ∧ s.vm.findClass RL = some m.cls ∧ ∀ w ∈ wsL_law, w.before #[Value.ref b] s = true) ∧ (va_X b L xs s s.heap ∧ b < s.heap.size) ∧ qK D cy sa s ∧ qEnv sa va (fun q => s.heap.size ≤ q) s s.heap ∧ qMk s
def lwI (i : Int32) (L : Nat) : Prop := vp_in (i + 1) L ∧ vp_in (i + 2) L ∧ vp_in (i + 3) L ∧ vp_in (i + 4) L ∧ vp_in (i + 5) L
theorem lg_cmp_self (r : Int64) : lg_cmp r r = 0 := by
  unfold lg_cmp
  simp
section LW
variable {p : Program} {l : Launch} {e : Env} {R : Room} {s : State} {m : MethodId} {args : Array Value} {below : List Frame} {meth : Method} {c : Code} {H : Heap} {cells slots : Nat} {Q : State → Prop}
variable {pc : Nat} {ls : Array Slot} {rest st0 : List Value} {a0 : Array Value} {b L : Nat} {xs : Nat → Int32} {cc : ByteArray}
variable {D : va_G} {cy : Nat → ClassId} {sa va adX adM : Nat → Nat} {a b1 : Bool} {I I1 : qI} {J J1 : qJ} {A A1 : qI} {B B1 : qJ}
theorem lw_rm0 (hc : cells + 40 ≤ 600000 ∧ slots + 4180 ≤ 7302250) : cells + 0 ≤ room_1.cells ∧ slots + 0 ≤ room_1.slots := ⟨Nat.le_trans (Nat.add_le_add_left (Nat.zero_le 40) cells) hc.1, Nat.le_trans (Nat.add_le_add_left (Nat.zero_le 4180) slots) hc.2⟩
theorem lw_rm1 (hc : cells + 40 ≤ 600000 ∧ slots + 4180 ≤ 7302250) : cells + 40 ≤ room_1.cells ∧ slots + 4180 ≤ room_1.slots := hc
theorem lwW.S (hw : lwW s D cy adX adM a b1 I J A B H) : va_S (fun q => s.heap.size ≤ q) s.heap H [] := ⟨hw.2.2.2.1, fun q h _ => hw.2.2.2.2 q h, fun _ h => by cases h⟩
theorem lw_preX (hK : qK D cy sa s) (hE : qEnv sa va (fun q => s.heap.size ≤ q) s s.heap) (hw : lwW s D cy adX adM a b1 I J A B H) : ∀ U : State, U.heap = H → s.WarmedH U.vm → qPre D xS adX cy sa va (eX adX cy) I J U := by
  intro U hU hW
  refine ⟨by rw [hU]; exact hw.1.1, hK.warm hW, ?_, hw.1.2.1⟩
  rw [hU]
  exact (((hE.kept (fun q h _ => hw.2.2.2.2 q h)).narrow (fun q h => by obtain ⟨k, h1, rfl⟩ := h; exact hw.1.2.2 k h1)).moved hW.alike)
theorem lw_preM (hK : qK D cy sa s) (hE : qEnv sa va (fun q => s.heap.size ≤ q) s s.heap) (hw : lwW s D cy adX adM a b1 I J A B H) : ∀ U : State, U.heap = H → s.WarmedH U.vm → qPre D (mS a b1) adM cy sa va (eM adM cy) A B U := by
  intro U hU hW
  refine ⟨by rw [hU]; exact hw.2.1.1, hK.warm hW, ?_, hw.2.1.2.1⟩
  rw [hU]
  exact (((hE.kept (fun q h _ => hw.2.2.2.2 q h)).narrow (fun q h => by obtain ⟨k, h1, rfl⟩ := h; exact hw.2.1.2.2 k h1)).moved hW.alike)
theorem lw_preN (hK : qK D cy sa s) (hE : qEnv sa va (fun q => s.heap.size ≤ q) s s.heap) (hM : qMk s) (hw : lwW s D cy adX adM a b1 I J A B H) : ∀ U : State, U.heap = H → s.WarmedH U.vm → mPre D (mS a b1) adM cy sa va H.size A B U := fun U hU hW => ⟨lw_preM hK hE hw U hU hW, hM.moved hW.alike, by rw [hU]⟩
theorem lw_x {r : Int32} (hr : va_Run p l e R s m args below meth c H [] cells slots 0 0 (F0 m pc ls st0) rest (va_Qi (S := Unit) (fun x _ => x = r) (fun _ t => qP D xS adX (eX adX cy) I1 J1 t.heap) (qA xS adX) a0) (qA xS adX)) (hw : lwW s D cy adX adM a b1 I J A B H)
    (kk : ∀ H1 : Heap, lwW s D cy adX adM a b1 I1 J1 A B H1 → W p l e R s m args below meth c H1 [] cells slots Q (F0 m (pc + 3) ls (.int r :: rest))) : W p l e R s m args below meth c H [] cells slots Q (F0 m pc ls st0) := by
  obtain ⟨⟨x1, x2, x3⟩, ⟨m1, m2, m3⟩, hd, hz, hk⟩ := hw
  refine va_calli (A0 := fun q => s.heap.size ≤ q) (H0 := s.heap) hr ⟨hz, fun q h _ => hk q h, fun _ h => by cases h⟩ (fun q _ h => by obtain ⟨k, h1, rfl⟩ := h; exact x3 k h1) (fun q h => by obtain ⟨k, h1, rfl⟩ := h; exact x3 k h1) (fun r' u t H1 locs1 ht _ hp hq g1 g2 hs => ?_)
  subst hp
  subst ht
  refine va_forget hs.2.2 (kk _ ⟨⟨hq, x2, x3⟩, ⟨m1.kept (fun q h1 h2 => ?_), m2, m3⟩, hd, hs.1, fun q h => hs.2.1 q h (Nat.not_le.mpr h)⟩)
  obtain ⟨k, h3, rfl⟩ := h2
  exact g2 _ h1 (fun z => by obtain ⟨j, h4, h5⟩ := z; exact hd j k h4 h3 h5.symm)
theorem lw_m {r : Int32} (hr : va_Run p l e R s m args below meth c H [] cells slots 0 0 (F0 m pc ls st0) rest (va_Qi (S := Unit) (fun x _ => x = r) (fun _ t => qP D (mS a b1) adM (eM adM cy) A1 B1 t.heap) (qA (mS a b1) adM) a0) (qA (mS a b1) adM)) (hw : lwW s D cy adX adM a b1 I J A B H)
    (kk : ∀ H1 : Heap, lwW s D cy adX adM a b1 I J A1 B1 H1 → W p l e R s m args below meth c H1 [] cells slots Q (F0 m (pc + 3) ls (.int r :: rest))) : W p l e R s m args below meth c H [] cells slots Q (F0 m pc ls st0) := by
  obtain ⟨⟨x1, x2, x3⟩, ⟨m1, m2, m3⟩, hd, hz, hk⟩ := hw
  refine va_calli (A0 := fun q => s.heap.size ≤ q) (H0 := s.heap) hr ⟨hz, fun q h _ => hk q h, fun _ h => by cases h⟩ (fun q _ h => by obtain ⟨k, h1, rfl⟩ := h; exact m3 k h1) (fun q h => by obtain ⟨k, h1, rfl⟩ := h; exact m3 k h1) (fun r' u t H1 locs1 ht _ hp hq g1 g2 hs => ?_)
  subst hp
  subst ht
  refine va_forget hs.2.2 (kk _ ⟨⟨x1.kept (fun q h1 h2 => ?_), x2, x3⟩, ⟨hq, m2, m3⟩, hd, hs.1, fun q h => hs.2.1 q h (Nat.not_le.mpr h)⟩)
  obtain ⟨j, h3, rfl⟩ := h2
  exact g2 _ h1 (fun z => by obtain ⟨k, h4, h5⟩ := z; exact hd j k h3 h4 h5)
theorem lw_n {r : Int32} {a2 b2 : Bool} (hr : va_Run p l e R s m args below meth c H [] cells slots 40 4180 (F0 m pc ls st0) rest (va_Qi (S := Nat → Nat) (fun x _ => x = r) (fun ad1 t => mNew D (mS a b1) (mS a2 b2) adM ad1 cy H.size A1 B1 t.heap) (fun q => qA (mS a b1) adM q ∨ H.size ≤ q) a0) (fun q => qA (mS a b1) adM q ∨ H.size ≤ q)) (hw : lwW s D cy adX adM a b1 I J A B H)
    (kk : ∀ (H1 : Heap) (ad1 : Nat → Nat), ad1 0 = adM 0 → lwW s D cy adX ad1 a2 b2 I J A1 B1 H1 → W p l e R s m args below meth c H1 [] (cells + 40) (slots + 4180) Q (F0 m (pc + 3) ls (.int r :: rest))) : W p l e R s m args below meth c H [] cells slots Q (F0 m pc ls st0) := by
  obtain ⟨⟨x1, x2, x3⟩, ⟨m1, m2, m3⟩, hd, hz, hk⟩ := hw
  have hA : ∀ q, (qA (mS a b1) adM q ∨ H.size ≤ q) → s.heap.size ≤ q := fun q h => by
    rcases h with ⟨k, h1, rfl⟩ | h
    · exact m3 k h1
    · exact Nat.le_trans hz h
  refine va_calli (A0 := fun q => s.heap.size ≤ q) (H0 := s.heap) hr ⟨hz, fun q h _ => hk q h, fun _ h => by cases h⟩ (fun q _ h => hA q h) hA (fun r' ad1 t H1 locs1 ht _ hp hq g1 g2 hs => ?_)
  subst hp
  subst ht
  obtain ⟨n1, n2, n3, n4⟩ := hq
  refine va_forget hs.2.2 (kk _ ad1 n3 ⟨⟨x1.kept (fun q h1 h2 => ?_), x2, x3⟩, ⟨n1, n2, fun k h => hA _ (n4 k h)⟩, fun j k h1 h2 h3 => ?_, hs.1, fun q h => hs.2.1 q h (Nat.not_le.mpr h)⟩)
  · obtain ⟨j, h3, rfl⟩ := h2
    refine g2 _ h1 (fun z => ?_)
    rcases z with ⟨k, h4, h5⟩ | z
    · exact hd j k h3 h4 h5
    · omega
  · rcases n4 k h2 with ⟨k2, h4, h5⟩ | h4
    · exact hd j k2 h1 h4 (h3.trans h5)
    · have := (x1 j h1).lt
      have h6 : adX j < H.size := this
      omega
/-- one int of the script -/
theorem lw_ld {i : Int32} {n : Int} {v : Int32} (hx : p.tables.exec = Jvm.exec) (hb : c.code = cc) (hX : va_X b L xs s s.heap) (hbl : b < s.heap.size) (hw : lwW s D cy adX adM a b1 I J A B H) (hl : lv_has ls 4 [(3, .int i), (2, .ref (adM 0)), (1, .ref (adX 0)), (0, .ref b)]) (d0 : decode cc pc = .ok (.aload_n 0, 1)) (d1 : decode cc (pc + 1) = .ok (.iload_n 3, 1)) (d2 : decode cc (pc + 1 + 1) = .ok (.iconst n, 1)) (hv : Int32.ofInt n = v) (d3 : decode cc (pc + 1 + 1 + 1) = .ok (.iadd, 1)) (d4 : decode cc (pc + 1 + 1 + 1 + 1) = .ok (.iaload, 1)) (hin : vp_in (i + v) L)
    (kk : W p l e R s m args below meth c H [] cells slots Q (F0 m (pc + 1 + 1 + 1 + 1 + 1) ls (.int (xs (i + v).toNatClampNeg) :: rest))) : W p l e R s m args below meth c H [] cells slots Q (F0 m pc ls rest) := by
  refine lv_aload_n hx hb d0 rfl (lv_at hl 3 rfl) ?_
  refine lv_iload_n hx hb d1 rfl (lv_at hl 0 rfl) ?_
  refine lv_iconst (v := v) hx hb d2 hv ?_
  refine lv_iadd hx hb d3 ?_
  exact va_sld hx hb hX hbl (Nat.not_le.mpr hbl) hw.S hin d4 kk
end LW
