/-! My own layer: a world is a set S of cell numbers, each at its own address (ad), each holding what ee tells of one memory of ints (I) and longs (J). -/
abbrev qI : Type := Nat → Nat → Int32
abbrev qJ : Type := Nat → Nat → Int64
def qu (I : qI) (k i : Nat) (v : Int32) : qI := fun a => if a = k then upd (I a) i v else I a
def quL (J : qJ) (k i : Nat) (v : Int64) : qJ := fun a => if a = k then vp_updL (J a) i v else J a
def quR (I : qI) (k : Nat) (f : Nat → Int32) : qI := fun a => if a = k then f else I a
def quRL (J : qJ) (k : Nat) (f : Nat → Int64) : qJ := fun a => if a = k then f else J a
abbrev qE : Type := Nat → (Nat → Int32) → (Nat → Int64) → va_E
def qP (D : va_G) (S : Nat → Prop) (ad : Nat → Nat) (ee : qE) (I : qI) (J : qJ) (H : Heap) : Prop := ∀ k, S k → va_at D vwCl (ad k, ee k (I k) (J k)) H
def qA (S : Nat → Prop) (ad : Nat → Nat) : Nat → Prop := fun q => ∃ k, S k ∧ q = ad k
def qN (S : Nat → Prop) (ad : Nat → Nat) : Prop := ∀ j k, S j → S k → ad j = ad k → j = k
/-- the shapes of cells -/
def qAI (S : Nat → Prop) (ee : qE) (cy : Nat → ClassId) (k n : Nat) : Prop := S k ∧ ∀ f g, ee k f g = .inl (cy 0, n, .inl f)
def qAJ (S : Nat → Prop) (ee : qE) (cy : Nat → ClassId) (k n : Nat) : Prop := S k ∧ ∀ f g, ee k f g = .inl (cy 1, n, .inr (.inl g))
def qAZ (S : Nat → Prop) (ee : qE) (cy : Nat → ClassId) (k n : Nat) : Prop := S k ∧ ∀ f g, ee k f g = .inl (cy 2, n, .inl f)
def qAR (S : Nat → Prop) (ee : qE) (cy : Nat → ClassId) (ad : Nat → Nat) (t k n : Nat) (rf : Nat → Nat) : Prop := S k ∧ ∀ f g, ee k f g = .inl (cy t, n, .inr (.inr (.inr (.inr (fun i => some (ad (rf i)))))))
def qO (S : Nat → Prop) (ee : qE) (k ci : Nat) (fl : (Nat → Int32) → (Nat → Int64) → List Value) : Prop := S k ∧ ∀ f g, ee k f g = .inr (ci, fl f g)
/-- the array classes -/
abbrev qT (cy : Nat → ClassId) : List (ClassId × FieldType) := [(cy 0, .int), (cy 1, .long), (cy 2, .boolean), (cy 3, .object "RowsOnlyPrimes$Shelf"), (cy 4, .array .int), (cy 5, .array .long), (cy 6, .array .boolean)]
/-- private members of nest mates that the tables speak of -/
def qNest (U : State) : Prop :=
  (va_Nw (.methodLinkNest RX8 24 yX7_init RX8) U ∧ va_Nw (.methodLinkNest RX8 41 yX5_init RX8) U ∧ va_Nw (.methodLinkNest RX8 48 yX4_init RX8) U ∧ va_Nw (.methodLinkNest RX8 55 yX1_init RX8) U ∧ va_Nw (.methodLinkNest RX8 62 yX0_init RX8) U ∧ va_Nw (.methodLinkNest RX8 69 yX3_init RX8) U ∧ va_Nw (.methodLinkNest RX8 74 yX6_init RX8) U) ∧
  (va_Nw (.methodLinkNest RX6 19 yX8_within RX8) U ∧ va_Nw (.methodLinkNest RX2 65 yX8_within RX8) U ∧ va_Nw (.methodLinkNest RX2 77 yX8_has RX8) U ∧ va_Nw (.methodLinkNest RX7 19 yX8_within RX8) U) ∧
  (va_Nw (.fieldLinkNest RX2 37 RX8 "TOLD_FIRST" "[I" RX8) U ∧ va_Nw (.fieldLinkNest RX7 93 RX8 "TOLD_LEAST" "[I" RX8) U ∧ va_Nw (.fieldLinkNest RX7 96 RX8 "TOLD_MOST" "[I" RX8) U)
theorem qNest.warm {s U : State} (hW : s.WarmedH U.vm) (h : qNest s) : qNest U := by
  obtain ⟨⟨a1, a2, a3, a4, a5, a6, a7⟩, ⟨b1, b2, b3, b4⟩, ⟨c1, c2, c3⟩⟩ := h
  exact ⟨⟨a1.warmM hW, a2.warmM hW, a3.warmM hW, a4.warmM hW, a5.warmM hW, a6.warmM hW, a7.warmM hW⟩, ⟨b1.warmM hW, b2.warmM hW, b3.warmM hW, b4.warmM hW⟩, ⟨c1.warmF hW, c2.warmF hW, c3.warmF hW⟩⟩
theorem qNest.same {s U : State} (h0 : s.vm = U.vm) (h : qNest s) : qNest U := by
  obtain ⟨⟨a1, a2, a3, a4, a5, a6, a7⟩, ⟨b1, b2, b3, b4⟩, ⟨c1, c2, c3⟩⟩ := h
  exact ⟨⟨a1.same rfl h0, a2.same rfl h0, a3.same rfl h0, a4.same rfl h0, a5.same rfl h0, a6.same rfl h0, a7.same rfl h0⟩, ⟨b1.same rfl h0, b2.same rfl h0, b3.same rfl h0, b4.same rfl h0⟩, ⟨c1.same rfl h0, c2.same rfl h0, c3.same rfl h0⟩⟩
/-- the class's constant arrays -/
def qTab0 : List Int32 := [-1, 0, 0, 1, 2, 0]
def qTab1 : List Int32 := [13, 0, 3, 3, 2]
def qTab2 : List Int32 := [1, 0, 0, 0, 0]
def qTab3 : List Int32 := [99, 3, 3, 9, 9]
def qSt (f : String) (tab : List Int32) (A : Nat → Prop) (U : State) (H : Heap) : Prop := ∃ t : Nat, va_Z RX8 f "[I" (.ref t) A U H ∧ va_T .int t tab.length (fun j => .int (tab.getD j 0)) A U H
theorem qSt.moved {f : String} {tab : List Int32} {A : Nat → Prop} {u U : State} {H : Heap} (hvm : u.vm.Alike U.vm) (h : qSt f tab A u H) : qSt f tab A U H := by
  obtain ⟨t, h1, h2⟩ := h
  exact ⟨t, h1.moved hvm, h2.moved hvm⟩
theorem qSt.kept {f : String} {tab : List Int32} {A : Nat → Prop} {U : State} {H H1 : Heap} (h : qSt f tab A U H) (hq : ∀ a : Nat, a < H.size → ¬ A a → H1[a]? = H[a]?) : qSt f tab A U H1 := by
  obtain ⟨t, h1, h2⟩ := h
  exact ⟨t, h1.kept hq, h2.kept hq⟩
theorem qSt.narrow {f : String} {tab : List Int32} {A B : Nat → Prop} {U : State} {H : Heap} (h : qSt f tab A U H) (hAB : ∀ q, B q → A q) : qSt f tab B U H := by
  obtain ⟨t, h1, h2⟩ := h
  exact ⟨t, h1.narrow hAB, h2.narrow hAB⟩
/-- the texts -/
def qWordL : List (List Int32) := [[112, 97, 114, 116, 121], [116, 105, 101], [115, 104, 117, 110], [102, 114, 101, 101], [115, 101, 97, 116, 115], [108, 97, 119], [114, 117, 108, 101], [104, 101, 114, 109, 105, 116, 115], [99, 111, 115, 116]]
def qWs (sa va : Nat → Nat) (A : Nat → Prop) (U : State) (H : Heap) : Prop := vk_S 9 (qWordL.map List.length) qWordL sa va A U H
/-- what stays of the surroundings: constant arrays and texts (nobody writes them) -/
def qEnv (sa va : Nat → Nat) (A : Nat → Prop) (U : State) (H : Heap) : Prop := (qSt "KIND_ABOVE" qTab0 A U H ∧ qSt "TOLD_FIRST" qTab1 A U H ∧ qSt "TOLD_LEAST" qTab2 A U H ∧ qSt "TOLD_MOST" qTab3 A U H) ∧ qWs sa va A U H ∧
  (va_Z "java/lang/String" "COMPACT_STRINGS" "Z" (.int 1) A U H ∧ va_Zq "jdk/internal/util/Preconditions" "SIOOBE_FORMATTER" "Ljava/util/function/BiFunction;" A U H)
theorem qEnv.moved {sa va : Nat → Nat} {A : Nat → Prop} {u U : State} {H : Heap} (hvm : u.vm.Alike U.vm) (h : qEnv sa va A u H) : qEnv sa va A U H := ⟨⟨h.1.1.moved hvm, h.1.2.1.moved hvm, h.1.2.2.1.moved hvm, h.1.2.2.2.moved hvm⟩, vk_S.moved hvm h.2.1, h.2.2.1.moved hvm, h.2.2.2.moved hvm⟩
theorem qEnv.kept {sa va : Nat → Nat} {A : Nat → Prop} {U : State} {H H1 : Heap} (h : qEnv sa va A U H) (hq : ∀ a : Nat, a < H.size → ¬ A a → H1[a]? = H[a]?) : qEnv sa va A U H1 := ⟨⟨h.1.1.kept hq, h.1.2.1.kept hq, h.1.2.2.1.kept hq, h.1.2.2.2.kept hq⟩, vk_S.kept h.2.1 hq, h.2.2.1.kept hq, h.2.2.2.kept hq⟩
theorem qEnv.narrow {sa va : Nat → Nat} {A B : Nat → Prop} {U : State} {H : Heap} (h : qEnv sa va A U H) (hAB : ∀ q, B q → A q) : qEnv sa va B U H := ⟨⟨h.1.1.narrow hAB, h.1.2.1.narrow hAB, h.1.2.2.1.narrow hAB, h.1.2.2.2.narrow hAB⟩, vk_S.narrow h.2.1 hAB, h.2.2.1.narrow hAB, h.2.2.2.narrow hAB⟩
def qWR (sa : Nat → Nat) (U : State) : Prop :=
  (vk_R RX7 40 "party" (sa 0) U ∧ vk_R RX7 49 "tie" (sa 1) U ∧ vk_R RX7 55 "shun" (sa 2) U ∧ vk_R RX7 57 "free" (sa 3) U ∧ vk_R RX7 59 "seats" (sa 4) U ∧ vk_R RX7 64 "law" (sa 5) U ∧ vk_R RX7 66 "rule" (sa 6) U ∧ vk_R RX7 68 "hermits" (sa 7) U ∧ vk_R RX7 70 "cost" (sa 8) U) ∧
  (vk_R RX9 209 "party" (sa 0) U ∧ vk_R RX9 218 "tie" (sa 1) U ∧ vk_R RX9 223 "shun" (sa 2) U ∧ vk_R RX9 225 "free" (sa 3) U ∧ vk_R RX9 227 "seats" (sa 4) U ∧ vk_R RX9 231 "law" (sa 5) U ∧ vk_R RX9 232 "rule" (sa 6) U ∧ vk_R RX9 233 "hermits" (sa 7) U ∧ vk_R RX9 234 "cost" (sa 8) U)
theorem qWR.warm {sa : Nat → Nat} {s U : State} (hW : s.WarmedH U.vm) (h : qWR sa s) : qWR sa U := by
  obtain ⟨⟨a0, a1, a2, a3, a4, a5, a6, a7, a8⟩, ⟨b0, b1, b2, b3, b4, b5, b6, b7, b8⟩⟩ := h
  exact ⟨⟨a0.warm hW, a1.warm hW, a2.warm hW, a3.warm hW, a4.warm hW, a5.warm hW, a6.warm hW, a7.warm hW, a8.warm hW⟩, ⟨b0.warm hW, b1.warm hW, b2.warm hW, b3.warm hW, b4.warm hW, b5.warm hW, b6.warm hW, b7.warm hW, b8.warm hW⟩⟩
theorem qWR.same {sa : Nat → Nat} {s U : State} (h0 : s.vm = U.vm) (h : qWR sa s) : qWR sa U := by
  obtain ⟨⟨a0, a1, a2, a3, a4, a5, a6, a7, a8⟩, ⟨b0, b1, b2, b3, b4, b5, b6, b7, b8⟩⟩ := h
  exact ⟨⟨a0.same h0.symm, a1.same h0.symm, a2.same h0.symm, a3.same h0.symm, a4.same h0.symm, a5.same h0.symm, a6.same h0.symm, a7.same h0.symm, a8.same h0.symm⟩, ⟨b0.same h0.symm, b1.same h0.symm, b2.same h0.symm, b3.same h0.symm, b4.same h0.symm, b5.same h0.symm, b6.same h0.symm, b7.same h0.symm, b8.same h0.symm⟩⟩
/-- what a method knows of the tables, beside its words -/
def qK (D : va_G) (cy : Nat → ClassId) (sa : Nat → Nat) (U : State) : Prop := va_K D vwCl (qT cy) U ∧ qNest U ∧ qWR sa U
theorem qK.warm {D : va_G} {cy : Nat → ClassId} {sa : Nat → Nat} {s U : State} (hW : s.WarmedH U.vm) (h : qK D cy sa s) : qK D cy sa U := ⟨va_K.moved hW.alike h.1, h.2.1.warm hW, h.2.2.warm hW⟩
theorem qK.same {D : va_G} {cy : Nat → ClassId} {sa : Nat → Nat} {s U : State} (h0 : s.vm = U.vm) (h : qK D cy sa s) : qK D cy sa U := ⟨va_K.moved (by rw [h0]; exact Vm.Alike.refl _) h.1, h.2.1.same h0, h.2.2.same h0⟩
/-- a method's start, beside its arguments -/
def qPre (D : va_G) (S : Nat → Prop) (ad : Nat → Nat) (cy : Nat → ClassId) (sa va : Nat → Nat) (ee : qE) (I : qI) (J : qJ) (U : State) : Prop :=
  qP D S ad ee I J U.heap ∧ qK D cy sa U ∧ qEnv sa va (qA S ad) U U.heap ∧ qN S ad
section Q0
variable {D : va_G} {S : Nat → Prop} {ad : Nat → Nat} {cy : Nat → ClassId} {sa va : Nat → Nat} {ee : qE} {I : qI} {J : qJ} {s : State} {H : Heap} {locs : List Loc}
theorem qPre_of (hP : qP D S ad ee I J H) (hK : qK D cy sa s) (hE : qEnv sa va (qA S ad) s s.heap) (hN : qN S ad) (hS : va_S (qA S ad) s.heap H locs) : ∀ U : State, U.heap = H → s.WarmedH U.vm → qPre D S ad cy sa va ee I J U := by
  intro U hU hW
  refine ⟨by rw [hU]; exact hP, hK.warm hW, ?_, hN⟩
  rw [hU]
  exact (hE.kept hS.2.1).moved hW.alike
theorem qPre_blind (av : List Value) : FrameBlind (va_Pc av (qPre D S ad cy sa va ee I J)) := by
  intro a U g mk q
  obtain ⟨q0, h1, h2, h3, h4⟩ := q
  exact ⟨q0, h1, h2.same (s := U) (U := U.calling g mk a) rfl, h3.moved (u := U) (U := U.calling g mk a) (Vm.Alike.refl U.vm), h4⟩
theorem qP.kept {H1 : Heap} (h : qP D S ad ee I J H) (hq : ∀ q : Nat, q < H.size → qA S ad q → H1[q]? = H[q]?) : qP D S ad ee I J H1 := fun k hk => (h k hk).kept (hq (ad k) (h k hk).lt ⟨k, hk, rfl⟩)
theorem qP.one (h : qP D S ad ee I J H) {k : Nat} (hk : S k) {e : va_E} (he : ee k (I k) (J k) = e) : va_P D vwCl [(ad k, e)] H := by
  intro i q hq
  have hi : i < 1 := (List.getElem?_eq_some_iff.mp hq).1
  rw [show i = 0 by omega] at hq
  cases hq
  rw [← he]
  exact h k hk
theorem qP.setI (h : qP D S ad ee I J H) {H1 : Heap} {k i : Nat} {x : Int32} (hN : qN S ad) (hk : S k) (he : va_at D vwCl (ad k, ee k (upd (I k) i x) (J k)) H1) (oq : ∀ q : Nat, q ≠ ad k → H1[q]? = H[q]?) : qP D S ad ee (qu I k i x) J H1 := by
  intro j hj
  by_cases e : j = k
  · subst e
    have : qu I j i x j = upd (I j) i x := by simp [qu]
    rw [this]
    exact he
  · have : qu I k i x j = I j := by simp [qu, e]
    rw [this]
    exact (h j hj).kept (oq (ad j) (fun z => e (hN j k hj hk z)))
theorem qP.setJ (h : qP D S ad ee I J H) {H1 : Heap} {k i : Nat} {x : Int64} (hN : qN S ad) (hk : S k) (he : va_at D vwCl (ad k, ee k (I k) (vp_updL (J k) i x)) H1) (oq : ∀ q : Nat, q ≠ ad k → H1[q]? = H[q]?) : qP D S ad ee I (quL J k i x) H1 := by
  intro j hj
  by_cases e : j = k
  · subst e
    have : quL J j i x j = vp_updL (J j) i x := by simp [quL]
    rw [this]
    exact he
  · have : quL J k i x j = J j := by simp [quL, e]
    rw [this]
    exact (h j hj).kept (oq (ad j) (fun z => e (hN j k hj hk z)))
theorem qP.setR (h : qP D S ad ee I J H) {H1 : Heap} {k : Nat} {f : Nat → Int32} (hN : qN S ad) (hk : S k) (he : va_at D vwCl (ad k, ee k f (J k)) H1) (oq : ∀ q : Nat, q ≠ ad k → H1[q]? = H[q]?) : qP D S ad ee (quR I k f) J H1 := by
  intro j hj
  by_cases e : j = k
  · subst e
    have : quR I j f j = f := by simp [quR]
    rw [this]
    exact he
  · have : quR I k f j = I j := by simp [quR, e]
    rw [this]
    exact (h j hj).kept (oq (ad j) (fun z => e (hN j k hj hk z)))
theorem qP.setRL (h : qP D S ad ee I J H) {H1 : Heap} {k : Nat} {f : Nat → Int64} (hN : qN S ad) (hk : S k) (he : va_at D vwCl (ad k, ee k (I k) f) H1) (oq : ∀ q : Nat, q ≠ ad k → H1[q]? = H[q]?) : qP D S ad ee I (quRL J k f) H1 := by
  intro j hj
  by_cases e : j = k
  · subst e
    have : quRL J j f j = f := by simp [quRL]
    rw [this]
    exact he
  · have : quRL J k f j = J j := by simp [quRL, e]
    rw [this]
    exact (h j hj).kept (oq (ad j) (fun z => e (hN j k hj hk z)))
end Q0
/-- the pieces that a method's value is made of -/
def gd {α : Type} (c : Prop) [Decidable c] (x : Option α) : Option α := if c then x else none
def lt {α β : Type} (x : α) (f : α → β) : β := f x
theorem gd_ok {α : Type} {c : Prop} [Decidable c] {x : Option α} {y : α} (h : gd c x = some y) : c ∧ x = some y := by
  unfold gd at h
  by_cases hc : c
  · rw [if_pos hc] at h; exact ⟨hc, h⟩
  · rw [if_neg hc] at h; cases h
theorem lt_ok {α β : Type} {x : α} {f : α → β} {y : β} (h : lt x f = y) : ∃ z, z = x ∧ f z = y := ⟨x, rfl, h⟩
theorem if_ok {α : Type} {c : Prop} [Decidable c] {x y z : α} (h : (if c then x else y) = z) : (c → x = z) ∧ (¬ c → y = z) := ⟨fun hc => by rw [if_pos hc] at h; exact h, fun hc => by rw [if_neg hc] at h; exact h⟩
abbrev qin (i : Int32) (n : Nat) : Prop := ¬ (i < 0 ∨ n ≤ i.toNatClampNeg)
/-- a method's surroundings -/
def qC (p : Program) (s : State) (m : MethodId) (args : Array Value) (meth : Method) (c : Code) (cc : ByteArray) (nL : Nat) (own : String) (Ts : List Cond) (ret : Option FieldType) : Prop :=
  (p.tables.exec = Jvm.exec ∧ c.code = cc ∧ c.maxLocals = nL ∧ s.vm.findClass own = some m.cls ∧ ∀ w ∈ Ts, w.before args s = true) ∧ meth.sig.returnType = ret ∧ meth.locks = false
section Q1
variable {p : Program} {l : Launch} {e : Env} {R : Room} {s : State} {m : MethodId} {args : Array Value} {below : List Frame} {meth : Method} {c : Code} {H : Heap} {locs : List Loc} {cells slots : Nat} {Q : State → Prop}
variable {cc : ByteArray} {pc : Nat} {ls : Array Slot} {rest st0 : List Value} {H0 : Heap} {a : Array Value}
variable {D : va_G} {S : Nat → Prop} {ad : Nat → Nat} {cy : Nat → ClassId} {sa va : Nat → Nat} {ee : qE} {I I1 : qI} {J J1 : qJ}
theorem q_top {x y : Int32} (ev : y = x) (k : W p l e R s m args below meth c H locs cells slots Q (F0 m pc ls (.int y :: rest))) : W p l e R s m args below meth c H locs cells slots Q (F0 m pc ls (.int x :: rest)) := by
  rw [← ev]; exact k
theorem q_topl {x y : Int64} (ev : y = x) (k : W p l e R s m args below meth c H locs cells slots Q (F0 m pc ls (.long y :: rest))) : W p l e R s m args below meth c H locs cells slots Q (F0 m pc ls (.long x :: rest)) := by
  rw [← ev]; exact k
theorem q_iald (hx : p.tables.exec = Jvm.exec) (hb : c.code = cc) (hK : qK D cy sa s) (hP : qP D S ad ee I J H) {k n : Nat} (hA : qAI S ee cy k n) {i : Int32} (hin : qin i n) (hdg : decode cc pc = .ok (.iaload, 1))
    (kk : W p l e R s m args below meth c H locs cells slots Q (F0 m (pc + 1) ls (.int (I k i.toNatClampNeg) :: rest))) : W p l e R s m args below meth c H locs cells slots Q (F0 m pc ls (.int i :: .ref (ad k) :: rest)) :=
  va_iald hx hb hK.1 (hP.one hA.1 (hA.2 _ _)) 0 0 rfl rfl hin hdg kk
theorem q_zald (hx : p.tables.exec = Jvm.exec) (hb : c.code = cc) (hK : qK D cy sa s) (hP : qP D S ad ee I J H) {k n : Nat} (hA : qAZ S ee cy k n) {i : Int32} (hin : qin i n) (hdg : decode cc pc = .ok (.baload, 1))
    (kk : W p l e R s m args below meth c H locs cells slots Q (F0 m (pc + 1) ls (.int (I k i.toNatClampNeg) :: rest))) : W p l e R s m args below meth c H locs cells slots Q (F0 m pc ls (.int i :: .ref (ad k) :: rest)) :=
  va_zald hx hb hK.1 (hP.one hA.1 (hA.2 _ _)) 0 2 rfl rfl hin hdg kk
theorem q_lald (hx : p.tables.exec = Jvm.exec) (hb : c.code = cc) (hK : qK D cy sa s) (hP : qP D S ad ee I J H) {k n : Nat} (hA : qAJ S ee cy k n) {i : Int32} (hin : qin i n) (hdg : decode cc pc = .ok (.laload, 1))
    (kk : W p l e R s m args below meth c H locs cells slots Q (F0 m (pc + 1) ls (.long (J k i.toNatClampNeg) :: rest))) : W p l e R s m args below meth c H locs cells slots Q (F0 m pc ls (.int i :: .ref (ad k) :: rest)) :=
  va_lald hx hb hK.1 (hP.one hA.1 (hA.2 _ _)) 0 1 rfl rfl hin hdg kk
theorem q_alenI {v : Int32} {k n : Nat} (hx : p.tables.exec = Jvm.exec) (hb : c.code = cc) (hK : qK D cy sa s) (hP : qP D S ad ee I J H) (hA : qAI S ee cy k n) (hv : Int32.ofNat n = v) (hdg : decode cc pc = .ok (.arraylength, 1))
    (kk : W p l e R s m args below meth c H locs cells slots Q (F0 m (pc + 1) ls (.int v :: rest))) : W p l e R s m args below meth c H locs cells slots Q (F0 m pc ls (.ref (ad k) :: rest)) :=
  va_alen hx hb hK.1 (hP.one hA.1 (hA.2 _ _)) 0 0 rfl rfl hv hdg kk
theorem q_alenJ {v : Int32} {k n : Nat} (hx : p.tables.exec = Jvm.exec) (hb : c.code = cc) (hK : qK D cy sa s) (hP : qP D S ad ee I J H) (hA : qAJ S ee cy k n) (hv : Int32.ofNat n = v) (hdg : decode cc pc = .ok (.arraylength, 1))
    (kk : W p l e R s m args below meth c H locs cells slots Q (F0 m (pc + 1) ls (.int v :: rest))) : W p l e R s m args below meth c H locs cells slots Q (F0 m pc ls (.ref (ad k) :: rest)) :=
  va_alen hx hb hK.1 (hP.one hA.1 (hA.2 _ _)) 0 1 rfl rfl hv hdg kk
theorem q_alenZ {v : Int32} {k n : Nat} (hx : p.tables.exec = Jvm.exec) (hb : c.code = cc) (hK : qK D cy sa s) (hP : qP D S ad ee I J H) (hA : qAZ S ee cy k n) (hv : Int32.ofNat n = v) (hdg : decode cc pc = .ok (.arraylength, 1))
    (kk : W p l e R s m args below meth c H locs cells slots Q (F0 m (pc + 1) ls (.int v :: rest))) : W p l e R s m args below meth c H locs cells slots Q (F0 m pc ls (.ref (ad k) :: rest)) :=
  va_alen hx hb hK.1 (hP.one hA.1 (hA.2 _ _)) 0 2 rfl rfl hv hdg kk
theorem q_iast (hx : p.tables.exec = Jvm.exec) (hb : c.code = cc) (hK : qK D cy sa s) (hP : qP D S ad ee I J H) (hN : qN S ad) (hS : va_S (qA S ad) H0 H locs) {k n : Nat} (hA : qAI S ee cy k n) {i x : Int32} (hin : qin i n) (hdg : decode cc pc = .ok (.iastore, 1))
    (kk : ∀ (H1 : Heap) (locs1 : List Loc), qP D S ad ee (qu I k i.toNatClampNeg x) J H1 → va_S (qA S ad) H0 H1 locs1 → W p l e R s m args below meth c H1 locs1 cells slots Q (F0 m (pc + 1) ls rest)) : W p l e R s m args below meth c H locs cells slots Q (F0 m pc ls (.int x :: .int i :: .ref (ad k) :: rest)) := by
  obtain ⟨hs, hE⟩ := hA
  have hc := hP k hs
  rw [hE] at hc
  refine W.iast hx hb hc ((hK.1.2 0 _ rfl).1 n (fun j => .int (I k j))) (fun q => by cases q) (by show ¬ (i < 0 ∨ (arrV _ _ _).slots.size ≤ _); rw [arrV_size]; exact hin) rfl rfl hdg fun H1 e1 z oq => ?_
  refine kk H1 _ (hP.setI hN hs ?_ oq) (hS.put z oq ⟨k, hs, rfl⟩)
  rw [hE]
  show H1[ad k]? = some (vp_cell _ _)
  rw [e1, vp_cell_i, vp_cell_i, arrV_store]
  congr 2
  funext q
  by_cases hq : q = i.toNatClampNeg
  · subst hq; simp [updV, upd]
  · simp [updV, upd, hq]
theorem q_zast (hx : p.tables.exec = Jvm.exec) (hb : c.code = cc) (hK : qK D cy sa s) (hP : qP D S ad ee I J H) (hN : qN S ad) (hS : va_S (qA S ad) H0 H locs) {k n : Nat} (hA : qAZ S ee cy k n) {i x : Int32} (hin : qin i n) (hdg : decode cc pc = .ok (.bastore, 1))
    (kk : ∀ (H1 : Heap) (locs1 : List Loc), qP D S ad ee (qu I k i.toNatClampNeg (vp_nar .boolean x)) J H1 → va_S (qA S ad) H0 H1 locs1 → W p l e R s m args below meth c H1 locs1 cells slots Q (F0 m (pc + 1) ls rest)) : W p l e R s m args below meth c H locs cells slots Q (F0 m pc ls (.int x :: .int i :: .ref (ad k) :: rest)) := by
  obtain ⟨hs, hE⟩ := hA
  have hc := hP k hs
  rw [hE] at hc
  refine W.zast hx hb hc ((hK.1.2 2 _ rfl).1 n (fun j => .int (I k j))) (fun q => by cases q) (by show ¬ (i < 0 ∨ (arrV _ _ _).slots.size ≤ _); rw [arrV_size]; exact hin) rfl rfl hdg fun H1 e1 z oq => ?_
  refine kk H1 _ (hP.setI hN hs ?_ oq) (hS.put z oq ⟨k, hs, rfl⟩)
  rw [hE]
  show H1[ad k]? = some (vp_cell _ _)
  rw [e1, vp_cell_i, vp_cell_i, arrV_store]
  congr 2
  funext q
  by_cases hq : q = i.toNatClampNeg
  · subst hq; simp [updV, upd, vp_nar]; try rfl
  · simp [updV, upd, hq]
theorem q_last (hx : p.tables.exec = Jvm.exec) (hb : c.code = cc) (hK : qK D cy sa s) (hP : qP D S ad ee I J H) (hN : qN S ad) (hS : va_S (qA S ad) H0 H locs) {k n : Nat} (hA : qAJ S ee cy k n) {i : Int32} {x : Int64} (hin : qin i n) (hdg : decode cc pc = .ok (.lastore, 1))
    (kk : ∀ (H1 : Heap) (locs1 : List Loc), qP D S ad ee I (quL J k i.toNatClampNeg x) H1 → va_S (qA S ad) H0 H1 locs1 → W p l e R s m args below meth c H1 locs1 cells slots Q (F0 m (pc + 1) ls rest)) : W p l e R s m args below meth c H locs cells slots Q (F0 m pc ls (.long x :: .int i :: .ref (ad k) :: rest)) := by
  obtain ⟨hs, hE⟩ := hA
  have hc := hP k hs
  rw [hE] at hc
  refine W.last hx hb hc ((hK.1.2 1 _ rfl).1 n (fun j => .long (J k j))) (fun q => by cases q) (by show ¬ (i < 0 ∨ (arrV _ _ _).slots.size ≤ _); rw [arrV_size]; exact hin) rfl rfl hdg fun H1 e1 z oq => ?_
  refine kk H1 _ (hP.setJ hN hs ?_ oq) (hS.put z oq ⟨k, hs, rfl⟩)
  rw [hE]
  show H1[ad k]? = some (vp_cell _ _)
  rw [e1, vp_cell_l, vp_cell_l, arrV_store]
  congr 2
  funext q
  by_cases hq : q = i.toNatClampNeg
  · subst hq; simp [updV, vp_updL]
  · simp [updV, vp_updL, hq]
theorem q_aald {t k n : Nat} {rf : Nat → Nat} {ty : FieldType} (hx : p.tables.exec = Jvm.exec) (hb : c.code = cc) (hK : qK D cy sa s) (hP : qP D S ad ee I J H) (hA : qAR S ee cy ad t k n rf) (ht : (qT cy)[t]? = some (cy t, ty)) (hr : ty.isReference = true) {i : Int32} (hin : qin i n) (hdg : decode cc pc = .ok (.aaload, 1))
    (kk : W p l e R s m args below meth c H locs cells slots Q (F0 m (pc + 1) ls (.ref (ad (rf i.toNatClampNeg)) :: rest))) : W p l e R s m args below meth c H locs cells slots Q (F0 m pc ls (.int i :: .ref (ad k) :: rest)) := by
  obtain ⟨hs, hE⟩ := hA
  have hc := hP k hs
  rw [hE] at hc
  have hlt : i.toNatClampNeg < n := Nat.not_le.mp fun q => hin (Or.inr q)
  exact W.aald (v := .ref (ad (rf i.toNatClampNeg))) (ty := ty) hx hb hc ((hK.1.2 t _ ht).1 n (fun j => va_rf (some (ad (rf j))))) hr (fun q => by cases q) (by show ¬ (i < 0 ∨ (arrV _ _ _).slots.size ≤ _); rw [arrV_size]; exact hin) (by show (arrV _ _ _).slots[_]? = _; rw [arrV_read _ _ hlt]; rfl) rfl rfl hdg kk
theorem q_get (hx : p.tables.exec = Jvm.exec) (hb : c.code = cc) {own ref C : String} {T : u_T} {N ci index : Nat} {Ts : List Cond} (hts : ∀ w ∈ Ts, w.before args s = true) (hin : ∀ w ∈ u_ws C T N, w ∈ Ts) (hown : s.vm.findClass own = some m.cls) (hK : qK D cy sa s) (hP : qP D S ad ee I J H) {k : Nat} {fl : (Nat → Int32) → (Nat → Int64) → List Value} (hO : qO S ee k ci fl) (hc : vwCl[ci]? = some (C, T, N)) (j : Nat) (hj : j < N) (hlink : (Cond.fieldLink own index ref (T j).2.1 (T j).2.2.1).before args s = true) (hsame : ∀ x, s.fieldFound? (T j).1 (T j).2.1 (T j).2.2.1 = some x → s.fieldFound? ref (T j).2.1 (T j).2.2.1 = some x) {v : Value} (hv : (fl (I k) (J k))[j]? = some v) (hdg : decode cc pc = .ok (.getfield index, 3))
    (kk : W p l e R s m args below meth c H locs cells slots Q (F0 m (pc + 3) ls (v :: rest))) : W p l e R s m args below meth c H locs cells slots Q (F0 m pc ls (.ref (ad k) :: rest)) :=
  va_get hx hb hts hin hown hK.1 (hP.one hO.1 (hO.2 _ _)) 0 rfl hc j hj hlink hsame hv hdg kk
theorem q_put (hx : p.tables.exec = Jvm.exec) (hb : c.code = cc) {own ref C : String} {T : u_T} {N ci index : Nat} {Ts : List Cond} (hts : ∀ w ∈ Ts, w.before args s = true) (hin : ∀ w ∈ u_ws C T N, w ∈ Ts) (ty0 : Nat → FieldType) (hty : ∀ k, k < N → parseFieldDescriptor (T k).2.2.1 = some (ty0 k)) (hnm : ∀ a, a < N → ∀ b, b < N → a ≠ b → (T a).2.1 ≠ (T b).2.1) (hown : s.vm.findClass own = some m.cls) (hK : qK D cy sa s) (hP : qP D S ad ee I J H) (hN : qN S ad) (hS0 : va_S (qA S ad) H0 H locs) {k : Nat} {fl : (Nat → Int32) → (Nat → Int64) → List Value} (hO : qO S ee k ci fl) (hc : vwCl[ci]? = some (C, T, N)) (j : Nat) (hj : j < N) (hlink : (Cond.fieldLink own index ref (T j).2.1 (T j).2.2.1).before args s = true) (hsame : ∀ x, s.fieldFound? (T j).1 (T j).2.1 (T j).2.2.1 = some x → s.fieldFound? ref (T j).2.1 (T j).2.2.1 = some x) (hfin : (T j).2.2.2 = false) {ty : FieldType} {v : Value} {x : Int32} (hd : parseFieldDescriptor (T j).2.2.1 = some ty) (hn : narrow ty v = v) (hfit : fits ty v = true) (hset : ∀ f g, (fl f g).set j v = fl (upd f j x) g) (hl : ∀ f g, j < (fl f g).length)
    (hdg : decode cc pc = .ok (.putfield index, 3)) (kk : ∀ (H1 : Heap) (locs1 : List Loc), qP D S ad ee (qu I k j x) J H1 → va_S (qA S ad) H0 H1 locs1 → W p l e R s m args below meth c H1 locs1 cells slots Q (F0 m (pc + 3) ls rest)) : W p l e R s m args below meth c H locs cells slots Q (F0 m pc ls (v :: .ref (ad k) :: rest)) := by
  have hap := va_apart (own := own) hts hin ty0 hty hnm hK.1 hc
  obtain ⟨hs, hE⟩ := hO
  have hcell := hP k hs
  rw [hE] at hcell
  obtain ⟨r, h1, cell, q1, q2, q3, q4⟩ := hcell
  have hr : r = (C, T, N) := Option.some.inj (h1.symm.trans hc)
  subst hr
  obtain ⟨hSl, hfc, kC, hkC, hkind⟩ := hK.1.1 ci _ hc
  obtain ⟨cf, kf, fi, f, hi, hsl⟩ := hSl j hj
  have hlay := hts _ (hin _ (u_in_lay hj))
  unfold u_lay at hlay
  rw [if_neg (by rw [hfin]; decide)] at hlay
  have hst := (u_facts hfc hkC (u_lays hts hin hj) hi).1
  have h6 := u_store hfc hkC hkind hlay hi hd hn hfit
  refine W.putK hx hb (f := f) ⟨hown, hlink, ⟨_, _, _, hsame _ hi⟩, hst⟩ (by rw [q2]; exact h6) q1 q3 (by rw [hsl]; exact k2_hasslot (q4 j hj)) rfl rfl hdg fun H1 e1 e2 e3 => ?_
  rw [hsl] at e1 ⊢
  refine kk H1 _ (hP.setI hN hs ?_ e3) (hS0.put e2 e3 ⟨k, hs, rfl⟩)
  rw [hE, ← hset]
  exact ⟨_, hc, t_OB.to (V := updV (vp_V (fl (I k) (J k))) j v) ⟨_, e1, q2, q3, t_set q4 hap hj v⟩ (fun i _ => vp_updV_set (hl _ _) v i)⟩
theorem q_recv {q : vw_C} {k ci : Nat} {fl : (Nat → Int32) → (Nat → Int64) → List Value} (hK : qK D cy sa s) (hP : qP D S ad ee I J H) (hO : qO S ee k ci fl) (hc : vwCl[ci]? = some q) : ∃ cell : Cell, H[ad k]? = some cell ∧ cell.vm.isStatics = false ∧ s.vm.findClass q.1 = some cell.cls :=
  va_recv hK.1 (hP.one hO.1 (hO.2 _ _)) hc (q0 := 0) rfl
theorem q_cSi {r : Int32} (hr : va_Run p l e R s m args below meth c H locs cells slots 0 0 (F0 m pc ls st0) rest (vp_Si (fun x => x = r) a) (fun _ => False))
    (kk : W p l e R s m args below meth c H locs cells slots Q (F0 m (pc + 3) ls (.int r :: rest))) : W p l e R s m args below meth c H locs cells slots Q (F0 m pc ls st0) := by
  intro T hT X
  obtain ⟨v, st₀, t, T', L, h0, X', hL, e1, e2, ⟨r', hv, hp, hh⟩, st⟩ := hr T hT X
  cases hv
  subst hp
  obtain ⟨t2, a1, b1⟩ := kk T' (by rw [e1, hh, h0]) (Stand.forget X' (fun q h => (hL q h).elim))
  exact ⟨t2, st t2 a1, b1⟩
theorem q_cSl {r : Int64} (hr : va_Run p l e R s m args below meth c H locs cells slots 0 0 (F0 m pc ls st0) rest (vp_Sl (fun x => x = r) a) (fun _ => False))
    (kk : W p l e R s m args below meth c H locs cells slots Q (F0 m (pc + 3) ls (.long r :: rest))) : W p l e R s m args below meth c H locs cells slots Q (F0 m pc ls st0) := by
  intro T hT X
  obtain ⟨v, st₀, t, T', L, h0, X', hL, e1, e2, ⟨r', hv, hp, hh⟩, st⟩ := hr T hT X
  cases hv
  subst hp
  obtain ⟨t2, a1, b1⟩ := kk T' (by rw [e1, hh, h0]) (Stand.forget X' (fun q h => (hL q h).elim))
  exact ⟨t2, st t2 a1, b1⟩
theorem q_cEi {r : Int32} (hr : va_Run p l e R s m args below meth c H locs cells slots 0 0 (F0 m pc ls st0) rest (va_Qi (S := Unit) (fun x _ => x = r) (fun _ t => qP D S ad ee I1 J1 t.heap) (qA S ad) a) (qA S ad)) (hS : va_S (qA S ad) H0 H locs)
    (kk : ∀ (H1 : Heap) (locs1 : List Loc), qP D S ad ee I1 J1 H1 → va_S (qA S ad) H0 H1 locs1 → W p l e R s m args below meth c H1 locs1 cells slots Q (F0 m (pc + 3) ls (.int r :: rest))) : W p l e R s m args below meth c H locs cells slots Q (F0 m pc ls st0) := by
  refine va_calli hr hS (fun _ _ h => h) (fun _ h => h) (fun r' u t H1 locs1 ht _ hp hq _ _ hs => ?_)
  subst hp
  subst ht
  exact kk _ _ hq hs
theorem q_cEv (hr : va_Run p l e R s m args below meth c H locs cells slots 0 0 (F0 m pc ls st0) rest (va_Qv (S := Unit) (fun _ => True) (fun _ t => qP D S ad ee I1 J1 t.heap) (qA S ad) a) (qA S ad)) (hS : va_S (qA S ad) H0 H locs)
    (kk : ∀ (H1 : Heap) (locs1 : List Loc), qP D S ad ee I1 J1 H1 → va_S (qA S ad) H0 H1 locs1 → W p l e R s m args below meth c H1 locs1 cells slots Q (F0 m (pc + 3) ls rest)) : W p l e R s m args below meth c H locs cells slots Q (F0 m pc ls st0) := by
  refine va_callv hr hS (fun _ _ h => h) (fun _ h => h) (fun u t H1 locs1 ht _ _ hq _ _ hs => ?_)
  subst ht
  exact kk _ _ hq hs
theorem q_stat (hx : p.tables.exec = Jvm.exec) (hb : c.code = cc) {i : Int32} {t : Nat} {tab : List Int32} (hT : va_T .int t tab.length (fun j => .int (tab.getD j 0)) (qA S ad) s s.heap) (hS : va_S (qA S ad) s.heap H locs) (hin : qin i tab.length) (hdg : decode cc pc = .ok (.iaload, 1))
    (kk : W p l e R s m args below meth c H locs cells slots Q (F0 m (pc + 1) ls (.int (tab.getD i.toNatClampNeg 0) :: rest))) : W p l e R s m args below meth c H locs cells slots Q (F0 m pc ls (.int i :: .ref t :: rest)) :=
  va_ti hx hb hT hS hin rfl hdg kk
theorem q_narZ {v : Int32} (h : v = 0 ∨ v = 1) : narrow .boolean (.int v) = .int v := by
  rcases h with rfl | rfl <;> rfl
end Q1
def bd {α β : Type} (x : Option α) (f : α → Option β) : Option β := x.bind f
def bd2 {α β γ : Type} (x : Option (α × β)) (f : α → β → Option γ) : Option γ := x.bind fun z => f z.1 z.2
def bd3 {α β γ δ : Type} (x : Option (α × β × γ)) (f : α → β → γ → Option δ) : Option δ := x.bind fun z => f z.1 z.2.1 z.2.2
theorem bd_ok {α β : Type} {x : Option α} {f : α → Option β} {y : β} (h : bd x f = some y) : ∃ z, x = some z ∧ f z = some y := by
  unfold bd at h
  cases hx : x with
  | none => rw [hx] at h; cases h
  | some z => rw [hx] at h; exact ⟨z, rfl, h⟩
theorem bd2_ok {α β γ : Type} {x : Option (α × β)} {f : α → β → Option γ} {y : γ} (h : bd2 x f = some y) : ∃ a b, x = some (a, b) ∧ f a b = some y := by
  unfold bd2 at h
  cases hx : x with
  | none => rw [hx] at h; cases h
  | some z => rw [hx] at h; exact ⟨z.1, z.2, rfl, h⟩
theorem bd3_ok {α β γ δ : Type} {x : Option (α × β × γ)} {f : α → β → γ → Option δ} {y : δ} (h : bd3 x f = some y) : ∃ a b c, x = some (a, b, c) ∧ f a b c = some y := by
  unfold bd3 at h
  cases hx : x with
  | none => rw [hx] at h; cases h
  | some z => rw [hx] at h; exact ⟨z.1, z.2.1, z.2.2, rfl, h⟩
theorem q_nt {x c : Int32} {n : Int} (h : ¬ x = c) (hc : c.toInt = n) : x.toInt ≠ n := fun e => h (Int32.toInt_inj.mp (e.trans hc.symm))
theorem qin_lt {i : Int32} {n : Nat} (h : qin i n) : i.toNatClampNeg < n := Nat.not_le.mp fun q => h (Or.inr q)
section Q2
variable {p : Program} {l : Launch} {e : Env} {R : Room} {s : State} {m : MethodId} {args : Array Value} {below : List Frame} {meth : Method} {c : Code} {H : Heap} {locs : List Loc} {cells slots : Nat} {Q : State → Prop}
variable {cc : ByteArray} {pc : Nat} {ls : Array Slot} {rest : List Value} {H0 : Heap} {N : Nat}
variable {D : va_G} {ad : Nat → Nat} {cy : Nat → ClassId} {sa va : Nat → Nat} {ee : qE} {I : qI} {J : qJ}
theorem qwl_at {k : Nat} (hk : k < N) (f : Nat → Nat × va_E) : ((List.range N).map f)[k]? = some (f k) := by
  rw [List.getElem?_map, List.getElem?_range hk]; rfl
theorem qwl_lt {f : Nat → Nat × va_E} {k : Nat} {q : Nat × va_E} (h : ((List.range N).map f)[k]? = some q) : k < N ∧ q = f k := by
  by_cases hk : k < N
  · rw [qwl_at hk] at h; cases h; exact ⟨hk, rfl⟩
  · rw [List.getElem?_eq_none (by simp; omega)] at h; cases h
theorem qP.list (h : qP D (fun k => k < N) ad ee I J H) : va_P D vwCl ((List.range N).map fun k => (ad k, ee k (I k) (J k))) H := by
  intro i q hq
  obtain ⟨hi, rfl⟩ := qwl_lt hq
  exact h i hi
theorem qN.list (h : qN (fun k => k < N) ad) : va_D (qA (fun k => k < N) ad) ((List.range N).map fun k => (ad k, ee k (I k) (J k))) := by
  refine ⟨fun i j x y hi hj hxy => ?_, fun k q hk => ?_⟩
  · obtain ⟨h1, rfl⟩ := qwl_lt hi
    obtain ⟨h2, rfl⟩ := qwl_lt hj
    exact h i j h1 h2 hxy
  · obtain ⟨h1, rfl⟩ := qwl_lt hk
    exact ⟨k, h1, rfl⟩
theorem qP.unlist {I1 : qI} {J1 : qJ} {k : Nat} {x : va_E} (hk : k < N) (h : va_P D vwCl (((List.range N).map fun k => (ad k, ee k (I k) (J k))).set k (ad k, x)) H) (hx : x = ee k (I1 k) (J1 k)) (ho : ∀ j, j ≠ k → I1 j = I j ∧ J1 j = J j) : qP D (fun k => k < N) ad ee I1 J1 H := by
  intro j hj
  by_cases e : j = k
  · subst e
    have := h j (ad j, x) (by rw [List.getElem?_set_self (by simpa using hj)])
    rw [hx] at this
    exact this
  · obtain ⟨e1, e2⟩ := ho j e
    rw [e1, e2]
    exact h j _ (by rw [List.getElem?_set_ne (Ne.symm e)]; exact qwl_at hj _)
theorem q_copyi (hx : p.tables.exec = Jvm.exec) (hb : c.code = cc) (hml : c.maxLocals = ls.size) {own : String} {index : Nat} (hown : s.vm.findClass own = some m.cls) (hlink : (Cond.methodLink own index arraycopyName).before args s = true) (hnat : (Cond.native arraycopyName).before args s = true) (hstat : (Cond.static arraycopyName).before args s = true) (hini : (Cond.initialized "java/lang/System").before args s = true)
    (hK : qK D cy sa s) (hP : qP D (fun k => k < N) ad ee I J H) (hN : qN (fun k => k < N) ad) (hS : va_S (qA (fun k => k < N) ad) H0 H locs) {k0 k1 n0 n1 : Nat} (hA0 : qAI (fun k => k < N) ee cy k0 n0) (hA1 : qAI (fun k => k < N) ee cy k1 n1)
    {sp dp n : Int32} (h1 : ¬ sp < 0) (h2 : ¬ dp < 0) (h3 : ¬ n < 0) (h4 : sp.toNatClampNeg + n.toNatClampNeg ≤ n0) (h5 : dp.toNatClampNeg + n.toNatClampNeg ≤ n1) (hframes : 1 ≤ R.frames) (hlocals : (rest.map fun v => v.category).sum + (nativeFrameWords "java/lang/System" "arraycopy" 5 + 11) ≤ R.locals) (hdg : decode cc pc = .ok (.invokestatic index, 3))
    (kk : ∀ (H1 : Heap) (locs1 : List Loc), qP D (fun k => k < N) ad ee (quR I k1 (va_cpy (I k0) (I k1) sp.toNatClampNeg dp.toNatClampNeg n.toNatClampNeg)) J H1 → va_S (qA (fun k => k < N) ad) H0 H1 locs1 → W p l e R s m args below meth c H1 locs1 cells slots Q (F0 m (pc + 3) ls rest)) : W p l e R s m args below meth c H locs cells slots Q (F0 m pc ls (.int n :: .int dp :: .ref (ad k1) :: .int sp :: .ref (ad k0) :: rest)) := by
  refine va_copyi hx hb hml hown hlink hnat hstat hini hK.1 hP.list hN.list hS k0 k1 0 0 (c0 := cy 0) (c1 := cy 0) (n0 := n0) (n1 := n1) (f := I k0) (g := I k1) (ty := .int) (by rw [qwl_at hA0.1, hA0.2]) (by rw [qwl_at hA1.1, hA1.2]) rfl rfl rfl h1 h2 h3 h4 h5 (fun _ _ => rfl) hframes hlocals hdg (fun H1 locs1 hP1 _ hS1 => ?_)
  exact kk H1 locs1 (qP.unlist hA1.1 hP1 (by rw [hA1.2]; simp [quR]) (fun j hj => ⟨by simp [quR, hj], rfl⟩)) hS1
theorem q_copyl (hx : p.tables.exec = Jvm.exec) (hb : c.code = cc) (hml : c.maxLocals = ls.size) {own : String} {index : Nat} (hown : s.vm.findClass own = some m.cls) (hlink : (Cond.methodLink own index arraycopyName).before args s = true) (hnat : (Cond.native arraycopyName).before args s = true) (hstat : (Cond.static arraycopyName).before args s = true) (hini : (Cond.initialized "java/lang/System").before args s = true)
    (hK : qK D cy sa s) (hP : qP D (fun k => k < N) ad ee I J H) (hN : qN (fun k => k < N) ad) (hS : va_S (qA (fun k => k < N) ad) H0 H locs) {k0 k1 n0 n1 : Nat} (hA0 : qAJ (fun k => k < N) ee cy k0 n0) (hA1 : qAJ (fun k => k < N) ee cy k1 n1)
    {sp dp n : Int32} (h1 : ¬ sp < 0) (h2 : ¬ dp < 0) (h3 : ¬ n < 0) (h4 : sp.toNatClampNeg + n.toNatClampNeg ≤ n0) (h5 : dp.toNatClampNeg + n.toNatClampNeg ≤ n1) (hframes : 1 ≤ R.frames) (hlocals : (rest.map fun v => v.category).sum + (nativeFrameWords "java/lang/System" "arraycopy" 5 + 11) ≤ R.locals) (hdg : decode cc pc = .ok (.invokestatic index, 3))
    (kk : ∀ (H1 : Heap) (locs1 : List Loc), qP D (fun k => k < N) ad ee I (quRL J k1 (va_cpy (J k0) (J k1) sp.toNatClampNeg dp.toNatClampNeg n.toNatClampNeg)) H1 → va_S (qA (fun k => k < N) ad) H0 H1 locs1 → W p l e R s m args below meth c H1 locs1 cells slots Q (F0 m (pc + 3) ls rest)) : W p l e R s m args below meth c H locs cells slots Q (F0 m pc ls (.int n :: .int dp :: .ref (ad k1) :: .int sp :: .ref (ad k0) :: rest)) := by
  refine va_copyl hx hb hml hown hlink hnat hstat hini hK.1 hP.list hN.list hS k0 k1 1 1 (c0 := cy 1) (c1 := cy 1) (n0 := n0) (n1 := n1) (f := J k0) (g := J k1) (ty := .long) (by rw [qwl_at hA0.1, hA0.2]) (by rw [qwl_at hA1.1, hA1.2]) rfl rfl rfl h1 h2 h3 h4 h5 (fun _ _ => rfl) hframes hlocals hdg (fun H1 locs1 hP1 _ hS1 => ?_)
  exact kk H1 locs1 (qP.unlist hA1.1 hP1 (by rw [hA1.2]; simp [quRL]) (fun j hj => ⟨rfl, by simp [quRL, hj]⟩)) hS1
end Q2
