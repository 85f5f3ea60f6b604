/-! machine: bank, image, back of the reference from their start: a second model is made when it is first asked for (written by wip/gen/mk78g.py). -/
theorem va_Z.fresh {C n d : String} {v : Value} {A B : Nat → Prop} {U : State} {H : Heap} (h : va_Z C n d v A U H) (hAB : ∀ q, B q → q < H.size → A q) : va_Z C n d v B U H := by
  obtain ⟨cf, kf, fi, f, a, cell, h1, h2, h3, h4, h5, h6, h7, h8⟩ := h
  exact ⟨cf, kf, fi, f, a, cell, h1, h2, h3, h4, h5, h6, h7, fun z => h8 (hAB a z (Array.getElem?_eq_some_iff.mp h5).1)⟩
theorem va_Zq.fresh {C n d : String} {A B : Nat → Prop} {U : State} {H : Heap} (h : va_Zq C n d A U H) (hAB : ∀ q, B q → q < H.size → A q) : va_Zq C n d B U H := by
  rcases h with h | ⟨t, h⟩
  · exact Or.inl (h.fresh hAB)
  · exact Or.inr ⟨t, h.fresh hAB⟩
theorem va_T.fresh {ty : FieldType} {t N : Nat} {f : Nat → Value} {A B : Nat → Prop} {U : State} {H : Heap} (h : va_T ty t N f A U H) (hAB : ∀ q, B q → q < H.size → A q) : va_T ty t N f B U H := by
  obtain ⟨cell, h1, h2, h3, h4, h5, h6, h7⟩ := h
  exact ⟨cell, h1, h2, h3, h4, h5, h6, fun z => h7 (hAB t z (Array.getElem?_eq_some_iff.mp h1).1)⟩
theorem va_O.fresh {E : String} {t : Nat} {A B : Nat → Prop} {U : State} {H : Heap} (h : va_O E t A U H) (hAB : ∀ q, B q → q < H.size → A q) : va_O E t B U H := by
  obtain ⟨cell, h1, h2, h3, h4⟩ := h
  exact ⟨cell, h1, h2, h3, fun z => h4 (hAB t z (Array.getElem?_eq_some_iff.mp h1).1)⟩
theorem va_OF.fresh {o n d : String} {v : Value} {t : Nat} {A B : Nat → Prop} {U : State} {H : Heap} (h : va_OF o n d v t A U H) (hAB : ∀ q, B q → q < H.size → A q) : va_OF o n d v t B U H := by
  obtain ⟨cf, k, i, f, cell, h1, h2, h3, h4, h5, h6⟩ := h
  exact ⟨cf, k, i, f, cell, h1, h2, h3, h4, h5, fun z => h6 (hAB t z (Array.getElem?_eq_some_iff.mp h3).1)⟩
theorem qSt.fresh {f : String} {tab : List Int32} {A B : Nat → Prop} {U : State} {H : Heap} (h : qSt f tab A U H) (hAB : ∀ q, B q → q < H.size → A q) : qSt f tab B U H := by
  obtain ⟨t, h1, h2⟩ := h
  exact ⟨t, h1.fresh hAB, h2.fresh hAB⟩
theorem qEnv.fresh {sa va : Nat → Nat} {A B : Nat → Prop} {U : State} {H : Heap} (h : qEnv sa va A U H) (hAB : ∀ q, B q → q < H.size → A q) : qEnv sa va B U H :=
  ⟨⟨h.1.1.fresh hAB, h.1.2.1.fresh hAB, h.1.2.2.1.fresh hAB, h.1.2.2.2.fresh hAB⟩, ⟨fun i hi => ⟨(h.2.1.1 i hi).1.fresh hAB, (h.2.1.1 i hi).2.1.fresh hAB, (h.2.1.1 i hi).2.2.1.fresh hAB, (h.2.1.1 i hi).2.2.2.fresh hAB⟩, h.2.1.2⟩, h.2.2.1.fresh hAB, h.2.2.2.fresh hAB⟩
/-- the reference's world, with the second models that are there -/
def mS (a b : Bool) : Nat → Prop := fun k => k < 40 ∨ (a = true ∧ 40 ≤ k ∧ k < 80) ∨ (b = true ∧ 80 ≤ k ∧ k < 120)
theorem mS_0 {a b : Bool} : isM0 (mS a b) := ⟨Or.inl rfl, fun k hk => Or.inl (by omega)⟩
theorem mS_40 {b : Bool} : isM (mS true b) 40 := ⟨Or.inr (Or.inl rfl), fun k hk => Or.inr (Or.inl ⟨rfl, by omega, by omega⟩)⟩
theorem mS_80 {a : Bool} : isM (mS a true) 80 := ⟨Or.inr (Or.inr rfl), fun k hk => Or.inr (Or.inr ⟨rfl, by omega, by omega⟩)⟩
def exA (K : Nat) (ad2 ad : Nat → Nat) : Nat → Nat := fun k => if K ≤ k ∧ k < K + 40 then ad2 (k - K) else ad k
def blkI (K : Nat) (I : qI) : qI := fun k => if K ≤ k ∧ k < K + 40 then nI0 (k - K) else I k
def blkJ (K : Nat) (J : qJ) : qJ := fun k => if K ≤ k ∧ k < K + 40 then nJ0 (k - K) else J k
theorem exA_in {K j : Nat} {ad2 ad : Nat → Nat} (hj : j < 40) : exA K ad2 ad (K + j) = ad2 j := by
  unfold exA
  rw [if_pos ⟨by omega, by omega⟩, Nat.add_sub_cancel_left]
theorem exA_out {K k : Nat} {ad2 ad : Nat → Nat} (h : ¬ (K ≤ k ∧ k < K + 40)) : exA K ad2 ad k = ad k := if_neg h
theorem blkI_in {K j : Nat} {I : qI} (hj : j < 40) : blkI K I (K + j) = nI0 j := by
  unfold blkI
  rw [if_pos ⟨by omega, by omega⟩, Nat.add_sub_cancel_left]
theorem blkI_out {K k : Nat} {I : qI} (h : ¬ (K ≤ k ∧ k < K + 40)) : blkI K I k = I k := if_neg h
theorem blkJ_in {K j : Nat} {J : qJ} (hj : j < 40) : blkJ K J (K + j) = nJ0 j := by
  unfold blkJ
  rw [if_pos ⟨by omega, by omega⟩, Nat.add_sub_cancel_left]
theorem blkJ_out {K k : Nat} {J : qJ} (h : ¬ (K ≤ k ∧ k < K + 40)) : blkJ K J k = J k := if_neg h
theorem eM_at {ad : Nat → Nat} {cy : Nat → ClassId} {b j : Nat} {f : Nat → Int32} {g : Nat → Int64} {h : (Nat → Int32) → (Nat → Int64) → va_E} (hb : b = 0 ∨ b = 40 ∨ b = 80) (hj : j < 40) (he : (eMl ad cy b)[j]? = some h) : eM ad cy (b + j) f g = h f g := by
  have e : (if b + j < 40 then (eMl ad cy 0)[b + j]? else if b + j < 80 then (eMl ad cy 40)[b + j - 40]? else (eMl ad cy 80)[b + j - 80]?) = some h := by
    rcases hb with rfl | rfl | rfl
    · rw [Nat.zero_add, if_pos hj]; exact he
    · rw [if_neg (by omega), if_pos (by omega), Nat.add_sub_cancel_left]; exact he
    · rw [if_neg (by omega), if_neg (by omega), Nat.add_sub_cancel_left]; exact he
  unfold eM
  rw [e]
/-- a cell of a model, its addresses told anew -/
theorem at_eM {D : va_G} {x : Nat} {ad ad1 : Nat → Nat} {cy : Nat → ClassId} {b b1 j : Nat} {f : Nat → Int32} {g : Nat → Int64} {H : Heap} (hb : b = 0 ∨ b = 40 ∨ b = 80) (hb1 : b1 = 0 ∨ b1 = 40 ∨ b1 = 80) (hj : j < 40) (hA : ∀ i, i < 40 → ad1 (b1 + i) = ad (b + i)) (hF : j = 0 → (f 26 = 0 ∨ ad1 80 = ad 80) ∧ (f 27 = 0 ∨ ad1 40 = ad 40)) (h : va_at D vwCl (x, eM ad cy (b + j) f g) H) : va_at D vwCl (x, eM ad1 cy (b1 + j) f g) H := by
  rcases q_cs40 j hj with rfl | rfl | rfl | rfl | rfl | rfl | rfl | rfl | rfl | rfl | rfl | rfl | rfl | rfl | rfl | rfl | rfl | rfl | rfl | rfl | rfl | rfl | rfl | rfl | rfl | rfl | rfl | rfl | rfl | rfl | rfl | rfl | rfl | rfl | rfl | rfl | rfl | rfl | rfl | rfl
  · rw [eM_at hb hj rfl] at h
    rw [eM_at hb1 hj rfl]
    have e : flX9 ad1 b1 f g = flX9 ad b f g := by
      obtain ⟨h1, h2⟩ := hF rfl
      have e1 : (if f 26 = 0 then Value.null else .ref (ad1 80)) = (if f 26 = 0 then Value.null else .ref (ad 80)) := by
        rcases h1 with h | h
        · rw [if_pos h, if_pos h]
        · rw [h]
      have e2 : (if f 27 = 0 then Value.null else .ref (ad1 40)) = (if f 27 = 0 then Value.null else .ref (ad 40)) := by
        rcases h2 with h | h
        · rw [if_pos h, if_pos h]
        · rw [h]
      unfold flX9
      rw [e1, e2]
      simp only [hA 1 (by decide), hA 2 (by decide), hA 3 (by decide), hA 4 (by decide), hA 5 (by decide), hA 6 (by decide), hA 7 (by decide), hA 8 (by decide), hA 9 (by decide), hA 10 (by decide), hA 11 (by decide), hA 12 (by decide), hA 13 (by decide), hA 14 (by decide), hA 15 (by decide), hA 16 (by decide), hA 17 (by decide), hA 18 (by decide), hA 19 (by decide), hA 20 (by decide), hA 21 (by decide), hA 22 (by decide), hA 23 (by decide), hA 24 (by decide), hA 25 (by decide), hA 26 (by decide), hA 27 (by decide), hA 28 (by decide), hA 29 (by decide), hA 30 (by decide), hA 31 (by decide), hA 32 (by decide), hA 33 (by decide), hA 34 (by decide), hA 35 (by decide), hA 36 (by decide), hA 37 (by decide), hA 38 (by decide), hA 39 (by decide)]
    show va_at D vwCl (x, .inr (9, flX9 ad1 b1 f g)) H
    rw [e]
    exact h
  · rw [eM_at hb hj rfl] at h
    rw [eM_at hb1 hj rfl]
    exact h
  · rw [eM_at hb hj rfl] at h
    rw [eM_at hb1 hj rfl]
    exact h
  · rw [eM_at hb hj rfl] at h
    rw [eM_at hb1 hj rfl]
    exact h
  · rw [eM_at hb hj rfl] at h
    rw [eM_at hb1 hj rfl]
    exact va_at_q h (fun i hi => by
      show some (ad (b + 5 + i)) = some (ad1 (b1 + 5 + i))
      rw [Nat.add_assoc, Nat.add_assoc, hA (5 + i) (by omega)])
  · rw [eM_at hb hj rfl] at h
    rw [eM_at hb1 hj rfl]
    exact h
  · rw [eM_at hb hj rfl] at h
    rw [eM_at hb1 hj rfl]
    exact h
  · rw [eM_at hb hj rfl] at h
    rw [eM_at hb1 hj rfl]
    exact h
  · rw [eM_at hb hj rfl] at h
    rw [eM_at hb1 hj rfl]
    exact h
  · rw [eM_at hb hj rfl] at h
    rw [eM_at hb1 hj rfl]
    exact h
  · rw [eM_at hb hj rfl] at h
    rw [eM_at hb1 hj rfl]
    exact h
  · rw [eM_at hb hj rfl] at h
    rw [eM_at hb1 hj rfl]
    exact h
  · rw [eM_at hb hj rfl] at h
    rw [eM_at hb1 hj rfl]
    exact h
  · rw [eM_at hb hj rfl] at h
    rw [eM_at hb1 hj rfl]
    exact h
  · rw [eM_at hb hj rfl] at h
    rw [eM_at hb1 hj rfl]
    exact h
  · rw [eM_at hb hj rfl] at h
    rw [eM_at hb1 hj rfl]
    exact h
  · rw [eM_at hb hj rfl] at h
    rw [eM_at hb1 hj rfl]
    exact h
  · rw [eM_at hb hj rfl] at h
    rw [eM_at hb1 hj rfl]
    exact h
  · rw [eM_at hb hj rfl] at h
    rw [eM_at hb1 hj rfl]
    exact h
  · rw [eM_at hb hj rfl] at h
    rw [eM_at hb1 hj rfl]
    exact h
  · rw [eM_at hb hj rfl] at h
    rw [eM_at hb1 hj rfl]
    exact h
  · rw [eM_at hb hj rfl] at h
    rw [eM_at hb1 hj rfl]
    exact h
  · rw [eM_at hb hj rfl] at h
    rw [eM_at hb1 hj rfl]
    exact h
  · rw [eM_at hb hj rfl] at h
    rw [eM_at hb1 hj rfl]
    exact h
  · rw [eM_at hb hj rfl] at h
    rw [eM_at hb1 hj rfl]
    exact h
  · rw [eM_at hb hj rfl] at h
    rw [eM_at hb1 hj rfl]
    exact h
  · rw [eM_at hb hj rfl] at h
    rw [eM_at hb1 hj rfl]
    exact h
  · rw [eM_at hb hj rfl] at h
    rw [eM_at hb1 hj rfl]
    exact va_at_q h (fun i hi => by
      show some (ad (b + 28 + i)) = some (ad1 (b1 + 28 + i))
      rw [Nat.add_assoc, Nat.add_assoc, hA (28 + i) (by omega)])
  · rw [eM_at hb hj rfl] at h
    rw [eM_at hb1 hj rfl]
    exact h
  · rw [eM_at hb hj rfl] at h
    rw [eM_at hb1 hj rfl]
    exact h
  · rw [eM_at hb hj rfl] at h
    rw [eM_at hb1 hj rfl]
    exact va_at_q h (fun i hi => by
      show some (ad (b + 31 + i)) = some (ad1 (b1 + 31 + i))
      rw [Nat.add_assoc, Nat.add_assoc, hA (31 + i) (by omega)])
  · rw [eM_at hb hj rfl] at h
    rw [eM_at hb1 hj rfl]
    exact h
  · rw [eM_at hb hj rfl] at h
    rw [eM_at hb1 hj rfl]
    exact h
  · rw [eM_at hb hj rfl] at h
    rw [eM_at hb1 hj rfl]
    exact h
  · rw [eM_at hb hj rfl] at h
    rw [eM_at hb1 hj rfl]
    exact h
  · rw [eM_at hb hj rfl] at h
    rw [eM_at hb1 hj rfl]
    exact h
  · rw [eM_at hb hj rfl] at h
    rw [eM_at hb1 hj rfl]
    exact h
  · rw [eM_at hb hj rfl] at h
    rw [eM_at hb1 hj rfl]
    exact h
  · rw [eM_at hb hj rfl] at h
    rw [eM_at hb1 hj rfl]
    exact h
  · rw [eM_at hb hj rfl] at h
    rw [eM_at hb1 hj rfl]
    exact h
theorem q_ext {D : va_G} {S S1 : Nat → Prop} {ad ad2 : Nat → Nat} {cy : Nat → ClassId} {I : qI} {J : qJ} {H : Heap} {K : Nat} (hK : K = 40 ∨ K = 80) (h1 : ∀ k, S1 k → S k ∨ (K ≤ k ∧ k < K + 40)) (h2 : ∀ k, S k → k < 120 ∧ ¬ (K ≤ k ∧ k < K + 40)) (hfl : ∀ b, S b → (b = 0 ∨ b = 40 ∨ b = 80) → (I b 26 = 0 ∨ K = 40) ∧ (I b 27 = 0 ∨ K = 80)) (hP : qP D S ad (eM ad cy) I J H) (hP2 : qP D (fun k => k < 40) ad2 (eM ad2 cy) nI0 nJ0 H) : qP D S1 (exA K ad2 ad) (eM (exA K ad2 ad) cy) (blkI K I) (blkJ K J) H := by
  intro k hk
  rcases h1 k hk with h | h
  · obtain ⟨k120, ho⟩ := h2 k h
    rw [exA_out ho, blkI_out ho, blkJ_out ho]
    obtain ⟨b, j, hb, hj, rfl⟩ : ∃ b j, (b = 0 ∨ b = 40 ∨ b = 80) ∧ j < 40 ∧ k = b + j := by
      by_cases c1 : k < 40
      · exact ⟨0, k, Or.inl rfl, c1, by omega⟩
      · by_cases c2 : k < 80
        · exact ⟨40, k - 40, Or.inr (Or.inl rfl), by omega, by omega⟩
        · exact ⟨80, k - 80, Or.inr (Or.inr rfl), by omega, by omega⟩
    refine at_eM hb hb hj (fun i hi => exA_out (by omega)) (fun j0 => ?_) (hP _ h)
    subst j0
    obtain ⟨f1, f2⟩ := hfl b h hb
    exact ⟨f1.imp id fun e => exA_out (by omega), f2.imp id fun e => exA_out (by omega)⟩
  · obtain ⟨j, hj, rfl⟩ : ∃ j, j < 40 ∧ k = K + j := ⟨k - K, by omega, by omega⟩
    rw [exA_in hj, blkI_in hj, blkJ_in hj]
    refine at_eM (b := 0) (ad := ad2) (Or.inl rfl) (Or.inr hK) hj (fun i hi => by rw [exA_in hi, Nat.zero_add]) (fun j0 => by subst j0; exact ⟨Or.inl rfl, Or.inl rfl⟩) ?_
    rw [Nat.zero_add]
    exact hP2 j hj
theorem q_extN {S S1 : Nat → Prop} {ad ad2 : Nat → Nat} {K : Nat} (h1 : ∀ k, S1 k → S k ∨ (K ≤ k ∧ k < K + 40)) (h2 : ∀ k, S k → k < 120 ∧ ¬ (K ≤ k ∧ k < K + 40)) (hN : qN S ad) (hN2 : qN (fun k => k < 40) ad2) (hd : ∀ k, S k → ∀ j, j < 40 → ad k ≠ ad2 j) : qN S1 (exA K ad2 ad) := by
  intro i j hi hj e
  rcases h1 i hi with a1 | a1 <;> rcases h1 j hj with a2 | a2
  · rw [exA_out (h2 i a1).2, exA_out (h2 j a2).2] at e
    exact hN i j a1 a2 e
  · rw [exA_out (h2 i a1).2] at e
    unfold exA at e
    rw [if_pos a2] at e
    exact absurd e (hd i a1 _ (by omega))
  · rw [exA_out (h2 j a2).2] at e
    unfold exA at e
    rw [if_pos a1] at e
    exact absurd e.symm (hd j a2 _ (by omega))
  · unfold exA at e
    rw [if_pos a1, if_pos a2] at e
    have := hN2 _ _ (show i - K < 40 by omega) (show j - K < 40 by omega) e
    omega
/-- the reference's memory, when a second model must be there -/
def tdI (a : Bool) (I : qI) : qI := if a = true then I else qu (blkI 40 I) 0 27 1
def tdJ (a : Bool) (J : qJ) : qJ := if a = true then J else blkJ 40 J
def kdI (b : Bool) (I : qI) : qI := if b = true then I else qu (blkI 80 I) 0 26 1
def kdJ (b : Bool) (J : qJ) : qJ := if b = true then J else blkJ 80 J
def bkV (I : qI) : Option (Int32 × qI) := if I 0 26 = 0 then bd2 (f_X9_refuse (-1005 : Int32) I) (fun v I => some (v, I)) else f_X9_back_15 I
def mNew (D : va_G) (S S1 : Nat → Prop) (ad ad1 : Nat → Nat) (cy : Nat → ClassId) (sz : Nat) (I : qI) (J : qJ) (H : Heap) : Prop := qP D S1 ad1 (eM ad1 cy) I J H ∧ qN S1 ad1 ∧ ad1 0 = ad 0 ∧ ∀ k, S1 k → qA S ad (ad1 k) ∨ sz ≤ ad1 k
def mPre (D : va_G) (S : Nat → Prop) (ad : Nat → Nat) (cy : Nat → ClassId) (sa va : Nat → Nat) (sz : Nat) (I : qI) (J : qJ) (U : State) : Prop := qPre D S ad cy sa va (eM ad cy) I J U ∧ qMk U ∧ U.heap.size = sz
theorem mPre_blind {D : va_G} {S : Nat → Prop} {ad : Nat → Nat} {cy : Nat → ClassId} {sa va : Nat → Nat} {sz : Nat} {I : qI} {J : qJ} (av : List Value) : FrameBlind (va_Pc av (mPre D S ad cy sa va sz I J)) := by
  intro a U g mk q
  obtain ⟨q0, ⟨h1, h2, h3, h4⟩, h5, h6⟩ := q
  exact ⟨q0, ⟨h1, h2.same (s := U) (U := U.calling g mk a) rfl, h3.moved (u := U) (U := U.calling g mk a) (Vm.Alike.refl U.vm), h4⟩, h5.moved (u := U) (U := U.calling g mk a) (Vm.Alike.refl U.vm), h6⟩
abbrev fsX9 : List Value := [.null, .null, .null, .null, .null, .null, .null, .int 0, .null, .int 0, .int 0, .int 0, .int 0, .int 0, .int 0, .int 0, .int 0, .int 0, .int 0, .null, .null, .null, .null, .null, .null, .int 0, .null, .null, .int 0, .int 0, .int 0, .int 0, .int 0, .null, .int 0, .null, .null, .null, .null, .null, .int 0, .int 0]
theorem fsX9_ok : ∀ j, j < 42 → defaultValue (tyX9 j) = vp_V fsX9 j := fun j hj => by
  rcases (show j = 0 ∨ j = 1 ∨ j = 2 ∨ j = 3 ∨ j = 4 ∨ j = 5 ∨ j = 6 ∨ j = 7 ∨ j = 8 ∨ j = 9 ∨ j = 10 ∨ j = 11 ∨ j = 12 ∨ j = 13 ∨ j = 14 ∨ j = 15 ∨ j = 16 ∨ j = 17 ∨ j = 18 ∨ j = 19 ∨ j = 20 ∨ j = 21 ∨ j = 22 ∨ j = 23 ∨ j = 24 ∨ j = 25 ∨ j = 26 ∨ j = 27 ∨ j = 28 ∨ j = 29 ∨ j = 30 ∨ j = 31 ∨ j = 32 ∨ j = 33 ∨ j = 34 ∨ j = 35 ∨ j = 36 ∨ j = 37 ∨ j = 38 ∨ j = 39 ∨ j = 40 ∨ j = 41 by omega) with rfl | rfl | rfl | rfl | rfl | rfl | rfl | rfl | rfl | rfl | rfl | rfl | rfl | rfl | rfl | rfl | rfl | rfl | rfl | rfl | rfl | rfl | rfl | rfl | rfl | rfl | rfl | rfl | rfl | rfl | rfl | rfl | rfl | rfl | rfl | rfl | rfl | rfl | rfl | rfl | rfl | rfl <;> rfl
set_option maxHeartbeats 4000000 in
set_option maxRecDepth 100000 in
theorem c_X9_bank (l : Launch) {D : va_G} {ad : Nat → Nat} {cy : Nat → ClassId} {sa va : Nat → Nat} {I : qI} {J : qJ} (a b : Bool) (sz : Nat) (ha : I 0 27 = b2i a) (hb8 : b = true → I 80 27 = 0) {r : Int32} {Ie : qI} (hf : f_X9_bank_18 (tdI a I) = some (r, Ie)) : Met l yX9_bank wsX9_bank r_X9_bank (va_Pc [.ref (ad 0)] (mPre D (mS a b) ad cy sa va sz I J)) (va_Qi (S := Nat → Nat) (fun x _ => x = r) (fun ad1 t => mNew D (mS a b) (mS true b) ad ad1 cy sz Ie (tdJ a J) t.heap) (fun q => qA (mS a b) ad q ∨ sz ≤ q)) 40 4180 (fun q => qA (mS a b) ad q ∨ sz ≤ q) := by
  refine Met.ofW (cc := cX9_bank) (maxL := 2) (ret := some .int) (by decide) rfl ?_
  intro p e s m args below meth c s₁ B hml hv
  obtain ⟨rfl, ⟨hP, hK, hE, hN⟩, hM, hsz⟩ := hv
  have C : qC p s m _ meth c cX9_bank 2 RX9 wsX9_bank (some .int) := ⟨⟨B.exec, B.bytes, hml, findClass_of_methodNamed B.named, atoms_spec (ws := wsX9_bank) B.pre⟩, B.returns, B.notSynchronized⟩
  have C0 := C
  obtain ⟨⟨hx, hb, hml, hown, hts⟩, hr, hlocks⟩ := C0
  have hS : va_S (qA (mS a b) ad) s.heap s.heap [] := va_S.rf
  have hl := lv_entry ([.ref (ad 0)]) (n := 2) (Nat.le_of_ble_eq_true rfl)
  rw [lg_entry_eq]
  generalize (lg_sl ([.ref (ad 0)]) ++ List.replicate (2 - (lg_sl ([.ref (ad 0)])).length) Slot.unset).toArray = ls at hl ⊢
  have hl : lv_has ls 2 [(0, .ref (ad 0))] := hl
  subst hsz
  refine lv_aload_n hx hb dX9_bank_0 rfl (lv_at hl 0 rfl) ?_
  cases a with
  | true =>
    refine q_get (C := RX9) (T := TX9) (N := 42) (ci := 9) (v := .ref (ad 40)) hx hb hts in_X9_bank_X9 hown hK hP (oX9 mS_0) rfl 27 (by decide) (hts (.fieldLink RX9 241 "RowsOnlyPrimesModel" "tried" "LRowsOnlyPrimesModel;") (by decide +kernel)) (fun _ h9 => h9) (fl_tried (by rw [ha]; decide)) dX9_bank_1 ?_
    refine lv_ifnonnull (tgt := 18) hx hb dX9_bank_4 (by decide) ?_
    refine W.widen (k := 40) (n := 4180) (Nat.le_of_ble_eq_true rfl) (Nat.le_of_ble_eq_true rfl) ?_
    exact w_X9_bank_18 C hK hE hN mS_0 mS_40 (fun t h1 h2 => ⟨⟨r, ad, rfl, rfl, h1, hN, rfl, fun k hk => Or.inl ⟨k, hk, rfl⟩⟩, h2.1, fun q g1 g2 => h2.2 q g1 (fun z => g2 (Or.inl z))⟩) (fun q h => Or.inl h) I ls _ [] hf hl hP hS
  | false =>
    have h0 : I 0 27 = 0 := ha
    refine q_get (C := RX9) (T := TX9) (N := 42) (ci := 9) (v := .null) hx hb hts in_X9_bank_X9 hown hK hP (oX9 mS_0) rfl 27 (by decide) (hts (.fieldLink RX9 241 "RowsOnlyPrimesModel" "tried" "LRowsOnlyPrimesModel;") (by decide +kernel)) (fun _ h9 => h9) (fl_tried0 h0) dX9_bank_1 ?_
    refine lv_ifnonnullN hx hb dX9_bank_4 ?_
    refine lv_aload_n hx hb dX9_bank_7 rfl (lv_at hl 0 rfl) ?_
    refine va_new (D := D) (cl := vwCl) (tys := qT cy) (ws := []) (A := fun q => s.heap.size ≤ q) (H0 := s.heap) (ci := 9) (fs := fsX9) (C := RX9) (T := TX9) (N := 42) hx hb hts in_X9_bank_X9 tyX9 tyX9_ok hown (hts (.classLink RX9 8 RX9) (by decide +kernel)) (hts (.instantiable RX9 42) (by decide +kernel)) (hts (.initialized RX9) (by decide +kernel)) hK.1 (fun k q h => by simp at h) ⟨fun i j x y h _ _ => by simp at h, fun k q h => by simp at h⟩ va_S.rf (fun q h => h) rfl fsX9_ok (Nat.le_of_ble_eq_true rfl) (Nat.le_of_ble_eq_true rfl) dX9_bank_8 (fun q H1 hP1 hD1 hS1 => ?_)
    refine lv_dup hx hb dX9_bank_11 rfl ?_
    have hq : s.heap.size ≤ q := hD1.2 0 (q, .inr (9, fsX9)) rfl
    have hPc : va_P D vwCl [(q, .inr (9, fsX9))] H1 := hP1
    have hFc : ∀ x, va_A [(q, .inr (9, fsX9))] H1.size x → s.heap.size ≤ x := by
      intro x h
      rcases h with ⟨k, e, h⟩ | h
      · have : k < 1 := (List.getElem?_eq_some_iff.mp h).1
        rw [show k = 0 by omega] at h
        cases h
        exact hq
      · exact Nat.le_trans hS1.1 h
    have hTd : qSt "TOLD_FIRST" qTab1 (va_A [(q, .inr (9, fsX9))] H1.size) s H1 := (hE.1.2.1.fresh (fun x hx1 hlt => absurd (hFc x hx1) (Nat.not_le.mpr hlt))).kept (fun x hlt _ => hS1.2.1 x hlt (Nat.not_le.mpr hlt))
    refine va_callv (A0 := fun q => s.heap.size ≤ q) (va_runI (As := []) (rest := [.ref q, .ref (ad 0)]) ⟨hx, hb, hml, hown, hts⟩ (c_X9_init l (D := D) (cy := cy) (sa := sa) q H1.size) (cwI 0 hts gX9_bank_X9_init rfl rfl rfl (hts (.initialized RX9) (by decide +kernel)) (hts (.methodLink RX9 245 yX9_init) (by decide +kernel)) (hts (.instanceMethod yX9_init) (by decide +kernel)) rfl (by decide +kernel) ⟨Nat.le_of_ble_eq_true rfl, Nat.le_of_ble_eq_true rfl⟩) ⟨qIn_blind, fun U hU hW => ⟨rfl, by rw [hU], by rw [hU]; exact hPc, hK.warm hW, hM.moved hW.alike, by rw [hU]; exact hTd.moved hW.alike⟩⟩ rfl rfl hl.1 rfl (lv_room (Nat.le_of_ble_eq_true rfl)) dX9_bank_12 ⟨Nat.le_of_ble_eq_true rfl, Nat.le_of_ble_eq_true rfl⟩) hS1 (fun x _ h => hFc x h) hFc (fun u t H2 locs ht hvm hw hB hz1 hk1 hS2 => ?_)
    obtain ⟨ad2, e0, hP2, hN2, hfr⟩ := hB
    rw [ht] at hP2
    refine va_forget (fun x hx1 => hS2.2.2 x hx1) ?_
    have hlo : ∀ k, (mS false b) k → ad k < s.heap.size := fun k hk => (hP k hk).lt
    have hhi : ∀ j, j < 40 → s.heap.size ≤ ad2 j := fun j hj => by
      by_cases j0 : j = 0
      · rw [j0, e0]; exact hq
      · exact Nat.le_trans hS1.1 (hfr j hj j0)
    have hP0 : qP D (mS false b) ad (eM ad cy) I J H2 := hP.kept (fun x hlt _ => hS2.2.1 x hlt (Nat.not_le.mpr hlt))
    have g1 : ∀ k, (mS true b) k → (mS false b) k ∨ (40 ≤ k ∧ k < 40 + 40) := fun k hk => by
      rcases hk with h | ⟨e, h⟩ | ⟨e, h⟩
      · exact Or.inl (Or.inl h)
      · exact Or.inr (by omega)
      · exact Or.inl (Or.inr (Or.inr ⟨e, h⟩))
    have g2 : ∀ k, (mS false b) k → k < 120 ∧ ¬ (40 ≤ k ∧ k < 40 + 40) := fun k hk => by
      unfold mS at hk
      simp only [Bool.false_eq_true, false_and, false_or, or_false, true_and] at hk
      omega
    have g3 : ∀ x, (mS false b) x → (x = 0 ∨ x = 40 ∨ x = 80) → (I x 26 = 0 ∨ 40 = 40) ∧ (I x 27 = 0 ∨ 40 = 80) := fun x hx1 h => by
      refine ⟨Or.inr rfl, Or.inl ?_⟩
      rcases h with rfl | rfl | rfl
      · exact h0
      · exact absurd (g2 _ hx1).2 (by decide)
      · rcases hx1 with z | ⟨z, -⟩ | ⟨z, -⟩
        · omega
        · cases z
        · exact hb8 z
    have hP3 := q_ext (Or.inl rfl) g1 g2 g3 hP0 hP2
    have hN3 := q_extN g1 g2 hN hN2 (fun k hk j hj e => absurd (hlo k hk) (by rw [e]; exact Nat.not_lt.mpr (hhi j hj)))
    have hA3 : ∀ k, (mS true b) k → qA (mS false b) ad (exA 40 ad2 ad k) ∨ s.heap.size ≤ exA 40 ad2 ad k := fun k hk => by
      rcases g1 k hk with h | h
      · rw [exA_out (g2 k h).2]
        exact Or.inl ⟨k, h, rfl⟩
      · unfold exA
        rw [if_pos h]
        exact Or.inr (hhi _ (by omega))
    have hS3 : va_S (qA (mS true b) (exA 40 ad2 ad)) s.heap H2 [] := ⟨hS2.1, fun x hlt _ => hS2.2.1 x hlt (Nat.not_le.mpr hlt), fun _ h => by cases h⟩
    have hE3 : qEnv sa va (qA (mS true b) (exA 40 ad2 ad)) s s.heap := hE.fresh (fun x hx1 hlt => by
      obtain ⟨k, hk, e⟩ := hx1
      rw [e] at hlt ⊢
      exact (hA3 k hk).resolve_right (Nat.not_le.mpr hlt))
    have hl3 : lv_has ls 2 [(0, .ref (exA 40 ad2 ad 0))] := by
      rw [show exA 40 ad2 ad 0 = ad 0 from exA_out (by decide)]; exact hl
    refine W.eq (g2 := F0 m 15 ls [.ref (exA 40 ad2 ad 40), .ref (exA 40 ad2 ad 0)]) (by
      rw [show exA 40 ad2 ad 40 = q from (exA_in (K := 40) (j := 0) (by decide)).trans e0, show exA 40 ad2 ad 0 = ad 0 from exA_out (by decide)]) ?_
    refine q_put (C := RX9) (T := TX9) (N := 42) (ci := 9) (v := .ref (exA 40 ad2 ad 40)) (x := (1 : Int32)) (ty := .object "RowsOnlyPrimesModel") hx hb hts in_X9_bank_X9 tyX9 tyX9_ok nmX9 hown hK hP3 hN3 hS3 (oX9 mS_0) rfl 27 (by decide) (hts (.fieldLink RX9 241 "RowsOnlyPrimesModel" "tried" "LRowsOnlyPrimesModel;") (by decide +kernel)) (fun _ h9 => h9) rfl (by decide +kernel) rfl rfl (fun _ _ => rfl) (fun _ _ => Nat.le_of_ble_eq_true rfl) dX9_bank_15 (fun H3 locs3 hP4 hS4 => ?_)
    exact w_X9_bank_18 C hK hE3 hN3 mS_0 mS_40 (fun t h1 h2 => ⟨⟨r, exA 40 ad2 ad, rfl, rfl, h1, hN3, exA_out (by decide), hA3⟩, h2.1, fun x z1 z2 => h2.2 x z1 (fun z => z2 (by
      obtain ⟨k, hk, e⟩ := z
      rw [e]
      exact hA3 k hk))⟩) (fun x z => by
      obtain ⟨k, hk, e⟩ := z
      rw [e]
      exact hA3 k hk) _ ls _ _ hf hl3 hP4 hS4
set_option maxHeartbeats 4000000 in
set_option maxRecDepth 100000 in
theorem c_X9_image (l : Launch) {D : va_G} {ad : Nat → Nat} {cy : Nat → ClassId} {sa va : Nat → Nat} {I : qI} {J : qJ} (a b : Bool) (sz : Nat) (ha : I 0 26 = b2i b) (hb8 : a = true → I 40 26 = 0) {r : Int32} {Ie : qI} (hf : f_X9_image_18 (kdI b I) = some (r, Ie)) : Met l yX9_image wsX9_image r_X9_image (va_Pc [.ref (ad 0)] (mPre D (mS a b) ad cy sa va sz I J)) (va_Qi (S := Nat → Nat) (fun x _ => x = r) (fun ad1 t => mNew D (mS a b) (mS a true) ad ad1 cy sz Ie (kdJ b J) t.heap) (fun q => qA (mS a b) ad q ∨ sz ≤ q)) 40 4180 (fun q => qA (mS a b) ad q ∨ sz ≤ q) := by
  refine Met.ofW (cc := cX9_image) (maxL := 1) (ret := some .int) (by decide) rfl ?_
  intro p e s m args below meth c s₁ B hml hv
  obtain ⟨rfl, ⟨hP, hK, hE, hN⟩, hM, hsz⟩ := hv
  have C : qC p s m _ meth c cX9_image 1 RX9 wsX9_image (some .int) := ⟨⟨B.exec, B.bytes, hml, findClass_of_methodNamed B.named, atoms_spec (ws := wsX9_image) B.pre⟩, B.returns, B.notSynchronized⟩
  have C0 := C
  obtain ⟨⟨hx, hb, hml, hown, hts⟩, hr, hlocks⟩ := C0
  have hS : va_S (qA (mS a b) ad) s.heap s.heap [] := va_S.rf
  have hl := lv_entry ([.ref (ad 0)]) (n := 1) (Nat.le_of_ble_eq_true rfl)
  rw [lg_entry_eq]
  generalize (lg_sl ([.ref (ad 0)]) ++ List.replicate (1 - (lg_sl ([.ref (ad 0)])).length) Slot.unset).toArray = ls at hl ⊢
  have hl : lv_has ls 1 [(0, .ref (ad 0))] := hl
  subst hsz
  refine lv_aload_n hx hb dX9_image_0 rfl (lv_at hl 0 rfl) ?_
  cases b with
  | true =>
    refine q_get (C := RX9) (T := TX9) (N := 42) (ci := 9) (v := .ref (ad 80)) hx hb hts in_X9_image_X9 hown hK hP (oX9 mS_0) rfl 26 (by decide) (hts (.fieldLink RX9 361 "RowsOnlyPrimesModel" "kept" "LRowsOnlyPrimesModel;") (by decide +kernel)) (fun _ h9 => h9) (fl_kept (by rw [ha]; decide)) dX9_image_1 ?_
    refine lv_ifnonnull (tgt := 18) hx hb dX9_image_4 (by decide) ?_
    refine W.widen (k := 40) (n := 4180) (Nat.le_of_ble_eq_true rfl) (Nat.le_of_ble_eq_true rfl) ?_
    exact w_X9_image_18 C hK hE hN mS_0 mS_80 (fun t h1 h2 => ⟨⟨r, ad, rfl, rfl, h1, hN, rfl, fun k hk => Or.inl ⟨k, hk, rfl⟩⟩, h2.1, fun q g1 g2 => h2.2 q g1 (fun z => g2 (Or.inl z))⟩) (fun q h => Or.inl h) I ls _ [] hf hl hP hS
  | false =>
    have h0 : I 0 26 = 0 := ha
    refine q_get (C := RX9) (T := TX9) (N := 42) (ci := 9) (v := .null) hx hb hts in_X9_image_X9 hown hK hP (oX9 mS_0) rfl 26 (by decide) (hts (.fieldLink RX9 361 "RowsOnlyPrimesModel" "kept" "LRowsOnlyPrimesModel;") (by decide +kernel)) (fun _ h9 => h9) (fl_kept0 h0) dX9_image_1 ?_
    refine lv_ifnonnullN hx hb dX9_image_4 ?_
    refine lv_aload_n hx hb dX9_image_7 rfl (lv_at hl 0 rfl) ?_
    refine va_new (D := D) (cl := vwCl) (tys := qT cy) (ws := []) (A := fun q => s.heap.size ≤ q) (H0 := s.heap) (ci := 9) (fs := fsX9) (C := RX9) (T := TX9) (N := 42) hx hb hts in_X9_image_X9 tyX9 tyX9_ok hown (hts (.classLink RX9 8 RX9) (by decide +kernel)) (hts (.instantiable RX9 42) (by decide +kernel)) (hts (.initialized RX9) (by decide +kernel)) hK.1 (fun k q h => by simp at h) ⟨fun i j x y h _ _ => by simp at h, fun k q h => by simp at h⟩ va_S.rf (fun q h => h) rfl fsX9_ok (Nat.le_of_ble_eq_true rfl) (Nat.le_of_ble_eq_true rfl) dX9_image_8 (fun q H1 hP1 hD1 hS1 => ?_)
    refine lv_dup hx hb dX9_image_11 rfl ?_
    have hq : s.heap.size ≤ q := hD1.2 0 (q, .inr (9, fsX9)) rfl
    have hPc : va_P D vwCl [(q, .inr (9, fsX9))] H1 := hP1
    have hFc : ∀ x, va_A [(q, .inr (9, fsX9))] H1.size x → s.heap.size ≤ x := by
      intro x h
      rcases h with ⟨k, e, h⟩ | h
      · have : k < 1 := (List.getElem?_eq_some_iff.mp h).1
        rw [show k = 0 by omega] at h
        cases h
        exact hq
      · exact Nat.le_trans hS1.1 h
    have hTd : qSt "TOLD_FIRST" qTab1 (va_A [(q, .inr (9, fsX9))] H1.size) s H1 := (hE.1.2.1.fresh (fun x hx1 hlt => absurd (hFc x hx1) (Nat.not_le.mpr hlt))).kept (fun x hlt _ => hS1.2.1 x hlt (Nat.not_le.mpr hlt))
    refine va_callv (A0 := fun q => s.heap.size ≤ q) (va_runI (As := []) (rest := [.ref q, .ref (ad 0)]) ⟨hx, hb, hml, hown, hts⟩ (c_X9_init l (D := D) (cy := cy) (sa := sa) q H1.size) (cwI 0 hts gX9_image_X9_init rfl rfl rfl (hts (.initialized RX9) (by decide +kernel)) (hts (.methodLink RX9 245 yX9_init) (by decide +kernel)) (hts (.instanceMethod yX9_init) (by decide +kernel)) rfl (by decide +kernel) ⟨Nat.le_of_ble_eq_true rfl, Nat.le_of_ble_eq_true rfl⟩) ⟨qIn_blind, fun U hU hW => ⟨rfl, by rw [hU], by rw [hU]; exact hPc, hK.warm hW, hM.moved hW.alike, by rw [hU]; exact hTd.moved hW.alike⟩⟩ rfl rfl hl.1 rfl (lv_room (Nat.le_of_ble_eq_true rfl)) dX9_image_12 ⟨Nat.le_of_ble_eq_true rfl, Nat.le_of_ble_eq_true rfl⟩) hS1 (fun x _ h => hFc x h) hFc (fun u t H2 locs ht hvm hw hB hz1 hk1 hS2 => ?_)
    obtain ⟨ad2, e0, hP2, hN2, hfr⟩ := hB
    rw [ht] at hP2
    refine va_forget (fun x hx1 => hS2.2.2 x hx1) ?_
    have hlo : ∀ k, (mS a false) k → ad k < s.heap.size := fun k hk => (hP k hk).lt
    have hhi : ∀ j, j < 40 → s.heap.size ≤ ad2 j := fun j hj => by
      by_cases j0 : j = 0
      · rw [j0, e0]; exact hq
      · exact Nat.le_trans hS1.1 (hfr j hj j0)
    have hP0 : qP D (mS a false) ad (eM ad cy) I J H2 := hP.kept (fun x hlt _ => hS2.2.1 x hlt (Nat.not_le.mpr hlt))
    have g1 : ∀ k, (mS a true) k → (mS a false) k ∨ (80 ≤ k ∧ k < 80 + 40) := fun k hk => by
      rcases hk with h | ⟨e, h⟩ | ⟨e, h⟩
      · exact Or.inl (Or.inl h)
      · exact Or.inl (Or.inr (Or.inl ⟨e, h⟩))
      · exact Or.inr (by omega)
    have g2 : ∀ k, (mS a false) k → k < 120 ∧ ¬ (80 ≤ k ∧ k < 80 + 40) := fun k hk => by
      unfold mS at hk
      simp only [Bool.false_eq_true, false_and, false_or, or_false, true_and] at hk
      omega
    have g3 : ∀ x, (mS a false) x → (x = 0 ∨ x = 40 ∨ x = 80) → (I x 26 = 0 ∨ 80 = 40) ∧ (I x 27 = 0 ∨ 80 = 80) := fun x hx1 h => by
      refine ⟨Or.inl ?_, Or.inr rfl⟩
      rcases h with rfl | rfl | rfl
      · exact h0
      · rcases hx1 with z | ⟨z, -⟩ | ⟨z, -⟩
        · omega
        · exact hb8 z
        · cases z
      · exact absurd (g2 _ hx1).2 (by decide)
    have hP3 := q_ext (Or.inr rfl) g1 g2 g3 hP0 hP2
    have hN3 := q_extN g1 g2 hN hN2 (fun k hk j hj e => absurd (hlo k hk) (by rw [e]; exact Nat.not_lt.mpr (hhi j hj)))
    have hA3 : ∀ k, (mS a true) k → qA (mS a false) ad (exA 80 ad2 ad k) ∨ s.heap.size ≤ exA 80 ad2 ad k := fun k hk => by
      rcases g1 k hk with h | h
      · rw [exA_out (g2 k h).2]
        exact Or.inl ⟨k, h, rfl⟩
      · unfold exA
        rw [if_pos h]
        exact Or.inr (hhi _ (by omega))
    have hS3 : va_S (qA (mS a true) (exA 80 ad2 ad)) s.heap H2 [] := ⟨hS2.1, fun x hlt _ => hS2.2.1 x hlt (Nat.not_le.mpr hlt), fun _ h => by cases h⟩
    have hE3 : qEnv sa va (qA (mS a true) (exA 80 ad2 ad)) s s.heap := hE.fresh (fun x hx1 hlt => by
      obtain ⟨k, hk, e⟩ := hx1
      rw [e] at hlt ⊢
      exact (hA3 k hk).resolve_right (Nat.not_le.mpr hlt))
    have hl3 : lv_has ls 1 [(0, .ref (exA 80 ad2 ad 0))] := by
      rw [show exA 80 ad2 ad 0 = ad 0 from exA_out (by decide)]; exact hl
    refine W.eq (g2 := F0 m 15 ls [.ref (exA 80 ad2 ad 80), .ref (exA 80 ad2 ad 0)]) (by
      rw [show exA 80 ad2 ad 80 = q from (exA_in (K := 80) (j := 0) (by decide)).trans e0, show exA 80 ad2 ad 0 = ad 0 from exA_out (by decide)]) ?_
    refine q_put (C := RX9) (T := TX9) (N := 42) (ci := 9) (v := .ref (exA 80 ad2 ad 80)) (x := (1 : Int32)) (ty := .object "RowsOnlyPrimesModel") hx hb hts in_X9_image_X9 tyX9 tyX9_ok nmX9 hown hK hP3 hN3 hS3 (oX9 mS_0) rfl 26 (by decide) (hts (.fieldLink RX9 361 "RowsOnlyPrimesModel" "kept" "LRowsOnlyPrimesModel;") (by decide +kernel)) (fun _ h9 => h9) rfl (by decide +kernel) rfl rfl (fun _ _ => rfl) (fun _ _ => Nat.le_of_ble_eq_true rfl) dX9_image_15 (fun H3 locs3 hP4 hS4 => ?_)
    exact w_X9_image_18 C hK hE3 hN3 mS_0 mS_80 (fun t h1 h2 => ⟨⟨r, exA 80 ad2 ad, rfl, rfl, h1, hN3, exA_out (by decide), hA3⟩, h2.1, fun x z1 z2 => h2.2 x z1 (fun z => z2 (by
      obtain ⟨k, hk, e⟩ := z
      rw [e]
      exact hA3 k hk))⟩) (fun x z => by
      obtain ⟨k, hk, e⟩ := z
      rw [e]
      exact hA3 k hk) _ ls _ _ hf hl3 hP4 hS4
set_option maxHeartbeats 4000000 in
set_option maxRecDepth 100000 in
theorem c_X9_back (l : Launch) {D : va_G} {ad : Nat → Nat} {cy : Nat → ClassId} {sa va : Nat → Nat} {I : qI} {J : qJ} (a b : Bool) (sz : Nat) (ha : I 0 26 = b2i b) {r : Int32} {Ie : qI} (hf : bkV I = some (r, Ie)) : Met l yX9_back wsX9_back r_X9_back (va_Pc [.ref (ad 0)] (mPre D (mS a b) ad cy sa va sz I J)) (va_Qi (S := Nat → Nat) (fun x _ => x = r) (fun ad1 t => mNew D (mS a b) (mS a b) ad ad1 cy sz Ie J t.heap) (fun q => qA (mS a b) ad q ∨ sz ≤ q)) 40 4180 (fun q => qA (mS a b) ad q ∨ sz ≤ q) := by
  refine Met.ofW (cc := cX9_back) (maxL := 2) (ret := some .int) (by decide) rfl ?_
  intro p e s m args below meth c s₁ B hml hv
  obtain ⟨rfl, ⟨hP, hK, hE, hN⟩, hM, hsz⟩ := hv
  have C : qC p s m _ meth c cX9_back 2 RX9 wsX9_back (some .int) := ⟨⟨B.exec, B.bytes, hml, findClass_of_methodNamed B.named, atoms_spec (ws := wsX9_back) B.pre⟩, B.returns, B.notSynchronized⟩
  have C0 := C
  obtain ⟨⟨hx, hb, hml, hown, hts⟩, hr, hlocks⟩ := C0
  have hS : va_S (qA (mS a b) ad) s.heap s.heap [] := va_S.rf
  have hl := lv_entry ([.ref (ad 0)]) (n := 2) (Nat.le_of_ble_eq_true rfl)
  rw [lg_entry_eq]
  generalize (lg_sl ([.ref (ad 0)]) ++ List.replicate (2 - (lg_sl ([.ref (ad 0)])).length) Slot.unset).toArray = ls at hl ⊢
  have hl : lv_has ls 2 [(0, .ref (ad 0))] := hl
  refine W.widen (k := 40) (n := 4180) (Nat.le_of_ble_eq_true rfl) (Nat.le_of_ble_eq_true rfl) ?_
  refine lv_aload_n hx hb dX9_back_0 rfl (lv_at hl 0 rfl) ?_
  unfold bkV at hf
  cases b with
  | true =>
    have hn : ¬ I 0 26 = 0 := by rw [ha]; decide
    rw [if_neg hn] at hf
    refine q_get (C := RX9) (T := TX9) (N := 42) (ci := 9) (v := .ref (ad 80)) hx hb hts in_X9_back_X9 hown hK hP (oX9 mS_0) rfl 26 (by decide) (hts (.fieldLink RX9 361 "RowsOnlyPrimesModel" "kept" "LRowsOnlyPrimesModel;") (by decide +kernel)) (fun _ h9 => h9) (fl_kept hn) dX9_back_1 ?_
    refine lv_ifnonnull (tgt := 15) hx hb dX9_back_4 (by decide) ?_
    exact w_X9_back_15 C hK hE hN mS_0 mS_80 (fun t h1 h2 => ⟨⟨r, ad, rfl, rfl, h1, hN, rfl, fun k hk => Or.inl ⟨k, hk, rfl⟩⟩, h2.1, fun q g1 g2 => h2.2 q g1 (fun z => g2 (Or.inl z))⟩) (fun q h => Or.inl h) I ls _ [] hf hl hP hS
  | false =>
    have h0 : I 0 26 = 0 := ha
    rw [if_pos h0] at hf
    refine q_get (C := RX9) (T := TX9) (N := 42) (ci := 9) (v := .null) hx hb hts in_X9_back_X9 hown hK hP (oX9 mS_0) rfl 26 (by decide) (hts (.fieldLink RX9 361 "RowsOnlyPrimesModel" "kept" "LRowsOnlyPrimesModel;") (by decide +kernel)) (fun _ h9 => h9) (fl_kept0 h0) dX9_back_1 ?_
    refine lv_ifnonnullN hx hb dX9_back_4 ?_
    refine lv_aload_n hx hb dX9_back_7 rfl (lv_at hl 0 rfl) ?_
    refine lv_sipush (v := -1005) hx hb dX9_back_8 (by decide) ?_
    obtain ⟨v1, I1, h3, hf⟩ := bd2_ok hf
    refine q_cEi (va_runV (As := [.int (-1005 : Int32)]) (rest := []) ⟨hx, hb, hml, hown, hts⟩ (c_X9_refuse l (D := D) (ad := ad) (cy := cy) (sa := sa) (va := va) (I := I) (J := J) (S := mS a false) mS_0 (-1005 : Int32) h3) (cwV 1 hts gX9_back_X9_refuse rfl rfl rfl (by decide +kernel) ⟨Nat.le_of_ble_eq_true rfl, Nat.le_of_ble_eq_true rfl⟩) ⟨qPre_blind _, q_recv hK hP (oX9 mS_0) rfl, fun U hU hW => ⟨rfl, qPre_of hP hK hE hN hS U hU hW⟩⟩ rfl rfl hl.1 rfl (lv_room (Nat.le_of_ble_eq_true rfl)) dX9_back_11 ⟨Nat.le_of_ble_eq_true rfl, Nat.le_of_ble_eq_true rfl⟩) hS (fun H locs hP hS => ?_)
    have e9 := Option.some.inj hf
    have eI9 : I1 = Ie := congrArg Prod.snd e9
    have er9 : v1 = r := congrArg Prod.fst e9
    subst er9
    subst eI9
    exact W.iret hx hb hr (fun t ht _ => ⟨⟨v1, ad, rfl, rfl, by rw [ht]; exact hP, hN, rfl, fun k hk => Or.inl ⟨k, hk, rfl⟩⟩, by rw [ht]; exact hS.1, fun q g1 g2 => by rw [ht]; exact hS.2.1 q g1 (fun z => g2 (Or.inl z))⟩) (fun q hq => Or.inl (hS.2.2 q hq)) dX9_back_14
