/-! Pure: a bank's entries, put anew. -/
def vu (V : qV) (i j v : Nat) : qV := fun a b => if a = i ∧ b = j then v else V a b
def zu (Z : qW) (k : Nat) (v : Int32) : qW := fun a => if a = k then v else Z a
theorem vu_s {V : qV} {i j v : Nat} : vu V i j v i j = v := if_pos ⟨rfl, rfl⟩
theorem vu_o {V : qV} {i j v a b : Nat} (h : ¬ (a = i ∧ b = j)) : vu V i j v a b = V a b := if_neg h
theorem vu_r {V : qV} {i j v a b : Nat} (h : a ≠ i) : vu V i j v a b = V a b := if_neg fun q => h q.1
theorem zu_s {Z : qW} {k : Nat} {v : Int32} : zu Z k v k = v := if_pos rfl
theorem zu_o {Z : qW} {k a : Nat} {v : Int32} (h : a ≠ k) : zu Z k v a = Z a := if_neg h
theorem XV.mk2 {I : qI} {b : Nat} {V : qV} {Z : qW} (h0 : ∀ i j, i < 6 → j < 8 → I (b + 1 + i) j = nI (V i j)) (h6 : ∀ j, j < 5 → I (b + 7) j = nI (V 6 j)) (h7 : I b 7 = nI (V 7 0)) (h8 : I b 8 = nI (V 8 0)) (hz : ∀ k, 9 ≤ k → k ≤ 12 → I b k = Z k) : XV I b V Z :=
  ⟨⟨fun j h => h0 0 j (by decide) h, fun j h => h0 1 j (by decide) h, fun j h => h0 2 j (by decide) h, fun j h => h0 3 j (by decide) h, fun j h => h0 4 j (by decide) h, fun j h => h0 5 j (by decide) h⟩, h6, ⟨h7, h8⟩, hz 9 (by decide) (by decide), hz 10 (by decide) (by decide), hz 11 (by decide) (by decide), hz 12 (by decide) (by decide)⟩
theorem XV.a {I : qI} {b : Nat} {V : qV} {Z : qW} (h : XV I b V Z) {i j : Nat} (hi : i < 6) (hj : j < 8) : I (b + 1 + i) j = nI (V i j) := by
  obtain ⟨⟨a0, a1, a2, a3, a4, a5⟩, -⟩ := h
  rcases (show i = 0 ∨ i = 1 ∨ i = 2 ∨ i = 3 ∨ i = 4 ∨ i = 5 by omega) with rfl | rfl | rfl | rfl | rfl | rfl
  · exact a0 j hj
  · exact a1 j hj
  · exact a2 j hj
  · exact a3 j hj
  · exact a4 j hj
  · exact a5 j hj
theorem XV.z {I : qI} {b : Nat} {V : qV} {Z : qW} (h : XV I b V Z) {k : Nat} (h1 : 9 ≤ k) (h2 : k ≤ 12) : I b k = Z k := by
  obtain ⟨-, -, -, a0, a1, a2, a3⟩ := h
  rcases (show k = 9 ∨ k = 10 ∨ k = 11 ∨ k = 12 by omega) with rfl | rfl | rfl | rfl <;> assumption
theorem XV.up {I : qI} {b : Nat} {V : qV} {Z : qW} (h : XV I b V Z) {i j v : Nat} {x : Int32} (hi : i < 6) (hx : x = nI v) : XV (qu I (b + 1 + i) j x) b (vu V i j v) Z := by
  subst hx
  refine XV.mk2 (fun a c ha hc => ?_) (fun c hc => ?_) ?_ ?_ (fun k h1 h2 => ?_)
  · rw [qu_at]
    by_cases e : a = i
    · subst e
      rw [if_pos rfl]
      by_cases f : c = j
      · subst f; rw [if_pos rfl, vu_s]
      · rw [if_neg f, vu_o (fun q => f q.2)]; exact h.a ha hc
    · rw [if_neg (by omega), vu_r e]; exact h.a ha hc
  · rw [qu_k (by omega), vu_r (by omega)]; exact h.2.1 c hc
  · rw [qu_k (by omega), vu_r (by omega)]; exact h.2.2.1.1
  · rw [qu_k (by omega), vu_r (by omega)]; exact h.2.2.1.2
  · rw [qu_k (by omega)]; exact h.z h1 h2
theorem XV.told {I : qI} {b : Nat} {V : qV} {Z : qW} (h : XV I b V Z) {j v : Nat} {x : Int32} (hx : x = nI v) : XV (qu I (b + 7) j x) b (vu V 6 j v) Z := by
  subst hx
  refine XV.mk2 (fun a c ha hc => ?_) (fun c hc => ?_) ?_ ?_ (fun k h1 h2 => ?_)
  · rw [qu_k (by omega), vu_r (by omega)]; exact h.a ha hc
  · rw [qu_at, if_pos rfl]
    by_cases f : c = j
    · subst f; rw [if_pos rfl, vu_s]
    · rw [if_neg f, vu_o (fun q => f q.2)]; exact h.2.1 c hc
  · rw [qu_k (by omega), vu_r (by omega)]; exact h.2.2.1.1
  · rw [qu_k (by omega), vu_r (by omega)]; exact h.2.2.1.2
  · rw [qu_k (by omega)]; exact h.z h1 h2
theorem XV.n {I : qI} {b : Nat} {V : qV} {Z : qW} (h : XV I b V Z) {v : Nat} {x : Int32} (hx : x = nI v) : XV (qu I b 7 x) b (vu V 7 0 v) Z := by
  subst hx
  refine XV.mk2 (fun a c ha hc => ?_) (fun c hc => ?_) ?_ ?_ (fun k h1 h2 => ?_)
  · rw [qu_k (by omega), vu_r (by omega)]; exact h.a ha hc
  · rw [qu_k (by omega), vu_r (by omega)]; exact h.2.1 c hc
  · rw [qu_s, vu_s]
  · rw [qu_i (by omega), vu_r (by omega)]; exact h.2.2.1.2
  · rw [qu_i (by omega)]; exact h.z h1 h2
theorem XV.ov {I : qI} {b : Nat} {V : qV} {Z : qW} (h : XV I b V Z) {v : Nat} {x : Int32} (hx : x = nI v) : XV (qu I b 8 x) b (vu V 8 0 v) Z := by
  subst hx
  refine XV.mk2 (fun a c ha hc => ?_) (fun c hc => ?_) ?_ ?_ (fun k h1 h2 => ?_)
  · rw [qu_k (by omega), vu_r (by omega)]; exact h.a ha hc
  · rw [qu_k (by omega), vu_r (by omega)]; exact h.2.1 c hc
  · rw [qu_i (by omega), vu_r (by omega)]; exact h.2.2.1.1
  · rw [qu_s, vu_s]
  · rw [qu_i (by omega)]; exact h.z h1 h2
theorem XV.zq {I : qI} {b : Nat} {V : qV} {Z : qW} (h : XV I b V Z) {k : Nat} {x y : Int32} (h1 : 9 ≤ k) (h2 : k ≤ 12) (hx : x = y) : XV (qu I b k x) b V (zu Z k y) := by
  subst hx
  refine XV.mk2 (fun a c ha hc => ?_) (fun c hc => ?_) ?_ ?_ (fun e h3 h4 => ?_)
  · rw [qu_k (by omega)]; exact h.a ha hc
  · rw [qu_k (by omega)]; exact h.2.1 c hc
  · rw [qu_i (by omega)]; exact h.2.2.1.1
  · rw [qu_i (by omega)]; exact h.2.2.1.2
  · by_cases f : e = k
    · subst f; rw [qu_s, zu_s]
    · rw [qu_i f, zu_o f]; exact h.z h3 h4
theorem MV.mk2 {A : qI} {m : Nat} {V : qV} {Z : qW} (h0 : ∀ i j, i < 6 → j < 8 → A (m + 17 + i) j = nI (V i j)) (h6 : ∀ j, j < 5 → A m (9 + j) = nI (V 6 j)) (h7 : A m 17 = nI (V 7 0)) (h8 : A m 18 = nI (V 8 0)) (hz : A m 14 = Z 9 ∧ A m 15 = Z 10 ∧ A m 16 = Z 11 ∧ A m 25 = Z 12) : MV A m V Z :=
  ⟨⟨fun j h => h0 0 j (by decide) h, fun j h => h0 1 j (by decide) h, fun j h => h0 2 j (by decide) h, fun j h => h0 3 j (by decide) h, fun j h => h0 4 j (by decide) h, fun j h => h0 5 j (by decide) h⟩, h6, ⟨h7, h8⟩, hz⟩
theorem MV.a {A : qI} {m : Nat} {V : qV} {Z : qW} (h : MV A m V Z) {i j : Nat} (hi : i < 6) (hj : j < 8) : A (m + 17 + i) j = nI (V i j) := by
  obtain ⟨⟨a0, a1, a2, a3, a4, a5⟩, -⟩ := h
  rcases (show i = 0 ∨ i = 1 ∨ i = 2 ∨ i = 3 ∨ i = 4 ∨ i = 5 by omega) with rfl | rfl | rfl | rfl | rfl | rfl
  · exact a0 j hj
  · exact a1 j hj
  · exact a2 j hj
  · exact a3 j hj
  · exact a4 j hj
  · exact a5 j hj
theorem MV.up {A : qI} {m : Nat} {V : qV} {Z : qW} (h : MV A m V Z) {i j v : Nat} {x : Int32} (hi : i < 6) (hx : x = nI v) : MV (qu A (m + 17 + i) j x) m (vu V i j v) Z := by
  subst hx
  have k0 : ∀ c, qu A (m + 17 + i) j (nI v) m c = A m c := fun c => by rw [qu_k (by omega)]
  refine MV.mk2 (fun a c ha hc => ?_) (fun c hc => ?_) ?_ ?_ ?_
  · rw [qu_at]
    by_cases e : a = i
    · subst e
      rw [if_pos rfl]
      by_cases f : c = j
      · subst f; rw [if_pos rfl, vu_s]
      · rw [if_neg f, vu_o (fun q => f q.2)]; exact h.a ha hc
    · rw [if_neg (by omega), vu_r e]; exact h.a ha hc
  · rw [k0, vu_r (by omega)]; exact h.2.1 c hc
  · rw [k0, vu_r (by omega)]; exact h.2.2.1.1
  · rw [k0, vu_r (by omega)]; exact h.2.2.1.2
  · rw [k0, k0, k0, k0]; exact h.2.2.2
theorem MV.told {A : qI} {m : Nat} {V : qV} {Z : qW} (h : MV A m V Z) {j v : Nat} {x : Int32} (hj : j < 5) (hx : x = nI v) : MV (qu A m (9 + j) x) m (vu V 6 j v) Z := by
  subst hx
  refine MV.mk2 (fun a c ha hc => ?_) (fun c hc => ?_) ?_ ?_ ?_
  · rw [qu_k (by omega), vu_r (by omega)]; exact h.a ha hc
  · by_cases f : c = j
    · subst f; rw [qu_s, vu_s]
    · rw [qu_i (by omega), vu_o (fun q => f q.2)]; exact h.2.1 c hc
  · rw [qu_i (by omega), vu_r (by omega)]; exact h.2.2.1.1
  · rw [qu_i (by omega), vu_r (by omega)]; exact h.2.2.1.2
  · rw [qu_i (by omega), qu_i (by omega), qu_i (by omega), qu_i (by omega)]; exact h.2.2.2
theorem MV.n {A : qI} {m : Nat} {V : qV} {Z : qW} (h : MV A m V Z) {v : Nat} {x : Int32} (hx : x = nI v) : MV (qu A m 17 x) m (vu V 7 0 v) Z := by
  subst hx
  refine MV.mk2 (fun a c ha hc => ?_) (fun c hc => ?_) ?_ ?_ ?_
  · rw [qu_k (by omega), vu_r (by omega)]; exact h.a ha hc
  · rw [qu_i (by omega), vu_r (by omega)]; exact h.2.1 c hc
  · rw [qu_s, vu_s]
  · rw [qu_i (by omega), vu_r (by omega)]; exact h.2.2.1.2
  · rw [qu_i (by omega), qu_i (by omega), qu_i (by omega), qu_i (by omega)]; exact h.2.2.2
theorem MV.ov {A : qI} {m : Nat} {V : qV} {Z : qW} (h : MV A m V Z) {v : Nat} {x : Int32} (hx : x = nI v) : MV (qu A m 18 x) m (vu V 8 0 v) Z := by
  subst hx
  refine MV.mk2 (fun a c ha hc => ?_) (fun c hc => ?_) ?_ ?_ ?_
  · rw [qu_k (by omega), vu_r (by omega)]; exact h.a ha hc
  · rw [qu_i (by omega), vu_r (by omega)]; exact h.2.1 c hc
  · rw [qu_i (by omega), vu_r (by omega)]; exact h.2.2.1.1
  · rw [qu_s, vu_s]
  · rw [qu_i (by omega), qu_i (by omega), qu_i (by omega), qu_i (by omega)]; exact h.2.2.2
theorem MV.zq {A : qI} {m : Nat} {V : qV} {Z : qW} (h : MV A m V Z) {k f : Nat} {x y : Int32} (hk : (k = 9 ∧ f = 14) ∨ (k = 10 ∧ f = 15) ∨ (k = 11 ∧ f = 16) ∨ (k = 12 ∧ f = 25)) (hx : x = y) : MV (qu A m f x) m V (zu Z k y) := by
  subst hx
  refine MV.mk2 (fun a c ha hc => ?_) (fun c hc => ?_) ?_ ?_ ?_
  · rw [qu_k (by omega)]; exact h.a ha hc
  · rw [qu_i (by omega)]; exact h.2.1 c hc
  · rw [qu_i (by omega)]; exact h.2.2.1.1
  · rw [qu_i (by omega)]; exact h.2.2.1.2
  · obtain ⟨-, -, -, z1, z2, z3, z4⟩ := h
    rcases hk with ⟨rfl, rfl⟩ | ⟨rfl, rfl⟩ | ⟨rfl, rfl⟩ | ⟨rfl, rfl⟩
    · rw [qu_s, qu_i (by decide), qu_i (by decide), qu_i (by decide), zu_s, zu_o (by decide), zu_o (by decide), zu_o (by decide)]; exact ⟨rfl, z2, z3, z4⟩
    · rw [qu_s, qu_i (by decide), qu_i (by decide), qu_i (by decide), zu_s, zu_o (by decide), zu_o (by decide), zu_o (by decide)]; exact ⟨z1, rfl, z3, z4⟩
    · rw [qu_s, qu_i (by decide), qu_i (by decide), qu_i (by decide), zu_s, zu_o (by decide), zu_o (by decide), zu_o (by decide)]; exact ⟨z1, z2, rfl, z4⟩
    · rw [qu_s, qu_i (by decide), qu_i (by decide), qu_i (by decide), zu_s, zu_o (by decide), zu_o (by decide), zu_o (by decide)]; exact ⟨z1, z2, z3, rfl⟩
/-- all but the bank that holds now -/
def NX (I I' : qI) : Prop := ∀ k j, (k = 0 ∨ (9 ≤ k ∧ k ≤ 16) ∨ (k = 25 ∧ j = 1) ∨ k = 26 ∨ (28 ≤ k ∧ k ≤ 44)) → I' k j = I k j
def NM (A A' : qI) : Prop := ∀ k j, ((k = 0 ∧ (j ≤ 8 ∨ j = 26 ∨ j = 27)) ∨ (1 ≤ k ∧ k ≤ 3) ∨ (14 ≤ k ∧ k ≤ 16) ∨ (k = 40 ∧ 26 ≤ j) ∨ 80 ≤ k) → A' k j = A k j
theorem NX.rf {I : qI} : NX I I := fun _ _ _ => rfl
theorem NM.rf {A : qI} : NM A A := fun _ _ _ => rfl
theorem NX.q {I I' : qI} (h : NX I I') {k i : Nat} {v : Int32} (hk : 1 ≤ k ∧ k ≤ 8) : NX I (qu I' k i v) := fun a j q => by rw [qu_k (by omega)]; exact h a j q
theorem NM.q {A A' : qI} (h : NM A A') {k i : Nat} {v : Int32} (hk : 17 ≤ k ∧ k ≤ 22) : NM A (qu A' k i v) := fun a j q => by rw [qu_k (by omega)]; exact h a j q
theorem NM.f {A A' : qI} (h : NM A A') {i : Nat} {v : Int32} (hk : 9 ≤ i ∧ i ≤ 25) : NM A (qu A' 0 i v) := fun a j q => by
  by_cases e : a = 0
  · subst e; rw [qu_i (by omega)]; exact h 0 j q
  · rw [qu_k e]; exact h a j q
theorem NX.tr {I I' I'' : qI} (h : NX I I') (h2 : NX I' I'') : NX I I'' := fun k j z => (h2 k j z).trans (h k j z)
theorem NM.tr {A A' A'' : qI} (h : NM A A') (h2 : NM A' A'') : NM A A'' := fun k j z => (h2 k j z).trans (h k j z)
theorem RH.mono {n n' : Nat} {I : qI} {J : qJ} {A : qI} {B : qJ} {s : Nat} (hn : n ≤ n') (h : RH n I J A B s) : RH n' I J A B s := by
  obtain ⟨h1, h2, h3⟩ := h
  refine ⟨h1, h2, ?_⟩
  rcases h3 with h3 | h3 | ⟨p, hp, h3⟩
  · exact Or.inl h3
  · exact Or.inr (Or.inl h3)
  · exact Or.inr (Or.inr ⟨p, by omega, h3⟩)
/-- the bank that holds now, put anew -/
theorem Rel.bank {t : qF} {I I' : qI} {J : qJ} {A A' : qI} {B B' : qJ} {V V' : qV} {Z Z' : qW} (h : Rel t I J A B) (h0 : XV I 1 V Z) (w0 : WF V) (hb : RB I' A' V' Z') (hn : V 7 0 ≤ V' 7 0) (hx : NX I I') (hm : NM A A') (hj : FJ B B') : Rel t I' J A' B' := by
  obtain ⟨W, Y, ⟨h1, -, h3⟩, ⟨k1, k2⟩, ⟨⟨L, l1, l2, l3⟩, l4⟩, hs, hr, ht⟩ := h
  have e : W 7 0 = V 7 0 := by
    have := h1.2.2.1.1.symm.trans h0.2.2.1.1
    have a := h3.n
    have b := w0.n
    exact (nI_inj (by omega) (by omega)).mp this
  refine ⟨V', Z', hb, ⟨?_, ?_⟩, ⟨⟨L, l1, ?_, ?_⟩, ?_⟩, ?_, ?_, ?_⟩
  · rw [hm 0 26 (by omega), hx 0 11 (by omega)]; exact k1
  · rw [hx 0 11 (by omega)]
    rcases k2 with k2 | ⟨k2, V', Z', g1, g2, g3⟩
    · exact Or.inl k2
    · exact Or.inr ⟨k2, V', Z', g1.fr fun k j g1 g2 => hx k j (by omega), g2.fr fun k j g => hm k j (by omega), g3⟩
  · rw [hx 25 1 (by omega)]; exact l2
  · rw [hm 0 7 (by omega)]; exact l3
  · intro j hj
    rw [hx 26 j (by omega), hm 15 j (by omega)]
    exact l4 j hj
  · intro s hs8
    exact ((hs s hs8).mono (by omega)).fr (fun j => hx _ j (by omega)) (fun j => rfl) ⟨hm _ _ (by omega), hm _ _ (by omega), hm _ _ (by omega), hm _ _ (by omega)⟩ (fun j => hj _ j (by omega))
  · intro j hj5
    rw [hx 44 j (by omega), hm 16 (j + 2) (by omega)]
    exact hr j hj5
  · exact ht.fr (hm 0 27 (by omega)) (hm 0 26 (by omega)) fun k j h1 h2 => hm k j (by omega)
theorem clampI {k : Nat} (h : k < 2 ^ 31) : (nI k).toNatClampNeg = k := nI_clamp h
/-- an entry within its bounds keeps a bank well formed -/
theorem WF.small {V : qV} (h : WF V) {i p v : Nat} (hi : i < 4) (hb : (i = 0 → v < 6) ∧ (i = 1 → v ≤ 9) ∧ (i = 2 → v ≤ 40) ∧ (i = 3 → v ≤ 99)) : WF (vu V i p v) := by
  obtain ⟨⟨a1, a2⟩, ⟨t0, t1, t2, t3, t4, t5⟩, f, g, s, d, r⟩ := h
  unfold WF
  have e4 : ∀ q, vu V i p v 4 q = V 4 q := fun q => vu_r (by omega)
  have e5 : ∀ q, vu V i p v 5 q = V 5 q := fun q => vu_r (by omega)
  have e6 : ∀ q, vu V i p v 6 q = V 6 q := fun q => vu_r (by omega)
  have e7 : ∀ q, vu V i p v 7 q = V 7 q := fun q => vu_r (by omega)
  have e8 : ∀ q, vu V i p v 8 q = V 8 q := fun q => vu_r (by omega)
  simp only [e4, e5, e6, e7, e8]
  refine ⟨⟨a1, a2⟩, ⟨t0, t1, t2, t3, t4, t5⟩, fun q hq => ?_, g, s, d, r⟩
  obtain ⟨f0, f1, f2, f3, f4, f5⟩ := f q hq
  have key : ∀ a, a < 4 → vu V i p v a q = V a q ∨ (a = i ∧ vu V i p v a q = v) := by
    intro a ha
    by_cases e : a = i ∧ q = p
    · exact Or.inr ⟨e.1, by obtain ⟨e1, e2⟩ := e; subst e1; subst e2; exact vu_s⟩
    · exact Or.inl (vu_o e)
  refine ⟨?_, ?_, ?_, ?_, f4, f5⟩
  · rcases key 0 (by decide) with e | ⟨e, e2⟩
    · rw [e]; exact f0
    · rw [e2]; exact hb.1 e.symm
  · rcases key 1 (by decide) with e | ⟨e, e2⟩
    · rw [e]; exact f1
    · rw [e2]; exact hb.2.1 e.symm
  · rcases key 2 (by decide) with e | ⟨e, e2⟩
    · rw [e]; exact f2
    · rw [e2]; exact hb.2.2.1 e.symm
  · rcases key 3 (by decide) with e | ⟨e, e2⟩
    · rw [e]; exact f3
    · rw [e2]; exact hb.2.2.2 e.symm
theorem WF.over {V : qV} (h : WF V) {v : Nat} (hv : v < 2 ^ V 7 0) : WF (vu V 8 0 v) := by
  obtain ⟨⟨a1, a2⟩, k⟩ := h
  exact ⟨⟨a1, by rw [vu_s]; exact hv⟩, k⟩
theorem WF.told {V : qV} (h : WF V) {j v : Nat} (hv : (j = 0 → 1 ≤ v ∧ v ≤ 99) ∧ (j = 1 → v < 4) ∧ (j = 2 → v < 4) ∧ (j = 3 → v ≤ 9) ∧ (j = 4 → v ≤ 9)) : WF (vu V 6 j v) := by
  obtain ⟨a, ⟨t0, t1, t2, t3, t4, t5⟩, k⟩ := h
  have key : ∀ c, vu V 6 j v 6 c = V 6 c ∨ (c = j ∧ vu V 6 j v 6 c = v) := by
    intro c
    by_cases e : c = j
    · exact Or.inr ⟨e, by subst e; exact vu_s⟩
    · exact Or.inl (vu_o fun q => e q.2)
  refine ⟨a, ⟨?_, ?_, ?_, ?_, ?_, ?_⟩, k⟩
  · rcases key 0 with e | ⟨e, e2⟩
    · rw [e]; exact t0
    · rw [e2]; exact (hv.1 e.symm).1
  · rcases key 0 with e | ⟨e, e2⟩
    · rw [e]; exact t1
    · rw [e2]; exact (hv.1 e.symm).2
  · rcases key 1 with e | ⟨e, e2⟩
    · rw [e]; exact t2
    · rw [e2]; exact hv.2.1 e.symm
  · rcases key 2 with e | ⟨e, e2⟩
    · rw [e]; exact t3
    · rw [e2]; exact hv.2.2.1 e.symm
  · rcases key 3 with e | ⟨e, e2⟩
    · rw [e]; exact t4
    · rw [e2]; exact hv.2.2.2.1 e.symm
  · rcases key 4 with e | ⟨e, e2⟩
    · rw [e]; exact t5
    · rw [e2]; exact hv.2.2.2.2 e.symm
