/-! Pure: when the class's memory and the reference's say the same. -/
def RB (I : qI) (A : qI) (V : qV) (Z : qW) : Prop := XV I 1 V Z ∧ MV A 0 V Z ∧ WF V
def RK (I : qI) (A : qI) : Prop := A 0 26 = I 0 11 ∧ (I 0 11 = 0 ∨ (I 0 11 = 1 ∧ ∃ V Z, XV I 9 V Z ∧ MV A 80 V Z ∧ WF V))
def RT (I : qI) (A : qI) : Prop := (∃ L, L ≤ 250 ∧ I 25 1 = nI L ∧ A 0 7 = nI L) ∧ ∀ j, j < 250 → ∃ c, c < 256 ∧ I 26 j = nI c ∧ A 15 j = nI c
/-- one shelf -/
def RH (n : Nat) (I : qI) (J : qJ) (A : qI) (B : qJ) (s : Nat) : Prop :=
  (∀ j, j < 40 → J (29 + 2 * s) j = B (5 + s) j) ∧ (∃ m, m ≤ 40 ∧ I (28 + 2 * s) 2 = nI m ∧ A 3 s = nI m) ∧
  ((I (28 + 2 * s) 1 = -1 ∧ A 1 s = 0) ∨ (∃ k, k < 5 ∧ I (28 + 2 * s) 1 = nI k ∧ A 1 s = 1 ∧ A 2 s = nI k) ∨ (∃ p, p < n ∧ I (28 + 2 * s) 1 = nI (10 + p) ∧ A 1 s = 2 ∧ A 14 s = nI p))
def RS (n : Nat) (I : qI) (J : qJ) (A : qI) (B : qJ) : Prop := ∀ s, s < 8 → RH n I J A B s
def RR (I : qI) (A : qI) : Prop := ∀ j, j < 5 → I 44 j = A 16 (j + 2)
/-- whether there is a second model for texts, and one kept; those have none of their own -/
abbrev qF : Type := Int32 × Int32
def RF (t : qF) (A : qI) : Prop := (A 0 27 = t.1 ∧ A 0 26 = t.2) ∧ ((A 40 26 = 0 ∧ A 40 27 = 0) ∧ A 80 26 = 0 ∧ A 80 27 = 0)
theorem RF.fr {t : qF} {A A' : qI} (h : RF t A) (h0 : A' 0 27 = A 0 27) (h1 : A' 0 26 = A 0 26) (hf : ∀ k j, (k = 40 ∨ k = 80) → (j = 26 ∨ j = 27) → A' k j = A k j) : RF t A' :=
  ⟨⟨h0.trans h.1.1, h1.trans h.1.2⟩, ⟨(hf 40 26 (Or.inl rfl) (Or.inl rfl)).trans h.2.1.1, (hf 40 27 (Or.inl rfl) (Or.inr rfl)).trans h.2.1.2⟩, (hf 80 26 (Or.inr rfl) (Or.inl rfl)).trans h.2.2.1, (hf 80 27 (Or.inr rfl) (Or.inr rfl)).trans h.2.2.2⟩
def Rel (t : qF) (I : qI) (J : qJ) (A : qI) (B : qJ) : Prop := ∃ V Z, RB I A V Z ∧ RK I A ∧ RT I A ∧ RS (V 7 0) I J A B ∧ RR I A ∧ RF t A
/-- what each side may scribble on -/
def FX (I I' : qI) : Prop := ∀ k j, (k ≤ 16 ∨ k = 26 ∨ (28 ≤ k ∧ k ≤ 44) ∨ (k = 25 ∧ j = 1)) → I' k j = I k j
def FM (A A' : qI) : Prop := ∀ k j, ((k = 0 ∧ j ≤ 27) ∨ (1 ≤ k ∧ k ≤ 22) ∨ (k = 40 ∧ 26 ≤ j) ∨ 80 ≤ k) → A' k j = A k j
def FJ (B B' : qJ) : Prop := ∀ k j, k ≠ 13 → B' k j = B k j
theorem FX.rf {I : qI} : FX I I := fun _ _ _ => rfl
theorem FM.rf {A : qI} : FM A A := fun _ _ _ => rfl
theorem FJ.rf {B : qJ} : FJ B B := fun _ _ _ => rfl
theorem FX.tr {I I' I'' : qI} (h : FX I I') (h2 : FX I' I'') : FX I I'' := fun k j z => (h2 k j z).trans (h k j z)
theorem FM.tr {I I' I'' : qI} (h : FM I I') (h2 : FM I' I'') : FM I I'' := fun k j z => (h2 k j z).trans (h k j z)
theorem XV.fr {I I' : qI} {b : Nat} {V : qV} {Z : qW} (h : XV I b V Z) (hf : ∀ k j, b ≤ k → k < b + 8 → I' k j = I k j) : XV I' b V Z := by
  obtain ⟨⟨a0, a1, a2, a3, a4, a5⟩, a6, ⟨a7, a8⟩, a9, a10, a11, a12⟩ := h
  refine ⟨⟨?_, ?_, ?_, ?_, ?_, ?_⟩, ?_, ⟨?_, ?_⟩, ?_, ?_, ?_, ?_⟩
  all_goals first
    | (intro j hj; rw [hf _ _ (by omega) (by omega)]; first | exact a0 j hj | exact a1 j hj | exact a2 j hj | exact a3 j hj | exact a4 j hj | exact a5 j hj | exact a6 j hj)
    | (rw [hf _ _ (by omega) (by omega)]; assumption)
theorem MV.fr {A A' : qI} {m : Nat} {V : qV} {Z : qW} (h : MV A m V Z) (hf : ∀ k j, ((k = m ∧ j ≤ 25) ∨ (m + 17 ≤ k ∧ k < m + 23)) → A' k j = A k j) : MV A' m V Z := by
  obtain ⟨⟨a0, a1, a2, a3, a4, a5⟩, a6, ⟨a7, a8⟩, a9, a10, a11, a12⟩ := h
  refine ⟨⟨?_, ?_, ?_, ?_, ?_, ?_⟩, ?_, ⟨?_, ?_⟩, ?_, ?_, ?_, ?_⟩
  all_goals first
    | (intro j hj; rw [hf _ _ (by omega)]; first | exact a0 j hj | exact a1 j hj | exact a2 j hj | exact a3 j hj | exact a4 j hj | exact a5 j hj | exact a6 j hj)
    | (rw [hf _ _ (by omega)]; assumption)
theorem RH.fr {n : Nat} {I I' : qI} {J J' : qJ} {A A' : qI} {B B' : qJ} {s : Nat} (h : RH n I J A B s) (h1 : ∀ j, I' (28 + 2 * s) j = I (28 + 2 * s) j) (h2 : ∀ j, J' (29 + 2 * s) j = J (29 + 2 * s) j) (h3 : A' 1 s = A 1 s ∧ A' 2 s = A 2 s ∧ A' 3 s = A 3 s ∧ A' 14 s = A 14 s) (h4 : ∀ j, B' (5 + s) j = B (5 + s) j) : RH n I' J' A' B' s := by
  unfold RH
  simp only [h1, h2, h3.1, h3.2.1, h3.2.2.1, h3.2.2.2, h4]
  exact h
theorem Rel.fr {t : qF} {I I' : qI} {J : qJ} {A A' : qI} {B B' : qJ} (h : Rel t I J A B) (hx : FX I I') (hm : FM A A') (hj : FJ B B') : Rel t I' J A' B' := by
  obtain ⟨V, Z, ⟨h1, h2, h3⟩, ⟨k1, k2⟩, ⟨⟨L, l1, l2, l3⟩, l4⟩, hs, hr, ht⟩ := h
  refine ⟨V, Z, ⟨h1.fr fun k j g1 g2 => hx k j (by omega), h2.fr fun k j g => hm k j (by omega), h3⟩, ⟨?_, ?_⟩, ⟨⟨L, l1, ?_, ?_⟩, ?_⟩, ?_, ?_, ?_⟩
  · rw [hm 0 26 (by omega), hx 0 11 (by omega)]; exact k1
  · rw [hx 0 11 (by omega)]
    rcases k2 with k2 | ⟨k2, V', Z', g1, g2, g3⟩
    · exact Or.inl k2
    · exact Or.inr ⟨k2, V', Z', g1.fr fun k j g1 g2 => hx k j (by omega), g2.fr fun k j g => hm k j (by omega), g3⟩
  · rw [hx 25 1 (by omega)]; exact l2
  · rw [hm 0 7 (by omega)]; exact l3
  · intro j hj
    rw [hx 26 j (by omega), hm 15 j (by omega)]
    exact l4 j hj
  · intro s hs8
    exact (hs s hs8).fr (fun j => hx _ j (by omega)) (fun j => rfl) ⟨hm _ _ (by omega), hm _ _ (by omega), hm _ _ (by omega), hm _ _ (by omega)⟩ (fun j => hj _ j (by omega))
  · intro j hj5
    rw [hx 44 j (by omega), hm 16 (j + 2) (by omega)]
    exact hr j hj5
  · exact ht.fr (hm 0 27 (by omega)) (hm 0 26 (by omega)) fun k j h1 h2 => hm k j (by omega)
/-- a refusal -/
theorem x_refuse (I : qI) : ∀ c : Nat, c < 5 → f_X8_refuse (-1002 - nI c) I = some (-1002 - nI c, qu I 44 c (I 44 c + 1)) := by
  intro c hc
  rcases (show c = 0 ∨ c = 1 ∨ c = 2 ∨ c = 3 ∨ c = 4 by omega) with rfl | rfl | rfl | rfl | rfl <;> rfl
theorem m_refuse (A : qI) : ∀ c : Nat, c < 5 → f_X9_refuse (-1002 - nI c) A = some (-1002 - nI c, qu A 16 (c + 2) (A 16 (c + 2) + 1)) := by
  intro c hc
  rcases (show c = 0 ∨ c = 1 ∨ c = 2 ∨ c = 3 ∨ c = 4 by omega) with rfl | rfl | rfl | rfl | rfl <;> rfl
/-- one answer, and the same afterwards -/
def Sim (t : qF) (J : qJ) (B : qJ) (x m : Option (Int32 × qI)) : Prop := ∃ r I' A', x = some (r, I') ∧ m = some (r, A') ∧ Rel t I' J A' B
theorem Rel.ref {t : qF} {I : qI} {J : qJ} {A : qI} {B : qJ} (h : Rel t I J A B) {c : Nat} (hc : c < 5) : Rel t (qu I 44 c (I 44 c + 1)) J (qu A 16 (c + 2) (A 16 (c + 2) + 1)) B := by
  obtain ⟨V, Z, ⟨h1, h2, h3⟩, ⟨k1, k2⟩, ⟨⟨L, l1, l2, l3⟩, l4⟩, hs, hr, ht⟩ := h
  have hx : ∀ k j, k ≠ 44 → qu I 44 c (I 44 c + 1) k j = I k j := fun k j q => by rw [qu_k q]
  have hm : ∀ k j, k ≠ 16 → qu A 16 (c + 2) (A 16 (c + 2) + 1) k j = A k j := fun k j q => by rw [qu_k q]
  refine ⟨V, Z, ⟨h1.fr fun k j g1 g2 => hx k j (by omega), h2.fr fun k j g => hm k j (by omega), h3⟩, ⟨?_, ?_⟩, ⟨⟨L, l1, ?_, ?_⟩, ?_⟩, ?_, ?_, ?_⟩
  · rw [hm 0 26 (by omega), hx 0 11 (by omega)]; exact k1
  · rw [hx 0 11 (by omega)]
    rcases k2 with k2 | ⟨k2, V', Z', g1, g2, g3⟩
    · exact Or.inl k2
    · exact Or.inr ⟨k2, V', Z', g1.fr fun k j g1 g2 => hx k j (by omega), g2.fr fun k j g => hm k j (by omega), g3⟩
  · rw [hx 25 1 (by omega)]; exact l2
  · rw [hm 0 7 (by omega)]; exact l3
  · intro j hj
    rw [hx 26 j (by omega), hm 15 j (by omega)]
    exact l4 j hj
  · intro s hs8
    exact (hs s hs8).fr (fun j => hx _ j (by omega)) (fun j => rfl) ⟨hm _ _ (by omega), hm _ _ (by omega), hm _ _ (by omega), hm _ _ (by omega)⟩ (fun j => rfl)
  · intro j hj5
    rw [qu_at, qu_at, if_pos rfl, if_pos rfl]
    by_cases e : j = c
    · subst e; rw [if_pos rfl, if_pos rfl, hr j hj5]
    · rw [if_neg e, if_neg (by omega)]; exact hr j hj5
  · exact ht.fr (hm 0 27 (by omega)) (hm 0 26 (by omega)) fun k j h1 h2 => hm k j (by omega)
theorem sim_ref {t : qF} {I : qI} {J : qJ} {A : qI} {B : qJ} (h : Rel t I J A B) {c : Nat} (hc : c < 5) {w : Int32} (hw : w = -1002 - nI c) : Sim t J B (f_X8_refuse w I) (f_X9_refuse w A) := by
  subst hw
  exact ⟨_, _, _, x_refuse I c hc, m_refuse A c hc, h.ref hc⟩
theorem bd2_id {t : qF} {J : qJ} {B : qJ} {x m : Option (Int32 × qI)} (h : Sim t J B x m) : Sim t J B (bd2 x fun v I => some (v, I)) (bd2 m fun v I => some (v, I)) := by
  obtain ⟨r, I', A', rfl, rfl, h⟩ := h
  exact ⟨r, I', A', rfl, rfl, h⟩
