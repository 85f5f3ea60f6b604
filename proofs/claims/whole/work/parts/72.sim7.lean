/-! Pure: shelves and the tape, side by side. -/
/-- one answer, and the same afterwards, rows of longs too -/
def SimJ (t : qF) (x : Option (Int32 × qI × qJ)) (m : Option (Int32 × qI × qJ)) : Prop := ∃ r I' J' A' B', x = some (r, I', J') ∧ m = some (r, A', B') ∧ Rel t I' J' A' B'
section S7
variable {t : qF} {I : qI} {J : qJ} {A : qI} {B : qJ} {V : qV} {Z : qW}
/-- one shelf, put anew -/
theorem Rel.shelf {I' A' : qI} {J' B' : qJ} (h : Rel t I J A B) {s : Nat} (hs : s < 8) (hI : ∀ k j, k ≠ 28 + 2 * s → I' k j = I k j) (hJ : ∀ k j, k ≠ 29 + 2 * s → J' k j = J k j) (hA : ∀ k j, ¬ ((k = 1 ∨ k = 2 ∨ k = 3 ∨ k = 14) ∧ j = s) → A' k j = A k j) (hB : ∀ k j, k ≠ 5 + s → k ≠ 13 → B' k j = B k j)
    (hr : ∀ n, n ≤ 8 → I 1 7 = nI n → RH n I J A B s → RH n I' J' A' B' s) : Rel t I' J' A' B' := by
  obtain ⟨V, Z, ⟨h1, h2, h3⟩, ⟨k1, k2⟩, ⟨⟨L, l1, l2, l3⟩, l4⟩, hS, hR, ht⟩ := h
  refine ⟨V, Z, ⟨h1.fr fun k j g1 g2 => hI k j (by omega), h2.fr fun k j g => hA k j (by omega), h3⟩, ⟨?_, ?_⟩, ⟨⟨L, l1, ?_, ?_⟩, ?_⟩, ?_, ?_, ?_⟩
  · rw [hA 0 26 (by omega), hI 0 11 (by omega)]; exact k1
  · rw [hI 0 11 (by omega)]
    rcases k2 with k2 | ⟨k2, V', Z', g1, g2, g3⟩
    · exact Or.inl k2
    · exact Or.inr ⟨k2, V', Z', g1.fr fun k j g1 g2 => hI k j (by omega), g2.fr fun k j g => hA k j (by omega), g3⟩
  · rw [hI 25 1 (by omega)]; exact l2
  · rw [hA 0 7 (by omega)]; exact l3
  · intro j hj
    rw [hI 26 j (by omega), hA 15 j (by omega)]
    exact l4 j hj
  · intro s' hs8
    by_cases e : s' = s
    · subst e
      exact hr _ h3.n h1.2.2.1.1 (hS s' hs8)
    · exact (hS s' hs8).fr (fun j => hI _ j (by omega)) (fun j => hJ _ j (by omega)) ⟨hA _ _ (by omega), hA _ _ (by omega), hA _ _ (by omega), hA _ _ (by omega)⟩ (fun j => hB _ j (by omega) (by omega))
  · intro j hj5
    rw [hI 44 j (by omega), hA 16 (j + 2) (by omega)]
    exact hR j hj5
  · exact ht.fr (hA 0 27 (by omega)) (hA 0 26 (by omega)) fun k j h1 h2 => hA k j (by omega)
theorem Rel.sh (h : Rel t I J A B) {s : Nat} (hs : s < 8) : ∃ n, n ≤ 8 ∧ I 1 7 = nI n ∧ RH n I J A B s := by
  obtain ⟨V, Z, ⟨hx, hm, hW⟩, -, -, hS, -⟩ := h
  exact ⟨V 7 0, hW.n, hx.2.2.1.1, hS s hs⟩
/-- what a shelf holds: nothing, a row, a party -/
theorem shelf_st {n : Nat} {s : Nat} (h : RH n I J A B s) (hn : n ≤ 8) : ∃ c, (c = 0 ∨ c = 1 ∨ c = 2) ∧ A 1 s = nI c ∧ f_X6_hasRow (28 + 2 * s) I = some (b2i (decide (c = 1))) ∧ f_X6_hasParty (28 + 2 * s) I = some (b2i (decide (c = 2))) ∧ (c = 1 → ∃ k, k < 5 ∧ I (28 + 2 * s) 1 = nI k ∧ A 2 s = nI k) ∧ (c = 2 → ∃ p, p < n ∧ I (28 + 2 * s) 1 = nI (10 + p) ∧ A 14 s = nI p) ∧ (c = 0 → I (28 + 2 * s) 1 = -1) := by
  unfold f_X6_hasRow f_X6_hasParty
  rw [within_s, bd_s, gd_b]
  obtain ⟨-, -, ⟨h1, h2⟩ | ⟨k, hk, h1, h2, h3⟩ | ⟨p, hp, h1, h2, h3⟩⟩ := h
  · refine ⟨0, Or.inl rfl, h2, ?_, ?_, fun z => absurd z (by decide), fun z => absurd z (by decide), fun _ => h1⟩
    · rw [h1]; rfl
    · rw [h1]; rfl
  · refine ⟨1, Or.inr (Or.inl rfl), h2, ?_, ?_, fun _ => ⟨k, hk, h1, h3⟩, fun z => absurd z (by decide), fun z => absurd z (by decide)⟩
    · rw [h1, decide_eq_true (show (0 : Int32) ≤ nI k ∧ nI k ≤ 4 from ⟨nI_pos' (by omega), (nle_i (b := 4) (by omega) (by decide)).mpr (by omega)⟩)]; rfl
    · rw [h1, if_pos (show nI k < (10 : Int32) from (nlt_i (b := 10) (by omega) (by decide)).mpr (by omega))]; rfl
  · refine ⟨2, Or.inr (Or.inr rfl), h2, ?_, ?_, fun z => absurd z (by decide), fun _ => ⟨p, hp, h1, h3⟩, fun z => absurd z (by decide)⟩
    · rw [h1, decide_eq_false (show ¬ ((0 : Int32) ≤ nI (10 + p) ∧ nI (10 + p) ≤ 4) from fun z => by
        have := (nle_i (b := 4) (by omega) (by decide)).mp z.2
        omega)]; rfl
    · rw [h1, if_neg (show ¬ nI (10 + p) < (10 : Int32) from fun z => by
        have := (nlt_i (b := 10) (by omega) (by decide)).mp z
        omega)]; rfl
theorem stopN' {n k : Nat} (hn : k ≤ n) (h : n < 2 ^ 31) {α : Type} (x y : α) : (if nI n ≤ nI k then x else y) = if k = n then x else y := by
  refine if_d ?_ x y
  rw [nle_i h (by omega)]
  omega
theorem simJ_in (p lo hi : Int32) {a b : Nat} (ha : lo = nI a) (hb : hi = nI b) (ha2 : a < 2 ^ 31) (hb2 : b < 2 ^ 31) {L0 L1 : Int64} (e0 : L0 = lo.toInt64) (e1 : L1 = hi.toInt64) {x1 x2 m1 m2 : Option (Int32 × qI × qJ)} (h2 : ∀ k, a ≤ k → k ≤ b → p = nI k → SimJ t x2 m2) (h1 : SimJ t x1 m1) :
    SimJ t (bd (f_X8_within p lo hi) fun v1 => if v1 = 0 then x1 else x2) (bd (f_X9_in p.toInt64 L0 L1) fun v1 => if v1 = 0 then m1 else m2) := by
  rw [within_s, in_i e0 e1, bd_b, bd_b, if_b, if_b]
  by_cases c : lo ≤ p ∧ p ≤ hi
  · rw [decide_eq_true c, if_pos rfl, if_pos rfl]
    subst ha; subst hb
    obtain ⟨k, q1, q2, e⟩ := nI_btw hb2 c ha2
    exact h2 k q1 q2 e
  · rw [decide_eq_false c, if_neg (by decide), if_neg (by decide)]
    exact h1
theorem simJ_ref (h : Rel t I J A B) {c : Nat} (hc : c < 5) {w : Int32} (hw : w = -1002 - nI c) : SimJ t (bd2 (f_X8_refuse w I) fun v I2 => some (v, I2, J)) (bd2 (f_X9_refuse w A) fun v I2 => some (v, I2, B)) := by
  subst hw
  rw [x_refuse I c hc, m_refuse A c hc]
  exact ⟨_, _, _, _, _, rfl, rfl, h.ref hc⟩
theorem simJ_bad (h : Rel t I J A B) : SimJ t (bd2 (f_X8_refuse (-1002 : Int32) I) fun v I2 => some (v, I2, J)) (bd2 (f_X9_refuse (-1002 : Int32) A) fun v I2 => some (v, I2, B)) := simJ_ref h (c := 0) (by decide) (by decide)
theorem simJ_other (h : Rel t I J A B) : SimJ t (bd2 (f_X8_refuse (-1003 : Int32) I) fun v I2 => some (v, I2, J)) (bd2 (f_X9_refuse (-1003 : Int32) A) fun v I2 => some (v, I2, B)) := simJ_ref h (c := 1) (by decide) (by decide)
theorem simJ_nothing (h : Rel t I J A B) : SimJ t (bd2 (f_X8_refuse (-1004 : Int32) I) fun v I2 => some (v, I2, J)) (bd2 (f_X9_refuse (-1004 : Int32) A) fun v I2 => some (v, I2, B)) := simJ_ref h (c := 2) (by decide) (by decide)
/-- forty noughts -/
def zeroJ (J : qJ) (k : Nat) : qJ := fun a j => if a = k ∧ j < 40 then 0 else J a j
theorem zero_step {J : qJ} {k n : Nat} (f : Nat → qJ) (hf : f n = fun a j => if a = k ∧ j < n then 0 else J a j) : quL (f n) k n 0 = fun a j => if a = k ∧ j < n + 1 then 0 else J a j := by
  rw [hf]
  funext a j
  rw [quL_at]
  by_cases e : a = k
  · subst e
    rw [if_pos rfl]
    by_cases g : j = n
    · subst g; rw [if_pos rfl, if_pos ⟨rfl, Nat.lt_succ_self _⟩]
    · rw [if_neg g]
      by_cases l : j < n
      · rw [if_pos ⟨rfl, l⟩, if_pos ⟨rfl, by omega⟩]
      · rw [if_neg (fun z => l z.2), if_neg (fun z => l (by omega))]
  · rw [if_neg e, if_neg (fun z => e z.1), if_neg (fun z => e z.1)]
theorem x_fill0 (k : Nat) (J : qJ) : f_J7_fill_d0a16 k 40 (0 : Int64) J = some (zeroJ J k) := by
  have loop : ∀ f n, n ≤ 40 → 40 - n < f → f_J7_fill_d0a16_6 k 40 f (0 : Int64) (nI n) (nI 40) (fun a j => if a = k ∧ j < n then 0 else J a j) = some (zeroJ J k) := by
    intro f
    induction f with
    | zero => intro n _ h; omega
    | succ f ih =>
      intro n hn hf
      rw [f_J7_fill_d0a16_6, stopN' hn (by decide)]
      by_cases q : n = 40
      · subst q; rw [if_pos rfl]; rfl
      · rw [if_neg q, gd_t (qin_n (by omega) (by decide)), clampI (by omega), lt_e, zero_step (fun n a j => if a = k ∧ j < n then 0 else J a j) rfl, nI_1]
        exact ih (n + 1) (by omega) (by omega)
  have e : J = fun a j => if a = k ∧ j < 0 then 0 else J a j := by
    funext a j
    rw [if_neg (fun z => Nat.not_lt_zero _ z.2)]
  have := loop 1000 0 (by decide) (by decide)
  rw [← e] at this
  exact this
theorem x_shelf (p : Int32) : f_X8_isShelf p = f_X8_within p 0 7 := isShelf_s p
theorem s_row (h : Rel t I J A B) (p q r : Int32) : SimJ t (f_X8_row p q r I J) (f_X9_row p q r A B) := by
  unfold f_X8_row f_X9_row
  rw [isShelf_s]
  refine simJ_in p 0 7 (a := 0) (b := 7) rfl rfl (by decide) (by decide) rfl rfl (fun s _ hs e => ?_) (simJ_bad h)
  subst e
  refine simJ_in q 0 4 (a := 0) (b := 4) rfl rfl (by decide) (by decide) rfl rfl (fun k _ hk e => ?_) (simJ_bad h)
  subst e
  refine simJ_in r 0 40 (a := 0) (b := 40) rfl rfl (by decide) (by decide) rfl rfl (fun m _ hm e => ?_) (simJ_bad h)
  subst e
  have hs8 : s < 8 := by omega
  have q8 := qin_n hs8 (by decide)
  have c8 := clampI (show s < 2 ^ 31 by omega)
  unfold f_X6_takeRow
  simp only [gd_t q8, c8, lt_e, x_fill0, bd_s, bd2_s]
  have loop : ∀ f n, n ≤ 40 → 40 - n < f → ∀ A1 : qI, f_X9_row_68 f (nI s) (nI n) A1 (fun a j => if a = 5 + s ∧ j < n then 0 else B a j) = some (1, A1, zeroJ B (5 + s)) := by
    intro f
    induction f with
    | zero => intro n _ h; omega
    | succ f ih =>
      intro n hn hf A1
      rw [f_X9_row_68, show (40 : Int32) = nI 40 from rfl, stopN' hn (by decide)]
      by_cases q : n = 40
      · subst q; rw [if_pos rfl]; rfl
      · rw [if_neg q, gd_t q8, c8, gd_t (qin_n (by omega) (by decide)), clampI (by omega), lt_e, zero_step (fun n a j => if a = 5 + s ∧ j < n then 0 else B a j) rfl, nI_1]
        exact ih (n + 1) (by omega) (by omega) A1
  have e0 : B = fun a j => if a = 5 + s ∧ j < 0 then 0 else B a j := by
    funext a j
    rw [if_neg (fun z => Nat.not_lt_zero _ z.2)]
  have l0 := loop 1000 0 (by decide) (by decide) (qu (qu (qu A 1 s 1) 2 s (nI k)) 3 s (nI m))
  rw [← e0] at l0
  have l0 : f_X9_row_68 1000 (nI s) 0 (qu (qu (qu A 1 s 1) 2 s (nI k)) 3 s (nI m)) B = _ := l0
  rw [l0]
  refine ⟨_, _, _, _, _, rfl, rfl, h.shelf hs8 (fun a j z => by rw [qu_k z, qu_k z]) (fun a j z => if_neg (fun y => z (by omega))) (fun a j z => ?_) (fun a j z _ => if_neg (fun y => z y.1)) (fun n hn hI _ => ⟨fun j hj => ?_, ⟨m, hm, ?_, ?_⟩, Or.inr (Or.inl ⟨k, by omega, ?_, ?_, ?_⟩)⟩)⟩
  · have o : ∀ (X : qI) (k : Nat) (v : Int32), (k = 1 ∨ k = 2 ∨ k = 3) → qu X k s v a j = X a j := fun X k v hk => by
      rw [qu_at]
      by_cases e : a = k
      · rw [if_pos e, if_neg (by omega), e]
      · rw [if_neg e]
    rw [o _ _ _ (by omega), o _ _ _ (by omega), o _ _ _ (by omega)]
  · show (if 29 + 2 * s = 28 + 2 * s + 1 ∧ j < 40 then (0 : Int64) else _) = (if 5 + s = 5 + s ∧ j < 40 then (0 : Int64) else _)
    rw [if_pos ⟨by omega, hj⟩, if_pos ⟨rfl, hj⟩]
  · rw [qu_s]
  · rw [qu_s]
  · rw [qu_i (by decide), qu_s]
  · rw [qu_k (by decide), qu_k (by decide), qu_s]
  · rw [qu_k (by decide), qu_s]
end S7
