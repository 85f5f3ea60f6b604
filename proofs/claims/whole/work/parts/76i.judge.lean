/-! Pure: judge, behind. -/
section JU
variable {t : qF} {I : qI} {J : qJ} {A : qI} {B : qJ} {V : qV} {Z : qW}
/-- a told row, at most most long -/
theorem told_t (h : Rel t I J A B) (p q w : Int32) {most : Nat} (hM : most < 2 ^ 31) {ok : Bool} {ow : Int32} (hw : ow = b2i ok) (how : f_X8_within w 0 1 = some (b2i ok)) :
    (∃ s k m n, s < 8 ∧ k < 5 ∧ m ≤ 40 ∧ n ≤ m ∧ n ≤ most ∧ p = nI s ∧ q = nI n ∧ ok = true ∧ f_X8_toldTrouble p q (nI most) w I = some 0 ∧ f_X9_noTold p q (nI most) ow A = some (0, A) ∧ I (28 + 2 * s) 1 = nI k ∧ A 1 s = 1 ∧ A 2 s = nI k ∧ I (28 + 2 * s) 2 = nI m ∧ A 3 s = nI m ∧ (∀ j, j < 40 → J (29 + 2 * s) j = B (5 + s) j)) ∨
    (∃ c, ∃ v : Int32, c < 5 ∧ v = -1002 - nI c ∧ ¬ v = 0 ∧ f_X8_toldTrouble p q (nI most) w I = some v ∧ f_X9_noTold p q (nI most) ow A = some (v, qu A 16 (c + 2) (A 16 (c + 2) + 1))) := by
  subst hw
  have bad : f_X9_noTold_28 A = some (-1002, qu A 16 (0 + 2) (A 16 (0 + 2) + 1)) := by
    unfold f_X9_noTold_28
    rw [show (-1002 : Int32) = -1002 - nI 0 from by decide, m_refuse A 0 (by decide)]
    rfl
  have B0 : f_X8_toldTrouble p q (nI most) w I = some (-1002) → f_X9_noTold p q (nI most) (b2i ok) A = some (-1002, qu A 16 (0 + 2) (A 16 (0 + 2) + 1)) → (∃ c, ∃ v : Int32, c < 5 ∧ v = -1002 - nI c ∧ ¬ v = 0 ∧ f_X8_toldTrouble p q (nI most) w I = some v ∧ f_X9_noTold p q (nI most) (b2i ok) A = some (v, qu A 16 (c + 2) (A 16 (c + 2) + 1))) := fun h1 h2 => ⟨0, -1002, by decide, by decide, by decide, h1, h2⟩
  have eX : f_X8_toldTrouble p q (nI most) w I = (if decide (0 ≤ q ∧ q ≤ nI most) = true then (if ok = true then (bd (f_X8_rowTrouble p I) fun v5 => if v5 = 0 then (gd (qin p 8) <| bd (f_X6_hasPlaces (28 + 2 * p.toNatClampNeg) (0 : Int32) q I) fun v8 => if v8 = 0 then (some (-1002 : Int32)) else (some v5)) else (some v5)) else some (-1002)) else some (-1002)) := by
    unfold f_X8_toldTrouble
    rw [within_s, how, bd_b, bd_b, if_b, if_b]
  have eM : f_X9_noTold p q (nI most) (b2i ok) A = (if decide ((0 : Int32) ≤ p ∧ p ≤ 7) = true then (if decide (0 ≤ q ∧ q ≤ nI most) = true then (if ok = true then (bd2 (f_X9_noRow p A) fun v5 I6 => if v5 = 0 then (gd (qin p 8) <| if q ≤ (I6 3 p.toNatClampNeg) then (some ((0 : Int32), I6)) else (bd2 (f_X9_refuse (-1002 : Int32) I6) fun v9 I10 => some (v9, I10))) else (some (v5, I6))) else f_X9_noTold_28 A) else f_X9_noTold_28 A) else f_X9_noTold_28 A) := by
    unfold f_X9_noTold
    rw [in_i (b := 0) (B := 0) (c := 7) (C := 7) rfl rfl, in_i (b := 0) (B := 0) (c := nI most) rfl rfl, bd_b, bd_b, if_b, if_b, if_b]
  rw [bad] at eM
  by_cases d : (0 : Int32) ≤ q ∧ q ≤ nI most
  · rw [decide_eq_true d, if_pos rfl] at eX
    rw [decide_eq_true d, if_pos (show true = true from rfl)] at eM
    cases ok with
    | false =>
      rw [if_neg (show ¬ (false = true) by decide)] at eX
      rw [if_neg (show ¬ (false = true) by decide), ite_self] at eM
      exact Or.inr (B0 eX eM)
    | true =>
      rw [if_pos rfl] at eX
      rw [if_pos (show true = true from rfl)] at eM
      rcases trouble h p with ⟨s, k, m, hs8, hk, hm, rfl, t1, t2, e1, a1, a2, l1, l2, hj⟩ | ⟨c, v, hc, hv, v0, t1, t2⟩
      · have q8 := qin_n hs8 (by decide)
        have c8 := clampI (show s < 2 ^ 31 by omega)
        obtain ⟨n, -, hn, rfl⟩ := nI_btw (a := 0) hM d (by decide)
        rw [t1, bd_s, if_pos rfl, gd_t q8, c8, places hk e1 l1, bd_b, if_b] at eX
        rw [t2, decide_eq_true (show (0 : Int32) ≤ nI s ∧ nI s ≤ 7 from ⟨nI_pos' (by omega), (nle_i (b := 7) (by omega) (by decide)).mpr (by omega)⟩), if_pos rfl, bd2_s, if_pos rfl, gd_t q8, c8, l2, if_d (nle_i (show n < 2 ^ 31 by omega) (show m < 2 ^ 31 by omega))] at eM
        by_cases g : n ≤ m
        · rw [decide_eq_true (show (0 : Int32) ≤ nI n ∧ nI n ≤ nI m from ⟨nI_pos' (by omega), (nle_i (by omega) (by omega)).mpr g⟩), subI g, decide_eq_true (show (0 : Int32) ≤ 0 ∧ (0 : Int32) ≤ nI (m - n) from ⟨by decide, nI_pos' (by omega)⟩)] at eX
          rw [if_pos g] at eM
          exact Or.inl ⟨s, k, m, n, hs8, hk, hm, g, hn, rfl, rfl, rfl, eX, eM, e1, a1, a2, l1, l2, hj⟩
        · rw [decide_eq_false (show ¬ ((0 : Int32) ≤ nI n ∧ nI n ≤ nI m) from fun z => g ((nle_i (by omega) (by omega)).mp z.2)), Bool.false_and] at eX
          rw [if_neg g, show (-1002 : Int32) = -1002 - nI 0 from by decide, m_refuse A 0 (by decide)] at eM
          exact Or.inr (B0 eX eM)
      · rw [t1, bd_s, if_neg v0] at eX
        refine Or.inr ⟨c, v, hc, hv, v0, eX, ?_⟩
        by_cases g : (0 : Int32) ≤ p ∧ p ≤ 7
        · rw [decide_eq_true g, if_pos rfl, t2, bd2_s, if_neg v0] at eM
          exact eM
        · rw [decide_eq_false g, if_neg (show ¬ (false = true) by decide)] at eM
          unfold f_X8_rowTrouble at t1
          rw [isShelf_s, within_s, decide_eq_false g] at t1
          have e : v = -1002 := by
            have : some (-1002 : Int32) = some v := t1
            cases this
            rfl
          subst e
          have c0 : c = 0 := by
            rcases (show c = 0 ∨ c = 1 ∨ c = 2 ∨ c = 3 ∨ c = 4 by omega) with rfl | rfl | rfl | rfl | rfl
            · rfl
            · exact absurd hv (by decide)
            · exact absurd hv (by decide)
            · exact absurd hv (by decide)
            · exact absurd hv (by decide)
          subst c0
          exact eM
  · rw [decide_eq_false d, if_neg (show ¬ (false = true) by decide)] at eX
    rw [decide_eq_false d, if_neg (show ¬ (false = true) by decide), ite_self] at eM
    exact Or.inr (B0 eX eM)
end JU
