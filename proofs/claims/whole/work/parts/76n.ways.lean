/-! Pure: ways (3). -/
section WQ
variable {t : qF} {I : qI} {J : qJ} {A : qI} {B : qJ} {V : qV} {Z : qW}
theorem m_goes24 {A1 : qI} (hm : MV A 0 V Z) (hW : WF V) (h : ∀ k j, k ≠ 24 → A1 k j = A k j) {x : Nat} (hx : x < 2 ^ 31) : f_X9_goesNow (nI x).toInt64 A1 = some (b2i (sLets V x)) :=
  m_goes (hm.fr fun k j g => h k j (by omega)) hW hx
theorem m_ways_in (K : Int32 → Int32 → qI → Option (Int32 × qI)) {p x : Nat} (hp : p ≤ 60) (h1 : 1 ≤ x) (hm : MV A 0 V Z) (hW : WF V) (g : Nat → Int32) (hs : sLets V x = true) : ∀ f j, x + j ≤ p + 1 → p + 1 - (x + j) < f → f_X9_ways_57 K f (nI p) (nI x) (nI (x + j)) (quR A 24 (fun a => if a ≤ p then wI g x j a else A 24 a)) = K (nI p) (nI x + 1) (quR A 24 (fun a => if a ≤ p then wS p g x a else A 24 a)) := by
  intro f
  induction f with
  | zero => intro j _ h; omega
  | succ f ih =>
    intro j hj hf
    rw [f_X9_ways_57, if_d (nlt_i (show p < 2 ^ 31 by omega) (show x + j < 2 ^ 31 by omega))]
    by_cases q : p < x + j
    · rw [if_pos q]
      unfold wS
      rw [show p + 1 - x = j by omega]
    · have e50 : ∀ a, a ≤ p → quR A 24 (fun a => if a ≤ p then wI g x j a else A 24 a) 24 a = wI g x j a := fun a ha => by
        unfold quR
        rw [if_pos rfl, if_pos ha]
      have q1 := qin_n (show x + j < 401 by omega) (by decide)
      rw [if_neg q, m_goes24 hm hW (fun k j hk => by unfold quR; rw [if_neg hk]) (by omega), bd_b, if_b, if_pos hs, subI (by omega), Nat.add_sub_cancel_left, gd_t q1, gd_t (qin_n (show j < 401 by omega) (by decide)), gd_t q1, lt_e, clampI (by omega), clampI (by omega), e50 _ (by omega), e50 _ (by omega), nI_1]
      have st : qu (quR A 24 (fun a => if a ≤ p then wI g x j a else A 24 a)) 24 (x + j) (wI g x j (x + j) + wI g x j j) = quR A 24 (fun a => if a ≤ p then wI g x (j + 1) a else A 24 a) := by
        funext a b
        rw [qu_at]
        unfold quR
        by_cases e : a = 24
        · subst e
          rw [if_pos rfl, if_pos rfl, if_pos rfl]
          by_cases e2 : b = x + j
          · subst e2
            rw [if_pos rfl, if_pos (show x + j ≤ p by omega), wI_s, if_pos rfl, Nat.add_sub_cancel_left]
          · rw [if_neg e2, wI_s, if_neg e2]
        · rw [if_neg e, if_neg e, if_neg e]
      rw [st]
      exact ih (j + 1) (by omega) (by omega)
theorem m_ways_out {p : Nat} (hp : p ≤ 60) (hm : MV A 0 V Z) (hW : WF V) : ∀ f k, k ≤ p → p - k < f → ∃ A', f_X9_ways_50 f (nI p) (nI (k + 1)) (quR A 24 (fun a => if a ≤ p then wF V p k a else A 24 a)) = some (wF V p p p, A') ∧ (∀ k j, k ≠ 24 → A' k j = A k j) := by
  intro f
  induction f with
  | zero => intro k _ h; omega
  | succ f ih =>
    intro k hk hf
    rw [f_X9_ways_50, if_d (nlt_i (show p < 2 ^ 31 by omega) (show k + 1 < 2 ^ 31 by omega))]
    by_cases q : p < k + 1
    · have e : k = p := by omega
      subst e
      rw [if_pos q, gd_t (qin_n (show k < 401 by omega) (by decide)), clampI (by omega)]
      refine ⟨quR A 24 (fun a => if a ≤ k then wF V k k a else A 24 a), ?_, fun k j hk => by unfold quR; rw [if_neg hk]⟩
      congr 2
      unfold quR
      rw [if_pos rfl, if_pos (Nat.le_refl _)]
    · rw [if_neg q]
      have ih := ih (k + 1) (by omega) (by omega)
      rw [wF_s] at ih
      by_cases c : sLets V (k + 1) = true
      · rw [if_pos c] at ih
        have r := m_ways_in (f_X9_ways_50 f) hp (show 1 ≤ k + 1 by omega) hm hW (wF V p k) c 1000 0 (by omega) (by omega)
        have r : f_X9_ways_57 (f_X9_ways_50 f) 1000 (nI p) (nI (k + 1)) (nI (k + 1)) (quR A 24 (fun a => if a ≤ p then wF V p k a else A 24 a)) = _ := r
        rw [r, nI_1]
        exact ih
      · rw [if_neg c] at ih
        show ∃ A', f_X9_ways_57 (f_X9_ways_50 f) (999 + 1) _ _ _ _ = _ ∧ _
        rw [f_X9_ways_57, if_neg (fun z => by
          have := (nlt_i (show p < 2 ^ 31 by omega) (show k + 1 < 2 ^ 31 by omega)).mp z
          omega), m_goes24 hm hW (fun k j hk => by unfold quR; rw [if_neg hk]) (by omega), bd_b, if_b, if_neg c, nI_1]
        exact ih
end WQ
