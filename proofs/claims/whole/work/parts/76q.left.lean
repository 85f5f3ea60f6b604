/-! Pure: left (2). -/
section LE
variable {t : qF} {I : qI} {J : qJ} {A : qI} {B : qJ} {V : qV} {Z : qW}
/-- the list is in order -/
theorem gL_at {V : qV} : ∀ k i, i < (gL V k).length → 1 ≤ (gL V k).getD i 0 ∧ (gL V k).getD i 0 ≤ k ∧ sLets V ((gL V k).getD i 0) = true := by
  intro k i hi
  have e : (gL V k).getD i 0 = (gL V k)[i] := by rw [List.getD_eq_getElem?_getD, List.getElem?_eq_getElem hi]; rfl
  rw [e]
  exact gL_mem.mp (List.getElem_mem hi)
theorem gL_lt {V : qV} : ∀ k i j, i < j → j < (gL V k).length → (gL V k).getD i 0 < (gL V k).getD j 0 := by
  intro k
  induction k with
  | zero => intro i j h h2; cases h2
  | succ k ih =>
    intro i j h h2
    rw [gL] at h2 ⊢
    by_cases c : sLets V (k + 1) = true
    · rw [if_pos c] at h2 ⊢
      rw [List.length_append, List.length_singleton] at h2
      have ei : (gL V k ++ [k + 1]).getD i 0 = (gL V k).getD i 0 := by
        rw [List.getD_eq_getElem?_getD, List.getD_eq_getElem?_getD, List.getElem?_append_left (by omega)]
      rw [ei]
      by_cases e : j = (gL V k).length
      · subst e
        rw [List.getD_eq_getElem?_getD (l := gL V k ++ [k + 1]), List.getElem?_append_right (Nat.le_refl _), Nat.sub_self]
        have := (gL_at (V := V) k i h).2.1
        show _ < k + 1
        omega
      · rw [List.getD_eq_getElem?_getD (l := gL V k ++ [k + 1]), List.getElem?_append_left (by omega), ← List.getD_eq_getElem?_getD]
        exact ih i j h (by omega)
    · rw [if_neg c] at h2 ⊢
      exact ih i j h h2
end LE
