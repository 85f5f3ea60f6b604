/-! Pure: the numbers that go; ways. -/
def gL (V : qV) : Nat → List Nat
  | 0 => []
  | k + 1 => if sLets V (k + 1) = true then gL V k ++ [k + 1] else gL V k
theorem gL_len {V : qV} : ∀ k, (gL V k).length ≤ k
  | 0 => Nat.le_refl _
  | k + 1 => by
    have := gL_len (V := V) k
    rw [gL]
    split
    · rw [List.length_append, List.length_singleton]; omega
    · omega
theorem gL_mem {V : qV} {x : Nat} : ∀ {k : Nat}, x ∈ gL V k ↔ 1 ≤ x ∧ x ≤ k ∧ sLets V x = true
  | 0 => ⟨fun h => (by cases h), fun h => by omega⟩
  | k + 1 => by
    rw [gL]
    by_cases c : sLets V (k + 1) = true
    · rw [if_pos c, List.mem_append, List.mem_singleton, gL_mem]
      constructor
      · rintro (⟨h1, h2, h3⟩ | h)
        · exact ⟨h1, by omega, h3⟩
        · subst h; exact ⟨by omega, Nat.le_refl _, c⟩
      · rintro ⟨h1, h2, h3⟩
        by_cases e : x = k + 1
        · exact Or.inr e
        · exact Or.inl ⟨h1, by omega, h3⟩
    · rw [if_neg c, gL_mem]
      constructor
      · rintro ⟨h1, h2, h3⟩; exact ⟨h1, by omega, h3⟩
      · rintro ⟨h1, h2, h3⟩
        refine ⟨h1, ?_, h3⟩
        by_cases e : x = k + 1
        · subst e; exact absurd h3 c
        · omega
section SU
variable {t : qF} {I : qI} {J : qJ} {A : qI} {B : qJ} {V : qV} {Z : qW}
theorem x_collect (hx : XV I 1 V Z) (hW : WF V) : ∃ I', f_X4_collect 1 I = some I' ∧ (∀ k j, k ≠ 48 → k ≠ 49 → I' k j = I k j) ∧ I' 48 2 = nI (gL V 99).length ∧ (∀ i, i < (gL V 99).length → I' 49 i = nI ((gL V 99).getD i 0)) := by
  have loop : ∀ f k, k ≤ 99 → 99 - k < f → ∀ I1, (∀ k j, k ≠ 48 → k ≠ 49 → I1 k j = I k j) → I1 48 2 = nI (gL V k).length → (∀ i, i < (gL V k).length → I1 49 i = nI ((gL V k).getD i 0)) → ∃ I', f_X4_collect_7 1 f (nI (k + 1)) I1 = some I' ∧ (∀ k j, k ≠ 48 → k ≠ 49 → I' k j = I k j) ∧ I' 48 2 = nI (gL V 99).length ∧ (∀ i, i < (gL V 99).length → I' 49 i = nI ((gL V 99).getD i 0)) := by
    intro f
    induction f with
    | zero => intro k _ h; omega
    | succ f ih =>
      intro k hk hf I1 fr c1 c2
      rw [f_X4_collect_7, if_d (show (99 : Int32) < nI (k + 1) ↔ k = 99 from (nlt_i (a := 99) (by decide) (by omega)).trans (by omega))]
      by_cases q : k = 99
      · subst q
        rw [if_pos rfl]
        exact ⟨I1, rfl, fr, c1, c2⟩
      · have x1 : XV I1 1 V Z := hx.fr fun k j g1 g2 => fr k j (by omega) (by omega)
        have hl := gL_len (V := V) k
        rw [if_neg q, x_lets x1 hW (by omega), bd_b, if_b, nI_1, c1]
        have ih := ih (k + 1) (by omega) (by omega)
        rw [gL] at ih
        by_cases c : sLets V (k + 1) = true
        · rw [if_pos c] at ih ⊢
          rw [gd_t (qin_n (show (gL V k).length < 99 by omega) (by decide)), lt_e, lt_e, clampI (by omega), qu_k (show (48 : Nat) ≠ 49 by decide), c1, nI_1]
          refine ih _ (fun a j h1 h2 => by rw [qu_k h1, qu_k h2]; exact fr a j h1 h2) (by rw [qu_s, List.length_append, List.length_singleton]) (fun i hi => ?_)
          rw [List.length_append, List.length_singleton] at hi
          rw [qu_k (by decide)]
          by_cases e : i = (gL V k).length
          · subst e
            rw [qu_s, List.getD_eq_getElem?_getD, List.getElem?_append_right (Nat.le_refl _), Nat.sub_self]
            rfl
          · rw [qu_i e, c2 i (by omega), List.getD_eq_getElem?_getD, List.getD_eq_getElem?_getD, List.getElem?_append_left (by omega)]
        · rw [if_neg c] at ih ⊢
          exact ih I1 fr c1 c2
  unfold f_X4_collect
  rw [lt_e]
  exact loop 1000 0 (by decide) (by decide) _ (fun a j h1 h2 => by rw [qu_k h1]) qu_s (fun i hi => by cases hi)
end SU
