/-! Pure: ways (2). -/
section WZ
variable {t : qF} {I : qI} {J : qJ} {A : qI} {B : qJ} {V : qV} {Z : qW}
theorem x_ways_out {p : Nat} (hp : p ≤ 60) (I0 : qI) (L : List Nat) (hL : L.length ≤ 99) (hm : ∀ x, x ∈ L → 1 ≤ x ∧ x ≤ 99) (h48 : I0 48 2 = nI L.length) (h49 : ∀ i, i < L.length → I0 49 i = nI (L.getD i 0)) : ∀ f i, i ≤ L.length → L.length - i < f → ∀ g, ∃ I', f_X4_waysToSum_22 1 f (nI p) (nI i) (quR I0 50 (fun a => if a ≤ p then g a else I0 50 a)) = some ((L.drop i).foldl (wS p) g p, I') ∧ (∀ k j, k ≠ 50 → I' k j = I0 k j) := by
  intro f
  induction f with
  | zero => intro i _ h; omega
  | succ f ih =>
    intro i hi hf g
    have e48 : quR I0 50 (fun a => if a ≤ p then g a else I0 50 a) 48 2 = nI L.length := by
      unfold quR
      rw [if_neg (by decide)]; exact h48
    rw [f_X4_waysToSum_22, e48, stopN' hi (by omega)]
    by_cases q : i = L.length
    · subst q
      rw [if_pos rfl, gd_t (qin_n (show p < 401 by omega) (by decide)), clampI (by omega), List.drop_length]
      refine ⟨quR I0 50 (fun a => if a ≤ p then g a else I0 50 a), ?_, fun k j hk => by unfold quR; rw [if_neg hk]⟩
      congr 2
      unfold quR
      rw [if_pos rfl, if_pos (Nat.le_refl _)]
      rfl
    · have hi2 : i < L.length := by omega
      have ex : L.getD i 0 = L[i] := by rw [List.getD_eq_getElem?_getD, List.getElem?_eq_getElem hi2]; rfl
      obtain ⟨x1, x2⟩ := hm L[i] (List.getElem_mem hi2)
      have e49 : quR I0 50 (fun a => if a ≤ p then g a else I0 50 a) 49 i = nI L[i] := by
        unfold quR
        rw [if_neg (by decide), h49 i hi2, ex]
      rw [if_neg q, gd_t (qin_n (show i < 99 by omega) (by decide)), clampI (by omega), e49, List.drop_eq_getElem_cons hi2, List.foldl_cons]
      by_cases hx : L[i] ≤ p + 1
      · obtain ⟨I', r1, r2⟩ := x_ways_in (f_X4_waysToSum_22 1 f) hp x1 (show i < 99 by omega) g I0 (by rw [h49 i hi2, ex]) 1000 0 (by omega) (by omega)
        have r1 : f_X4_waysToSum_38 1 (f_X4_waysToSum_22 1 f) 1000 (nI p) (nI i) (nI L[i]) (quR I0 50 (fun a => if a ≤ p then g a else I0 50 a)) = _ := r1
        rw [r1, r2, nI_1]
        exact ih (i + 1) (by omega) (by omega) (wS p g L[i])
      · have st : wS p g L[i] = g := by
          unfold wS
          rw [show p + 1 - L[i] = 0 by omega]; rfl
        rw [st]
        show ∃ I', f_X4_waysToSum_38 1 (f_X4_waysToSum_22 1 f) (999 + 1) (nI p) (nI i) (nI L[i]) _ = _ ∧ _
        rw [f_X4_waysToSum_38, if_pos ((nlt_i (show p < 2 ^ 31 by omega) (show L[i] < 2 ^ 31 by omega)).mpr (by omega)), nI_1]
        exact ih (i + 1) (by omega) (by omega) g
end WZ
