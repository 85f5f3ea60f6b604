/-! Pure: left. -/
/-- what sums the numbers make -/
def rT (V : qV) : Nat → Nat → Bool
  | 0 => fun a => decide (a = 0)
  | n + 1 => fun a => if a = n + 1 then (gL V 99).any (fun x => decide (x ≤ n + 1) && rT V n (n + 1 - x)) else rT V n a
def rc (V : qV) (s : Nat) : Bool := rT V s s
theorem rT_le {V : qV} {a : Nat} : ∀ n, a ≤ n → rT V n a = rc V a := by
  intro n
  induction n with
  | zero =>
    intro h
    have e : a = 0 := by omega
    subst e; rfl
  | succ n ih =>
    intro h
    by_cases e : a = n + 1
    · subst e; rfl
    · show (if a = n + 1 then _ else rT V n a) = _
      rw [if_neg e]
      exact ih (by omega)
theorem rc_0 {V : qV} : rc V 0 = true := rfl
theorem rc_s {V : qV} {s : Nat} (h : 1 ≤ s) : rc V s = true ↔ ∃ x, 1 ≤ x ∧ x ≤ 99 ∧ x ≤ s ∧ sLets V x = true ∧ rc V (s - x) = true := by
  obtain ⟨n, rfl⟩ : ∃ n, s = n + 1 := ⟨s - 1, by omega⟩
  have e : rc V (n + 1) = (gL V 99).any (fun x => decide (x ≤ n + 1) && rT V n (n + 1 - x)) := if_pos rfl
  rw [e, List.any_eq_true]
  constructor
  · rintro ⟨x, hx, h2⟩
    obtain ⟨a, b, c⟩ := gL_mem.mp hx
    rw [Bool.and_eq_true, decide_eq_true_eq] at h2
    exact ⟨x, a, b, h2.1, c, by rw [← rT_le n (by omega)]; exact h2.2⟩
  · rintro ⟨x, a, b, c, d, e⟩
    refine ⟨x, gL_mem.mpr ⟨a, b, d⟩, ?_⟩
    rw [Bool.and_eq_true, decide_eq_true_eq]
    exact ⟨c, by rw [rT_le n (by omega)]; exact e⟩
