/-! Pure: left. -/
/-- what sums the numbers make -/
def rT (V : qV) : Nat → Nat → Bool
  | 0 => fun a => decide (a = 0)
  | n + 1 => fun a => if a = n + 1 then (gL V 99).any (fun x => decide (x ≤ n + 1) && rT V n (n + 1 - x)) else rT V n a
def rc (V : qV) (s : Nat) : Bool := rT V s s
theorem rT_le {V : qV} {a : Nat} : ∀ n, a ≤ n → rT V n a = rc V a := by
  intro n
  induction n with
  | zero =>
    intro h
    have e : a = 0 := by omega
    subst e; rfl
  | succ n ih =>
    intro h
    by_cases e : a = n + 1
    · subst e; rfl
    · show (if a = n + 1 then _ else rT V n a) = _
      rw [if_neg e]
      exact ih (by omega)
theorem rc_0 {V : qV} : rc V 0 = true := rfl
theorem rc_s {V : qV} {s : Nat} (h : 1 ≤ s) : rc V s = true ↔ ∃ x, 1 ≤ x ∧ x ≤ 99 ∧ x ≤ s ∧ sLets V x = true ∧ rc V (s - x) = true := by
  obtain ⟨n, rfl⟩ : ∃ n, s = n + 1 := ⟨s - 1, by omega⟩
  have e : rc V (n + 1) = (gL V 99).any (fun x => decide (x ≤ n + 1) && rT V n (n + 1 - x)) := if_pos rfl
  rw [e, List.any_eq_true]
  constructor
  · rintro ⟨x, hx, h2⟩
    obtain ⟨a, b, c⟩ := gL_mem.mp hx
    rw [Bool.and_eq_true, decide_eq_true_eq] at h2
    exact ⟨x, a, b, h2.1, c, by rw [← rT_le n (by omega)]; exact h2.2⟩
  · rintro ⟨x, a, b, c, d, e⟩
    refine ⟨x, gL_mem.mpr ⟨a, b, d⟩, ?_⟩
    rw [Bool.and_eq_true, decide_eq_true_eq]
    exact ⟨c, by rw [rT_le n (by omega)]; exact e⟩
/-- the greatest of them up to s -/
def gr (V : qV) : Nat → Nat
  | 0 => 0
  | s + 1 => if rc V (s + 1) = true then s + 1 else gr V s
theorem gr_le {V : qV} : ∀ s, gr V s ≤ s
  | 0 => Nat.le_refl _
  | s + 1 => by
    have := gr_le (V := V) s
    rw [gr]
    split <;> omega
theorem gr_rc {V : qV} : ∀ s, rc V (gr V s) = true
  | 0 => rfl
  | s + 1 => by
    rw [gr]
    split
    · assumption
    · exact gr_rc s
theorem gr_max {V : qV} : ∀ s a, a ≤ s → rc V a = true → a ≤ gr V s
  | 0, a, h, _ => h
  | s + 1, a, h, c => by
    rw [gr]
    by_cases e : rc V (s + 1) = true
    · rw [if_pos e]; exact h
    · rw [if_neg e]
      by_cases q : a = s + 1
      · subst q; exact absurd c e
      · exact gr_max s a (by omega) c
/-- what stays, one number taken off -/
theorem stay_le {V : qV} {s x : Nat} (h1 : 1 ≤ x) (h2 : x ≤ 99) (h3 : x ≤ s) (hl : sLets V x = true) : s - gr V s ≤ (s - x) - gr V (s - x) := by
  have a := gr_le (V := V) (s - x)
  have b := gr_rc (V := V) (s - x)
  have c : rc V (x + gr V (s - x)) = true := (rc_s (by omega)).mpr ⟨x, h1, h2, by omega, hl, by rw [Nat.add_sub_cancel_left]; exact b⟩
  have := gr_max s _ (by omega) c
  omega
theorem stay_at {V : qV} {s : Nat} (h : gr V s ≠ 0) : ∃ x, 1 ≤ x ∧ x ≤ 99 ∧ x ≤ s ∧ sLets V x = true ∧ (s - x) - gr V (s - x) = s - gr V s := by
  have g := gr_le (V := V) s
  obtain ⟨x, a, b, c, d, e⟩ := (rc_s (by omega)).mp (gr_rc (V := V) s)
  refine ⟨x, a, b, by omega, d, ?_⟩
  have l := stay_le a b (show x ≤ s by omega) d
  have m := gr_max (s - x) (gr V s - x) (by omega) e
  have k := gr_le (V := V) (s - x)
  omega
