/-! Pure: ways. -/
/-- sums from x on, j of them -/
def wI (g : Nat → Int32) (x : Nat) : Nat → Nat → Int32
  | 0 => g
  | j + 1 => fun i => if i = x + j then wI g x j i + wI g x j (i - x) else wI g x j i
theorem wI_s (g : Nat → Int32) (x j i : Nat) : wI g x (j + 1) i = if i = x + j then wI g x j i + wI g x j (i - x) else wI g x j i := rfl
def wS (p : Nat) (g : Nat → Int32) (x : Nat) : Nat → Int32 := wI g x (p + 1 - x)
def w0 : Nat → Int32 := fun i => if i = 0 then 1 else 0
def wF (V : qV) (p k : Nat) : Nat → Int32 := (gL V k).foldl (wS p) w0
theorem wF_s (V : qV) (p k : Nat) : wF V p (k + 1) = if sLets V (k + 1) = true then wS p (wF V p k) (k + 1) else wF V p k := by
  unfold wF
  rw [gL]
  by_cases c : sLets V (k + 1) = true
  · rw [if_pos c, if_pos c, List.foldl_append]; rfl
  · rw [if_neg c, if_neg c]
theorem wF_end (V : qV) (p : Nat) : ∀ d, wF V p (p + d) = wF V p p := by
  intro d
  induction d with
  | zero => rfl
  | succ d ih =>
    rw [← Nat.add_assoc, wF_s, ih]
    split
    · unfold wS
      rw [show p + 1 - (p + d + 1) = 0 by omega]; rfl
    · rfl
section WY
variable {t : qF} {I : qI} {J : qJ} {A : qI} {B : qJ} {V : qV} {Z : qW}
/-- the class's inner loop -/
theorem x_ways_in (K : Int32 → Int32 → qI → Option (Int32 × qI)) {p x i : Nat} (hp : p ≤ 60) (h1 : 1 ≤ x) (hi : i < 99) (g : Nat → Int32) (I0 : qI) (h49 : I0 49 i = nI x) : ∀ f j, x + j ≤ p + 1 → p + 1 - (x + j) < f → ∃ I', f_X4_waysToSum_38 1 K f (nI p) (nI i) (nI (x + j)) (quR I0 50 (fun a => if a ≤ p then wI g x j a else I0 50 a)) = K (nI p) (nI i + 1) I' ∧ I' = quR I0 50 (fun a => if a ≤ p then wI g x (p + 1 - x) a else I0 50 a) := by
  intro f
  induction f with
  | zero => intro j _ h; omega
  | succ f ih =>
    intro j hj hf
    rw [f_X4_waysToSum_38, if_d (nlt_i (show p < 2 ^ 31 by omega) (show x + j < 2 ^ 31 by omega))]
    by_cases q : p < x + j
    · rw [if_pos q, show p + 1 - x = j by omega]
      exact ⟨_, rfl, rfl⟩
    · have e49 : quR I0 50 (fun a => if a ≤ p then wI g x j a else I0 50 a) 49 i = nI x := by
        unfold quR
        rw [if_neg (by decide)]; exact h49
      have e50 : ∀ a, a ≤ p → quR I0 50 (fun a => if a ≤ p then wI g x j a else I0 50 a) 50 a = wI g x j a := fun a ha => by
        unfold quR
        rw [if_pos rfl, if_pos ha]
      have q1 := qin_n (show x + j < 401 by omega) (by decide)
      rw [if_neg q, gd_t q1, gd_t (qin_n (show i < 99 by omega) (by decide)), clampI (show i < 2 ^ 31 by omega), e49, subI (by omega), Nat.add_sub_cancel_left, gd_t (qin_n (show j < 401 by omega) (by decide)), gd_t q1, lt_e, clampI (by omega), clampI (by omega), e50 _ (by omega), e50 _ (by omega), nI_1]
      have st : qu (quR I0 50 (fun a => if a ≤ p then wI g x j a else I0 50 a)) 50 (x + j) (wI g x j (x + j) + wI g x j j) = quR I0 50 (fun a => if a ≤ p then wI g x (j + 1) a else I0 50 a) := by
        funext a b
        rw [qu_at]
        unfold quR
        by_cases e : a = 50
        · subst e
          rw [if_pos rfl, if_pos rfl, if_pos rfl]
          by_cases e2 : b = x + j
          · subst e2
            rw [if_pos rfl, if_pos (show x + j ≤ p by omega), wI_s, if_pos rfl, Nat.add_sub_cancel_left]
          · rw [if_neg e2, wI_s, if_neg e2]
        · rw [if_neg e, if_neg e, if_neg e]
      rw [st]
      exact ih (j + 1) (by omega) (by omega)
theorem nofill (k : Nat) (I : qI) : f_J7_fill_53178 k 401 (0 : Int32) I = some (quR I k (fun a => if a < 401 then 0 else I k a)) := by
  have loop : ∀ f n, n ≤ 401 → 401 - n < f → f_J7_fill_53178_5 k 401 f (0 : Int32) (nI n) (nI 401) (quR I k (fun a => if a < n then 0 else I k a)) = some (quR I k (fun a => if a < 401 then 0 else I k a)) := by
    intro f
    induction f with
    | zero => intro n _ h; omega
    | succ f ih =>
      intro n hn hf
      rw [f_J7_fill_53178_5, stopN' hn (by decide)]
      by_cases q : n = 401
      · subst q; rw [if_pos rfl]
      · rw [if_neg q, gd_t (qin_n (by omega) (by decide)), clampI (by omega), lt_e, nI_1]
        have st : qu (quR I k (fun a => if a < n then 0 else I k a)) k n 0 = quR I k (fun a => if a < n + 1 then 0 else I k a) := by
          funext a b
          rw [qu_at]
          unfold quR
          by_cases e : a = k
          · subst e
            rw [if_pos rfl, if_pos rfl, if_pos rfl]
            by_cases e2 : b = n
            · rw [if_pos e2, if_pos (by omega)]
            · rw [if_neg e2]
              by_cases l : b < n
              · rw [if_pos l, if_pos (by omega)]
              · rw [if_neg l, if_neg (by omega)]
          · rw [if_neg e, if_neg e, if_neg e]
        rw [st]
        exact ih (n + 1) (by omega) (by omega)
  have e : quR I k (fun a => if a < 0 then 0 else I k a) = I := by
    funext a b
    unfold quR
    by_cases e : a = k
    · rw [if_pos e, if_neg (Nat.not_lt_zero _), e]
    · rw [if_neg e]
  have := loop 1000 0 (by decide) (by decide)
  rw [e] at this
  exact this
end WY
