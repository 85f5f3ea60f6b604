/-! Pure: left (3). -/
section LF
variable {t : qF} {I : qI} {J : qJ} {A : qI} {B : qJ} {V : qV} {Z : qW}
theorem ite_m {a b : Nat} (ha : a < 2 ^ 31) (hb : b < 2 ^ 31) : (if nI a < nI b then nI a else nI b) = nI (if a < b then a else b) := by
  by_cases h : a < b
  · rw [if_pos h, if_pos ((nlt_i ha hb).mpr h)]
  · rw [if_neg h, if_neg (fun z => h ((nlt_i ha hb).mp z))]
/-- the class's inner loop -/
theorem x_left_in (K : Int32 → Int32 → qI → Option (Int32 × qI)) {n s : Nat} (hs : s ≤ 400) (I1 : qI) (c1 : I1 48 2 = nI (gL V 99).length) (c2 : ∀ i, i < (gL V 99).length → I1 49 i = nI ((gL V 99).getD i 0)) (c3 : ∀ a, a < s → I1 50 a = nI (a - gr V a)) :
    ∀ f i, i ≤ (gL V 99).length → (gL V 99).length - i < f → ∀ b, b ≤ s → s - gr V s ≤ b → (∀ j, j < i → (gL V 99).getD j 0 ≤ s → b ≤ (s - (gL V 99).getD j 0) - gr V (s - (gL V 99).getD j 0)) →
      f_X4_leastStaying_18 1 K f (nI n) (nI s) (nI b) (nI i) I1 = K (nI n) (nI (s + 1)) (qu I1 50 s (nI (s - gr V s))) := by
  have hl := gL_len (V := V) 99
  intro f
  induction f with
  | zero => intro i _ h; omega
  | succ f ih =>
    intro i hi hf b hb1 hb2 hb3
    have q4 := qin_n (show s < 401 by omega) (by decide)
    have fin : (∀ j, j < (gL V 99).length → (gL V 99).getD j 0 ≤ s → j < i) → f_X4_leastStaying_65 1 K (nI n) (nI s) (nI b) I1 = K (nI n) (nI (s + 1)) (qu I1 50 s (nI (s - gr V s))) := by
      intro all
      have e : b = s - gr V s := by
        by_cases g0 : gr V s = 0
        · omega
        · obtain ⟨x, a1, a2, a3, a4, a5⟩ := stay_at g0
          obtain ⟨j, hj, ej⟩ := List.mem_iff_getElem.mp (gL_mem (k := 99) |>.mpr ⟨a1, a2, a4⟩)
          have ej2 : (gL V 99).getD j 0 = x := by
            rw [List.getD_eq_getElem?_getD, List.getElem?_eq_getElem hj]
            exact ej
          have := hb3 j (all j hj (by omega)) (by omega)
          rw [ej2] at this
          omega
      unfold f_X4_leastStaying_65
      rw [gd_t q4, lt_e, clampI (by omega), nI_1, e]
    rw [f_X4_leastStaying_18, c1, stopN' hi (by omega)]
    by_cases q : i = (gL V 99).length
    · rw [if_pos q]
      exact fin fun j hj _ => by omega
    · have hi2 : i < (gL V 99).length := by omega
      obtain ⟨x1, x2, x3⟩ := gL_at (V := V) 99 i hi2
      have qi := qin_n (show i < 99 by omega) (by decide)
      rw [if_neg q, gd_t qi, gd_t qi, clampI (show i < 2 ^ 31 by omega), c2 i hi2, if_d (nlt_i (show s < 2 ^ 31 by omega) (show (gL V 99).getD i 0 < 2 ^ 31 by omega))]
      by_cases d : s < (gL V 99).getD i 0
      · rw [if_pos d]
        refine fin fun j hj hj2 => ?_
        apply Classical.byContradiction
        intro no
        by_cases e : j = i
        · subst e; omega
        · have := gL_lt (V := V) 99 i j (by omega) hj
          omega
      · have g1 := gr_le (V := V) (s - (gL V 99).getD i 0)
        rw [if_neg d, subI (by omega), gd_t (qin_n (show s - (gL V 99).getD i 0 < 401 by omega) (by decide)), lt_e, clampI (show s - (gL V 99).getD i 0 < 2 ^ 31 by omega), c3 _ (by omega), ite_m (by omega) (by omega), nI_1]
        have sl := stay_le x1 x2 (show (gL V 99).getD i 0 ≤ s by omega) x3
        refine ih (i + 1) (by omega) (by omega) _ (by split <;> omega) (by split <;> omega) (fun j hj hj2 => ?_)
        by_cases e : j = i
        · subst e
          split <;> omega
        · have := hb3 j (by omega) hj2
          split <;> omega
theorem x_left (hx : XV I 1 V Z) (hW : WF V) {n : Nat} (hn : n ≤ 400) : ∃ I', f_X4_leastStaying 1 (nI n) I = some (nI (n - gr V n), I') ∧ (∀ k j, k ≠ 48 → k ≠ 49 → k ≠ 50 → I' k j = I k j) := by
  obtain ⟨I1, e1, f1, c1, c2⟩ := x_collect hx hW
  have loop : ∀ f s, s ≤ n + 1 → n + 1 - s < f → ∀ I2 : qI, (∀ k j, k ≠ 50 → I2 k j = I1 k j) → (∀ a, a < s → I2 50 a = nI (a - gr V a)) → ∃ I', f_X4_leastStaying_7 1 f (nI n) (nI s) I2 = some (nI (n - gr V n), I') ∧ (∀ k j, k ≠ 50 → I' k j = I1 k j) := by
    intro f
    induction f with
    | zero => intro s _ h; omega
    | succ f ih =>
      intro s hs hf I2 g1 g2
      rw [f_X4_leastStaying_7, if_d (nlt_i (show n < 2 ^ 31 by omega) (show s < 2 ^ 31 by omega))]
      by_cases q : n < s
      · rw [if_pos q, gd_t (qin_n (show n < 401 by omega) (by decide)), clampI (by omega), g2 n q]
        exact ⟨I2, rfl, g1⟩
      · have hl := gL_len (V := V) 99
        rw [if_neg q, show f_X4_leastStaying_18 1 (f_X4_leastStaying_7 1 f) 1000 (nI n) (nI s) (nI s) 0 I2 = _ from x_left_in (V := V) (f_X4_leastStaying_7 1 f) (n := n) (show s ≤ 400 by omega) I2 (by rw [g1 48 2 (by decide)]; exact c1) (fun i hi => by rw [g1 49 i (by decide)]; exact c2 i hi) g2 1000 0 (Nat.zero_le _) (by omega) s (Nat.le_refl _) (Nat.sub_le _ _) (fun j hj => by omega)]
        refine ih (s + 1) (by omega) (by omega) _ (fun k j hk => by rw [qu_k hk]; exact g1 k j hk) (fun a ha => ?_)
        by_cases e : a = s
        · subst e; rw [qu_s]
        · rw [qu_i e]; exact g2 a (by omega)
  unfold f_X4_leastStaying
  rw [e1, bd_s]
  obtain ⟨I', r1, r2⟩ := loop 1000 0 (by omega) (by omega) I1 (fun _ _ _ => rfl) (fun a ha => by omega)
  exact ⟨I', r1, fun k j h1 h2 h3 => by rw [r2 k j h3]; exact f1 k j h1 h2⟩
/-- the reference's inner loop: what is known of s by the numbers below k -/
def aC (V : qV) (s : Nat) : Nat → Bool
  | 0 => false
  | k + 1 => aC V s k || (decide (1 ≤ k) && (sLets V k && rc V (s - k)))
theorem aC_t {V : qV} {s : Nat} : ∀ {k : Nat}, aC V s k = true ↔ ∃ x, 1 ≤ x ∧ x < k ∧ sLets V x = true ∧ rc V (s - x) = true
  | 0 => ⟨fun h => (by cases h), fun ⟨x, h1, h2, _⟩ => by omega⟩
  | k + 1 => by
    rw [aC, Bool.or_eq_true, aC_t, Bool.and_eq_true, Bool.and_eq_true, decide_eq_true_eq]
    constructor
    · rintro (⟨x, h1, h2, h3, h4⟩ | ⟨h1, h2, h3⟩)
      · exact ⟨x, h1, by omega, h3, h4⟩
      · exact ⟨k, h1, by omega, h2, h3⟩
    · rintro ⟨x, h1, h2, h3, h4⟩
      by_cases e : x = k
      · subst e; exact Or.inr ⟨h1, h3, h4⟩
      · exact Or.inl ⟨x, h1, by omega, h3, h4⟩
theorem aC_end {V : qV} {s k : Nat} (h1 : 1 ≤ s) (hk : (k = s + 1 ∧ k ≤ 100) ∨ (k = 100 ∧ k ≤ s + 1)) : aC V s k = rc V s := by
  cases c : rc V s with
  | true =>
    obtain ⟨x, a, b, d, e, f⟩ := (rc_s h1).mp c
    exact aC_t.mpr ⟨x, a, by omega, e, f⟩
  | false =>
    cases c2 : aC V s k with
    | false => rfl
    | true =>
      obtain ⟨x, a, b, e, f⟩ := aC_t.mp c2
      have := (rc_s h1).mpr ⟨x, a, by omega, by omega, e, f⟩
      rw [c] at this
      cases this
theorem b2i_or (a b : Bool) : b2i a ||| b2i b = b2i (a || b) := by cases a <;> cases b <;> decide
theorem m_left_in (K : Int32 → Int32 → Int32 → qI → Option (Int32 × qI)) {n s m : Nat} (hs : s ≤ 400) (h1 : 1 ≤ s) (hm : MV A 0 V Z) (hW : WF V) :
    ∀ f k, 1 ≤ k → k ≤ s + 1 → k ≤ 100 → 101 - k < f → ∀ A1 : qI, (∀ k j, k ≠ 24 → A1 k j = A k j) → (∀ a, a < s → A1 24 a = b2i (rc V a)) → A1 24 s = b2i (aC V s k) →
      ∃ A', f_X9_left_46 K f (nI n) (nI m) (nI s) (nI k) A1 = (if rc V s = true then K (nI n) (nI s) (nI (s + 1)) A' else K (nI n) (nI m) (nI (s + 1)) A') ∧ (∀ k j, k ≠ 24 → A' k j = A k j) ∧ (∀ a, a < s + 1 → A' 24 a = b2i (rc V a)) := by
  intro f
  induction f with
  | zero => intro k _ _ _ h; omega
  | succ f ih =>
    intro k hk1 hk2 hk3 hf A1 g1 g2 g3
    have q4 := qin_n (show s < 401 by omega) (by decide)
    have fin : aC V s k = rc V s → ∃ A', f_X9_left_97 K (nI n) (nI m) (nI s) A1 = (if rc V s = true then K (nI n) (nI s) (nI (s + 1)) A' else K (nI n) (nI m) (nI (s + 1)) A') ∧ (∀ k j, k ≠ 24 → A' k j = A k j) ∧ (∀ a, a < s + 1 → A' 24 a = b2i (rc V a)) := by
      intro e
      rw [e] at g3
      refine ⟨A1, ?_, g1, fun a ha => ?_⟩
      · unfold f_X9_left_97
        rw [gd_t q4, clampI (by omega), g3, nI_1]
        cases rc V s <;> rfl
      · by_cases q : a = s
        · subst q; exact g3
        · exact g2 a (by omega)
    rw [f_X9_left_46, if_d (nlt_i (show s < 2 ^ 31 by omega) (show k < 2 ^ 31 by omega)), if_d (show (99 : Int32) < nI k ↔ 99 < k from nlt_i (a := 99) (by decide) (by omega))]
    by_cases c1 : s < k
    · rw [if_pos c1]
      exact fin (aC_end h1 (Or.inl ⟨by omega, hk3⟩))
    · rw [if_neg c1]
      by_cases c2 : 99 < k
      · rw [if_pos c2]
        exact fin (aC_end h1 (Or.inr ⟨by omega, by omega⟩))
      · have ih := ih (k + 1) (by omega) (by omega) (by omega) (by omega)
        rw [if_neg c2, gd_t q4, m_goes (hm.fr fun k j g => g1 k j (by omega)) hW (show k < 2 ^ 31 by omega), bd_b, if_b, clampI (by omega), g3]
        have st : aC V s (k + 1) = (aC V s k || (sLets V k && rc V (s - k))) := by
          rw [aC, decide_eq_true hk1, Bool.true_and]
        unfold f_X9_left_89
        by_cases c : sLets V k = true
        · rw [c, Bool.true_and] at st
          rw [if_pos c, subI (by omega), gd_t (qin_n (show s - k < 401 by omega) (by decide)), gd_t q4, lt_e, clampI (show s < 2 ^ 31 by omega), nI_1, clampI (show s - k < 2 ^ 31 by omega), g2 _ (by omega), b2i_or, ← st]
          exact ih _ (fun a j ha => by rw [qu_k ha]; exact g1 a j ha) (fun a ha => by rw [qu_i (by omega)]; exact g2 a ha) qu_s
        · rw [if_neg c, gd_t q4, lt_e, clampI (show s < 2 ^ 31 by omega), nI_1, show b2i (aC V s k) ||| (0 : Int32) = b2i (aC V s k) from Int32.or_zero]
          rw [Bool.eq_false_iff.mpr c, Bool.false_and, Bool.or_false] at st
          rw [← st]
          exact ih _ (fun a j ha => by rw [qu_k ha]; exact g1 a j ha) (fun a ha => by rw [qu_i (by omega)]; exact g2 a ha) qu_s
theorem m_left (hm : MV A 0 V Z) (hW : WF V) {n : Nat} (hn : n ≤ 400) : ∃ A', f_X9_left_31 1000 (nI n) 0 1 (qu A 24 0 1) = some (nI (n - gr V n), A') ∧ (∀ k j, k ≠ 24 → A' k j = A k j) := by
  have loop : ∀ f s, s ≤ n → n - s < f → ∀ A1 : qI, (∀ k j, k ≠ 24 → A1 k j = A k j) → (∀ a, a < s + 1 → A1 24 a = b2i (rc V a)) → ∃ A', f_X9_left_31 f (nI n) (nI (gr V s)) (nI (s + 1)) A1 = some (nI (n - gr V n), A') ∧ (∀ k j, k ≠ 24 → A' k j = A k j) := by
    intro f
    induction f with
    | zero => intro s _ h; omega
    | succ f ih =>
      intro s hs hf A1 g1 g2
      have gl := gr_le (V := V) s
      rw [f_X9_left_31, if_d (nlt_i (show n < 2 ^ 31 by omega) (show s + 1 < 2 ^ 31 by omega))]
      by_cases q : n < s + 1
      · have e : s = n := by omega
        subst e
        rw [if_pos q, subI gl]
        exact ⟨A1, rfl, g1⟩
      · rw [if_neg q, gd_t (qin_n (show s + 1 < 401 by omega) (by decide)), lt_e, clampI (by omega)]
        obtain ⟨A', r1, r2, r3⟩ := m_left_in (V := V) (f_X9_left_31 f) (n := n) (s := s + 1) (m := gr V s) (by omega) (by omega) hm hW 1000 1 (by omega) (by omega) (by omega) (by omega) (qu A1 24 (s + 1) 0) (fun a j ha => by rw [qu_k ha]; exact g1 a j ha) (fun a ha => by rw [qu_i (by omega)]; exact g2 a ha) (by rw [qu_s]; rfl)
        rw [show f_X9_left_46 (f_X9_left_31 f) 1000 (nI n) (nI (gr V s)) (nI (s + 1)) 1 (qu A1 24 (s + 1) 0) = _ from r1]
        have ih := ih (s + 1) (by omega) (by omega) A' r2 r3
        rw [gr] at ih
        by_cases c : rc V (s + 1) = true
        · rw [if_pos c] at ih ⊢; exact ih
        · rw [if_neg c] at ih ⊢; exact ih
  exact loop 1000 0 (Nat.zero_le _) (by omega) _ (fun k j hk => by rw [qu_k hk]) (fun a ha => by
    have e : a = 0 := by omega
    subst e
    rw [qu_s]; rfl)
theorem s_left (h : Rel t I J A B) (p : Int32) : Sim t J B (f_X8_left p I) (f_X9_left p A) := by
  obtain ⟨V, Z, ⟨hx, hm, hW⟩, -⟩ := id h
  refine sim_in p 0 400 (a := 0) (b := 400) rfl rfl (by decide) (by decide) rfl rfl (fun n _ hn e => ?_) (sim_bad h)
  subst e
  obtain ⟨I', e1, f1⟩ := x_left hx hW hn
  obtain ⟨A', e2, f2⟩ := m_left hm hW hn
  rw [e1, bd2_s, lt_e, e2]
  exact ⟨_, _, _, rfl, rfl, h.fr (fun k j g => f1 k j (by omega) (by omega) (by omega)) (fun k j g => f2 k j (by omega)) FJ.rf⟩
end LF
