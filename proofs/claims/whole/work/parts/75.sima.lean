/-! Pure: copy; knots. -/
section SA
variable {t : qF} {I : qI} {J : qJ} {A : qI} {B : qJ} {V : qV} {Z : qW}
theorem subI {a b : Nat} (h : b ≤ a) : nI a - nI b = nI (a - b) := by
  rw [show nI a = nI (a - b) + nI b by rw [add_nI, Nat.sub_add_cancel h]]
  exact Int32.add_sub_cancel _ _
theorem neg_lt {x : Int32} (h : ¬ x < 0) : ∃ k, k < 2 ^ 31 ∧ x = nI k := nI_of h
theorem s_copy (h : Rel t I J A B) (p q r u w : Int32) : SimJ t (f_X8_copy p q r u w I J) (f_X9_copy p q r u w A B) := by
  unfold f_X8_copy f_X9_copy
  rw [isShelf_s, isShelf_s]
  refine simJ_in p 0 7 (a := 0) (b := 7) rfl rfl (by decide) (by decide) rfl rfl (fun s _ hs e => ?_) (simJ_bad h)
  subst e
  refine simJ_in q 0 7 (a := 0) (b := 7) rfl rfl (by decide) (by decide) rfl rfl (fun d _ hd e => ?_) (simJ_bad h)
  subst e
  have hs8 : s < 8 := by omega
  have qs := qin_n hs8 (by decide)
  have cs := clampI (show s < 2 ^ 31 by omega)
  have hd8 : d < 8 := by omega
  have qd := qin_n hd8 (by decide)
  have cd := clampI (show d < 2 ^ 31 by omega)
  obtain ⟨n, hn, -, hr⟩ := h.sh hs8
  obtain ⟨c, hc, a1, x1, x2, r1, r2, r0⟩ := shelf_st hr hn
  obtain ⟨hj, ⟨m, hm, l1, l2⟩, -⟩ := hr
  obtain ⟨n', hn', -, hr'⟩ := h.sh hd8
  obtain ⟨c', hc', a1', x1', x2', r1', r2', r0'⟩ := shelf_st hr' hn'
  obtain ⟨hj', ⟨m', hm', l1', l2'⟩, -⟩ := hr'
  have tt : ∀ (c : Nat), (c = 0 ∨ c = 1 ∨ c = 2) → ∀ j, j < 3 → (nI c = nI j) = (c = j) := fun c hc j hj => propext (nI_inj (by omega) (by omega))
  have k0 : ∀ c, (c = 0 ∨ c = 1 ∨ c = 2) → (nI c = 0) = (c = 0) := fun c hc => tt c hc 0 (by decide)
  have k1 : ∀ c, (c = 0 ∨ c = 1 ∨ c = 2) → (nI c = 1) = (c = 1) := fun c hc => tt c hc 1 (by decide)
  have k2 : ∀ c, (c = 0 ∨ c = 1 ∨ c = 2) → (nI c = 2) = (c = 2) := fun c hc => tt c hc 2 (by decide)
  -- behind the kinds
  have rest : c ≠ 2 → c' ≠ 2 → SimJ t (f_X8_copy_99 r u w (28 + 2 * s) (28 + 2 * d) I J) (f_X9_copy_95 (nI s) (nI d) r u w A B) := by
    intro z2 z2'
    unfold f_X8_copy_99 f_X9_copy_95
    simp only [gd_t qs, gd_t qd, cs, cd, a1, a1', x1, x1', k0 c hc, k0 c' hc', bd_b, if_b]
    by_cases e1 : c = 1
    · by_cases e2 : c' = 1
      · obtain ⟨k, hk, i1, i2⟩ := r1 e1
        obtain ⟨k', hk', i1', i2'⟩ := r1' e2
        rw [if_neg (show ¬ c = 0 by omega), if_neg (show ¬ c' = 0 by omega), decide_eq_true e1, decide_eq_true e2, if_pos rfl, if_pos rfl, places hk i1 l1, places hk' i1' l1', bd_b, bd_b, if_b, if_b, l2, l2']
        by_cases w0 : w < 0
        · rw [if_pos w0, decide_eq_false (show ¬ ((0 : Int32) ≤ w ∧ w ≤ nI m) from fun z => absurd w0 (Int32.not_lt.mpr z.1)), Bool.false_and, if_neg (by decide)]
          exact simJ_bad h
        · rw [if_neg w0]
          obtain ⟨w, hw, rfl⟩ := neg_lt w0
          by_cases r0 : r < 0
          · rw [if_pos r0, decide_eq_false (show ¬ ((0 : Int32) ≤ r ∧ r ≤ nI m - nI w) from fun z => absurd r0 (Int32.not_lt.mpr z.1)), Bool.and_false, if_neg (by decide)]
            exact simJ_bad h
          · rw [if_neg r0]
            obtain ⟨r, hr, rfl⟩ := neg_lt r0
            by_cases u0 : u < 0
            · rw [if_pos u0, decide_eq_false (show ¬ ((0 : Int32) ≤ u ∧ u ≤ nI m' - nI w) from fun z => absurd u0 (Int32.not_lt.mpr z.1)), Bool.and_false, if_neg (show ¬ (false = true) by decide)]
              have := simJ_bad h
              split <;> exact this
            · rw [if_neg u0]
              obtain ⟨u, hu, rfl⟩ := neg_lt u0
              rw [if_d (nlt_i (show m < 2 ^ 31 by omega) hw), if_d (nlt_i (show m' < 2 ^ 31 by omega) hw)]
              by_cases m1 : m < w
              · rw [if_pos m1, decide_eq_false (show ¬ ((0 : Int32) ≤ nI w ∧ nI w ≤ nI m) from fun z => by
                  have := (nle_i hw (show m < 2 ^ 31 by omega)).mp z.2
                  omega), Bool.false_and, if_neg (by decide)]
                exact simJ_bad h
              · rw [if_neg m1]
                by_cases m2 : m' < w
                · rw [if_pos m2, decide_eq_false (show ¬ ((0 : Int32) ≤ nI w ∧ nI w ≤ nI m') from fun z => by
                    have := (nle_i hw (show m' < 2 ^ 31 by omega)).mp z.2
                    omega), Bool.false_and, if_neg (show ¬ (false = true) by decide)]
                  have := simJ_bad h
                  split <;> exact this
                · rw [if_neg m2, subI (by omega), subI (by omega), if_d (nlt_i (show m - w < 2 ^ 31 by omega) hr), if_d (nle_i hu (show m' - w < 2 ^ 31 by omega)), decide_eq_true (show (0 : Int32) ≤ nI w ∧ nI w ≤ nI m from ⟨nI_pos' hw, (nle_i hw (by omega)).mpr (by omega)⟩), decide_eq_true (show (0 : Int32) ≤ nI w ∧ nI w ≤ nI m' from ⟨nI_pos' hw, (nle_i hw (by omega)).mpr (by omega)⟩), Bool.true_and, Bool.true_and]
                  by_cases b1 : m - w < r
                  · rw [if_pos b1, decide_eq_false (show ¬ ((0 : Int32) ≤ nI r ∧ nI r ≤ nI (m - w)) from fun z => by
                      have := (nle_i hr (show m - w < 2 ^ 31 by omega)).mp z.2
                      omega), if_neg (by decide)]
                    exact simJ_bad h
                  · rw [if_neg b1, decide_eq_true (show (0 : Int32) ≤ nI r ∧ nI r ≤ nI (m - w) from ⟨nI_pos' hr, (nle_i hr (by omega)).mpr (by omega)⟩), if_pos rfl]
                    by_cases b2 : u ≤ m' - w
                    · rw [if_pos b2, decide_eq_true (show (0 : Int32) ≤ nI u ∧ nI u ≤ nI (m' - w) from ⟨nI_pos' hu, (nle_i hu (by omega)).mpr (by omega)⟩), if_pos rfl, gd_t (nI_pos hr), gd_t (nI_pos hu), gd_t (nI_pos hw), clampI hr, clampI hu, clampI hw, gd_t (by omega), gd_t (by omega), lt_e]
                      obtain ⟨B', f1, f2, f3⟩ := m_move (A := A) (B := B) hs8 hd8 (show r + w ≤ 40 by omega) (show u + w ≤ 40 by omega)
                      rw [show f_X9_copy_195 1000 (nI s) (nI d) (nI r) (nI u) (nI w) 0 A B = _ from f1]
                      refine ⟨_, _, _, _, _, rfl, rfl, h.shelf hd8 (fun _ _ _ => rfl) (fun a j z => ?_) (fun _ _ _ => rfl) f3 (fun n _ _ _ => RH.row hk' hm' i1' (a1'.trans (by rw [e2]; rfl)) i2' l1' l2' fun j hj40 => ?_)⟩
                      · unfold quRL
                        rw [if_neg (by omega)]
                      · rw [f2]
                        unfold quRL
                        rw [if_pos (by omega)]
                        unfold va_cpy
                        by_cases g : u ≤ j ∧ j < u + w
                        · rw [if_pos g, if_pos g, show 28 + 2 * s + 1 = 29 + 2 * s by omega, hj _ (by omega)]
                        · rw [if_neg g, if_neg g, show 28 + 2 * d + 1 = 29 + 2 * d by omega, hj' _ hj40]
                    · rw [if_neg b2, decide_eq_false (show ¬ ((0 : Int32) ≤ nI u ∧ nI u ≤ nI (m' - w)) from fun z => b2 ((nle_i hu (by omega)).mp z.2)), if_neg (by decide)]
                      exact simJ_bad h
      · have y0 : c' = 0 := hc'.elim id fun z => z.elim (fun z => absurd z e2) (fun z => absurd z z2')
        have y1 : ¬ c = 0 := fun z => absurd (z.symm.trans e1) (by decide)
        rw [if_neg y1, decide_eq_true e1, decide_eq_false e2, if_pos rfl, if_neg (show ¬ (false = true) by decide), if_pos y0]
        exact simJ_nothing h
    · have y0 : c = 0 := hc.elim id fun z => z.elim (fun z => absurd z e1) (fun z => absurd z z2)
      rw [decide_eq_false e1, if_neg (show ¬ (false = true) by decide), if_pos y0]
      exact simJ_nothing h
  simp only [gd_t qs, gd_t qd, cs, cd, a1, a1', x1, x1', x2, x2', k1 c hc, k1 c' hc', k2 c hc, k2 c' hc', bd_b, if_b]
  by_cases e2 : c = 2
  · rw [decide_eq_true e2, if_pos rfl, if_pos e2]
    exact simJ_other h
  · rw [decide_eq_false e2, if_neg (show ¬ (false = true) by decide), if_neg e2]
    by_cases e2' : c' = 2
    · rw [decide_eq_true e2', if_pos rfl, if_pos e2']
      exact simJ_other h
    · rw [decide_eq_false e2', if_neg (show ¬ (false = true) by decide), if_neg e2']
      have rest := rest e2 e2'
      by_cases e1 : c = 1
      · rw [decide_eq_true e1, if_pos rfl, if_pos e1]
        by_cases e1' : c' = 1
        · rw [decide_eq_true e1', if_pos rfl, if_pos e1']
          obtain ⟨k, hk, i1, i2⟩ := r1 e1
          obtain ⟨k', hk', i1', i2'⟩ := r1' e1'
          rw [i1, i1', i2, i2']
          by_cases q : nI k = nI k'
          · rw [if_pos q, if_pos q]; exact rest
          · rw [if_neg q, if_neg q]; exact simJ_other h
        · rw [decide_eq_false e1', if_neg (show ¬ (false = true) by decide), if_neg e1']
          exact rest
      · rw [decide_eq_false e1, if_neg (show ¬ (false = true) by decide), if_neg e1]
        exact rest
/-- one round of a knot: the first k parties looked at -/
def sRd (V : qV) (m : Nat) : Nat → Nat
  | 0 => m
  | k + 1 => if (sRd V m k).testBit k then sRd V m k ||| V 4 k else sRd V m k
def sIt (V : qV) (m : Nat) : Nat → Nat
  | 0 => m
  | r + 1 => sRd V (sIt V m r) (V 7 0)
theorem sRd_lt (hW : WF V) {m : Nat} (hm : m < 2 ^ V 7 0) : ∀ k, k ≤ V 7 0 → sRd V m k < 2 ^ V 7 0 := by
  intro k
  induction k with
  | zero => intro _; exact hm
  | succ k ih =>
    intro hk
    have := ih (by omega)
    have h4 := hW.b4 (Or.inl rfl) k (by have := hW.n; omega)
    rw [sRd]
    split
    · exact Nat.or_lt_two_pow this h4
    · exact this
theorem sIt_lt (hW : WF V) {m : Nat} (hm : m < 2 ^ V 7 0) : ∀ r, sIt V m r < 2 ^ V 7 0 := by
  intro r
  induction r with
  | zero => exact hm
  | succ r ih => exact sRd_lt hW ih _ (Nat.le_refl _)
theorem sRd_sub {V : qV} {m i : Nat} (h : m.testBit i = true) : ∀ k, (sRd V m k).testBit i = true := by
  intro k
  induction k with
  | zero => exact h
  | succ k ih =>
    rw [sRd]
    split
    · rw [Nat.testBit_or, ih]; rfl
    · exact ih
/-- how many bits below k -/
theorem pc_mono {a b : Nat} (h : ∀ i, a.testBit i = true → b.testBit i = true) : ∀ k, sPc a k ≤ sPc b k := by
  intro k
  induction k with
  | zero => exact Nat.le_refl _
  | succ k ih =>
    rw [sPc, sPc]
    by_cases e : a.testBit k = true
    · rw [if_pos e, if_pos (h k e)]; omega
    · rw [if_neg e]; omega
theorem pc_strict {a b j : Nat} (h : ∀ i, a.testBit i = true → b.testBit i = true) (h1 : a.testBit j = false) (h2 : b.testBit j = true) : ∀ k, j < k → sPc a k < sPc b k := by
  intro k
  induction k with
  | zero => intro h; omega
  | succ k ih =>
    intro hk
    rw [sPc, sPc]
    by_cases e : j = k
    · subst e
      rw [if_neg (by rw [h1]; decide), if_pos h2]
      have := pc_mono h j
      omega
    · have := ih (by omega)
      by_cases e : a.testBit k = true
      · rw [if_pos e, if_pos (h k e)]; omega
      · rw [if_neg e]; omega
theorem pc_le (a : Nat) : ∀ k, sPc a k ≤ k := by
  intro k
  induction k with
  | zero => exact Nat.le_refl _
  | succ k ih => rw [sPc]; split <;> omega
theorem pc_full {a : Nat} : ∀ k, k ≤ sPc a k → ∀ i, i < k → a.testBit i = true := by
  intro k
  induction k with
  | zero => intro _ i h; omega
  | succ k ih =>
    intro h i hi
    rw [sPc] at h
    have := pc_le a k
    by_cases e : a.testBit k = true
    · rw [if_pos e] at h
      by_cases q : i = k
      · subst q; exact e
      · exact ih (by omega) i (by omega)
    · rw [if_neg e] at h
      omega
theorem sIt_fix (hW : WF V) {m : Nat} (hm : m < 2 ^ V 7 0) (h1 : 1 ≤ sPc m (V 7 0)) : ∀ r, sIt V m (r + 1) = sIt V m r ∨ r + 1 ≤ sPc (sIt V m r) (V 7 0) := by
  intro r
  induction r with
  | zero => exact Or.inr h1
  | succ r ih =>
    rcases ih with ih | ih
    · left
      show sRd V (sIt V m (r + 1)) (V 7 0) = sIt V m (r + 1)
      rw [ih]
      exact ih
    · by_cases e : sIt V m (r + 1) = sIt V m r
      · left
        show sRd V (sIt V m (r + 1)) (V 7 0) = sIt V m (r + 1)
        rw [e]
        exact e
      · right
        have sub : ∀ i, (sIt V m r).testBit i = true → (sIt V m (r + 1)).testBit i = true := fun i h => sRd_sub h _
        have l1 := sIt_lt hW hm r
        have l2 := sIt_lt hW hm (r + 1)
        have : ∃ j, j < V 7 0 ∧ (sIt V m r).testBit j = false ∧ (sIt V m (r + 1)).testBit j = true := by
          apply Classical.byContradiction
          intro no
          apply e
          apply Nat.eq_of_testBit_eq
          intro j
          by_cases hj : j < V 7 0
          · cases c : (sIt V m r).testBit j
            · cases c2 : (sIt V m (r + 1)).testBit j
              · rfl
              · exact absurd ⟨j, hj, c, c2⟩ no
            · exact sub j c
          · have p := Nat.pow_le_pow_right (n := 2) (by decide) (show V 7 0 ≤ j by omega)
            rw [Nat.testBit_lt_two_pow (by omega), Nat.testBit_lt_two_pow (by omega)]
        obtain ⟨j, hj, c1, c2⟩ := this
        have := pc_strict sub c1 c2 (V 7 0) hj
        omega
theorem sIt_end (hW : WF V) {p : Nat} (hp : p < V 7 0) : sIt V (2 ^ p) (V 7 0) = sIt V (2 ^ p) (V 7 0 - 1) := by
  have hm : 2 ^ p < 2 ^ V 7 0 := Nat.pow_lt_pow_right (by decide) hp
  have h1 : 1 ≤ sPc (2 ^ p) (V 7 0) := by
    have := pc_strict (a := 0) (b := 2 ^ p) (j := p) (fun i h => by rw [Nat.zero_testBit] at h; cases h) (Nat.zero_testBit p) (by rw [Nat.testBit_two_pow]; simp) (V 7 0) hp
    omega
  have e : V 7 0 - 1 + 1 = V 7 0 := by omega
  have := sIt_fix hW hm h1 (V 7 0 - 1)
  rw [e] at this
  rcases this with h | h
  · exact h
  · have all := pc_full _ h
    have l1 := sIt_lt hW hm (V 7 0 - 1)
    have l2 := sIt_lt hW hm (V 7 0)
    have st : sIt V (2 ^ p) (V 7 0) = sRd V (sIt V (2 ^ p) (V 7 0 - 1)) (V 7 0) := by
      have : sIt V (2 ^ p) (V 7 0 - 1 + 1) = sRd V (sIt V (2 ^ p) (V 7 0 - 1)) (V 7 0) := rfl
      rwa [e] at this
    apply Nat.eq_of_testBit_eq
    intro j
    by_cases hj : j < V 7 0
    · rw [all j hj, st, sRd_sub (all j hj)]
    · have p := Nat.pow_le_pow_right (n := 2) (by decide) (show V 7 0 ≤ j by omega)
      rw [Nat.testBit_lt_two_pow (by omega), Nat.testBit_lt_two_pow (by omega)]
theorem x_knotOf (b : Nat) (hx : XV I b V Z) (hW : WF V) {p : Nat} (hp : p < V 7 0) : f_X2_knotOf b (nI p) I = some (nI (sIt V (2 ^ p) (V 7 0 - 1))) := by
  have hn := hW.n
  have ha := hW.all
  have inner : ∀ (K : Int32 → Int32 → Option Int32) (m : Nat) (x : Int32), m < 2 ^ V 7 0 → ∀ f k, k ≤ V 7 0 → V 7 0 - k < f → f_X2_knotOf_17 b I K f (nI (sRd V m k)) x (nI k) = K (nI (sRd V m (V 7 0))) (x + 1) := by
    intro K m x hm f
    induction f with
    | zero => intro k _ h; omega
    | succ f ih =>
      intro k hk hf
      rw [f_X2_knotOf_17, hx.2.2.1.1, stopN' hk (by omega)]
      by_cases q : k = V 7 0
      · subst q; rw [if_pos rfl]
      · have ih := ih (k + 1) (by omega) (by omega)
        have hl := sRd_lt hW hm k hk
        have x4 : I (b + 5) k = nI (V 4 k) := hx.a (i := 4) (by decide) (by omega)
        rw [if_neg q, f_has (by omega) (by omega), bd_b, if_b, gd_t (qin_n (show k < 8 by omega) (by decide)), clampI (by omega), x4, or_nI, nI_1]
        rw [sRd] at ih
        by_cases c : (sRd V m k).testBit k = true
        · rw [if_pos c] at ih ⊢; exact ih
        · rw [if_neg c] at ih ⊢; exact ih
  have outer : ∀ f r, r + 1 ≤ V 7 0 → V 7 0 - r < f → f_X2_knotOf_6 b I f (nI (sIt V (2 ^ p) r)) (nI (r + 1)) = some (nI (sIt V (2 ^ p) (V 7 0 - 1))) := by
    intro f
    induction f with
    | zero => intro k _ h; omega
    | succ f ih =>
      intro r hr hf
      rw [f_X2_knotOf_6, hx.2.2.1.1, stopN' hr (by omega)]
      by_cases q : r + 1 = V 7 0
      · rw [if_pos q, show V 7 0 - 1 = r by omega]
      · rw [if_neg q]
        have := inner (f_X2_knotOf_6 b I f) (sIt V (2 ^ p) r) (nI (r + 1)) (sIt_lt hW (Nat.pow_lt_pow_right (by decide) hp) r) 1000 0 (Nat.zero_le _) (by omega)
        rw [show f_X2_knotOf_17 b I (f_X2_knotOf_6 b I f) 1000 (nI (sIt V (2 ^ p) r)) (nI (r + 1)) 0 = _ from this, nI_1]
        exact ih (r + 1) (by omega) (by omega)
  unfold f_X2_knotOf
  rw [one_shl (by omega)]
  exact outer 1000 0 (by omega) (by omega)
theorem m_knotOf (hm : MV A 0 V Z) (hW : WF V) {p : Nat} (hp : p < V 7 0) : f_X9_knotOf (nI p) A = some (nI (sIt V (2 ^ p) (V 7 0 - 1))) := by
  have hn := hW.n
  have ha := hW.all
  have inner : ∀ (K : Int32 → Int32 → Option Int32) (m : Nat) (x : Int32), m < 2 ^ V 7 0 → ∀ f k, k ≤ V 7 0 → V 7 0 - k < f → f_X9_knotOf_17 A K f (nI (sRd V m k)) x (nI k) = K (nI (sRd V m (V 7 0))) (x + 1) := by
    intro K m x hm' f
    induction f with
    | zero => intro k _ h; omega
    | succ f ih =>
      intro k hk hf
      rw [f_X9_knotOf_17, hm.2.2.1.1, stopN' hk (by omega)]
      by_cases q : k = V 7 0
      · subst q; rw [if_pos rfl]
      · have ih := ih (k + 1) (by omega) (by omega)
        have hl := sRd_lt hW hm' k hk
        have x4 : A 21 k = nI (V 4 k) := hm.a (i := 4) (by decide) (by omega)
        rw [if_neg q, if_d (has_nI (show sRd V m k < 2 ^ 31 by omega) (show k < 32 by omega)), gd_t (qin_n (show k < 8 by omega) (by decide)), clampI (by omega), x4, or_nI, nI_1, Int32.or_zero]
        rw [sRd] at ih
        by_cases c : (sRd V m k).testBit k = true
        · rw [if_pos c] at ih ⊢; exact ih
        · rw [if_neg c] at ih ⊢; exact ih
  have outer : ∀ f r, r ≤ V 7 0 → V 7 0 - r < f → f_X9_knotOf_6 A f (nI (sIt V (2 ^ p) r)) (nI r) = some (nI (sIt V (2 ^ p) (V 7 0))) := by
    intro f
    induction f with
    | zero => intro k _ h; omega
    | succ f ih =>
      intro r hr hf
      rw [f_X9_knotOf_6, hm.2.2.1.1, stopN' hr (by omega)]
      by_cases q : r = V 7 0
      · rw [if_pos q, q]
      · rw [if_neg q]
        have := inner (f_X9_knotOf_6 A f) (sIt V (2 ^ p) r) (nI r) (sIt_lt hW (Nat.pow_lt_pow_right (by decide) hp) r) 1000 0 (Nat.zero_le _) (by omega)
        rw [show f_X9_knotOf_17 A (f_X9_knotOf_6 A f) 1000 (nI (sIt V (2 ^ p) r)) (nI r) 0 = _ from this, nI_1]
        exact ih (r + 1) (by omega) (by omega)
  unfold f_X9_knotOf
  rw [one_shl (by omega), ← sIt_end hW hp]
  exact outer 1000 0 (by omega) (by omega)
theorem s_knot (h : Rel t I J A B) (p : Int32) : Sim t J B (f_X8_knot p I) (f_X9_knot p A) := by
  obtain ⟨V, Z, ⟨hx, hm, hW⟩, -⟩ := id h
  refine sim_pty hx hm hW p (fun k hk hk8 e => ?_) (sim_bad h)
  rw [e, x_knotOf 1 hx hW hk, m_knotOf hm hW hk]
  exact sim_same h _
theorem s_torn (h : Rel t I J A B) : ∃ r, f_X8_torn I = some r ∧ f_X9_torn A = some r := by
  obtain ⟨V, Z, ⟨hx, hm, hW⟩, -⟩ := id h
  have hn := hW.n
  have on : ∀ f k, k ≤ V 7 0 → V 7 0 - k < f → f_X9_torn_4 A f 1 (nI k) = some 1 := by
    intro f
    induction f with
    | zero => intro k _ h; omega
    | succ f ih =>
      intro k hk hf
      rw [f_X9_torn_4, hm.2.2.1.1, stopN hn hk]
      by_cases q : k = V 7 0
      · rw [if_pos q]
      · have ih := ih (k + 1) (by omega) (by omega)
        rw [if_neg q, m_knotOf hm hW (by omega), bd_s, gd_t (qin_n (by omega) (by decide)), nI_1, show (1 : Int32) ||| 0 = 1 from by decide, show (1 : Int32) ||| 1 = 1 from by decide]
        split <;> exact ih
  have loop : ∀ f k, k ≤ V 7 0 → V 7 0 - k < f → ∃ r, f_X8_torn_2 I f (nI k) = some r ∧ f_X9_torn_4 A f 0 (nI k) = some r := by
    intro f
    induction f with
    | zero => intro k _ h; omega
    | succ f ih =>
      intro k hk hf
      rw [f_X8_torn_2, f_X9_torn_4, hx.2.2.1.1, hm.2.2.1.1, stopN hn hk, stopN hn hk]
      by_cases q : k = V 7 0
      · rw [if_pos q, if_pos q]; exact ⟨_, rfl, rfl⟩
      · have ih := ih (k + 1) (by omega) (by omega)
        have x5 : I (1 + 6) k = nI (V 5 k) := hx.a (i := 5) (by decide) (by omega)
        have a5 : A 22 k = nI (V 5 k) := hm.a (i := 5) (by decide) (by omega)
        rw [if_neg q, if_neg q, x_knotOf 1 hx hW (by omega), m_knotOf hm hW (by omega), bd_s, bd_s, gd_t (qin_n (by omega) (by decide)), gd_t (qin_n (by omega) (by decide)), clampI (by omega), x5, a5, nI_1, Int32.and_comm (nI (V 5 k)), show (0 : Int32) ||| 0 = 0 from by decide, show (0 : Int32) ||| 1 = 1 from by decide]
        split
        · exact ih
        · exact ⟨_, rfl, on f (k + 1) (by omega) (by omega)⟩
  exact loop 1000 0 (Nat.zero_le _) (by omega)
end SA
