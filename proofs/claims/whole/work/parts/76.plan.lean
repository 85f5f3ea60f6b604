/-! Pure: plans: how the class's prices and the reference's go together. -/
/-- those who wait -/
def sAll (V : qV) : Nat := (2 ^ V 7 0 - 1) &&& (V 8 0 ^^^ (2 ^ 32 - 1))
theorem sAll_lt {V : qV} (hW : WF V) : sAll V < 256 := by
  have := hW.all
  have h1 : 1 ≤ 2 ^ V 7 0 := Nat.one_le_two_pow
  exact Nat.lt_of_le_of_lt Nat.and_le_left (by omega)
def sH (V : qV) (g : Nat) : Option Nat := sHire V g (V 8 0) (V 6 3)
theorem sH_le {V : qV} (hW : WF V) {g h : Nat} (q : sH V g = some h) : h ≤ 9 := Nat.le_trans (sHire_le q) hW.2.1.2.2.2.2.1
/-- subsets of eight -/
theorem sub_tab : ∀ s, s < 256 → ∀ g, g < 256 → g &&& s = g → ((s ^^^ g) + g = s ∧ (s ^^^ g) &&& s = s ^^^ g ∧ s &&& (g ^^^ 4294967295) = s ^^^ g) ∧ (g &&& lowB s = lowB s ∨ lowB (s ^^^ g) = lowB s) := by decide +kernel
theorem sub_lt {s g : Nat} (hs : s < 256) (h : g &&& s = g) : g < 256 := by
  have : g &&& s ≤ s := Nat.and_le_right
  omega
/-- the reference's -/
def PMc (V : qV) (PM : Nat → Option Nat) : Prop := PM 0 = some 0 ∧ ∀ s, 1 ≤ s → s &&& sAll V = s →
  (∀ g x y, g &&& s = g → g ≠ 0 → sH V g = some x → PM (s ^^^ g) = some y → ∃ z, PM s = some z ∧ z ≤ y + 1000 + x) ∧
  (∀ z, PM s = some z → ∃ g x y, g &&& s = g ∧ g ≠ 0 ∧ sH V g = some x ∧ PM (s ^^^ g) = some y ∧ z = y + 1000 + x)
/-- the class's -/
def sST (V : qV) (g : Nat) : Nat := match sH V g with
  | none => 1000000
  | some h => 1000 + h
def PXc (V : qV) (P : Nat → Nat) : Prop := P 0 = 0 ∧ ∀ s, 1 ≤ s → s &&& sAll V = s → P s ≤ 1000000 ∧
  (∀ g, g ∈ subX s → P s ≤ sST V g + P (s ^^^ g)) ∧ (P s = 1000000 ∨ ∃ g, g ∈ subX s ∧ P s = sST V g + P (s ^^^ g))
theorem sub_tr {a b c : Nat} (h : a &&& b = a) (h2 : b &&& c = b) : a &&& c = a := by
  rw [← h, Nat.and_assoc, h2]
theorem pc_sub {s g : Nat} (hs : s < 256) (h : g &&& s = g) (h0 : g ≠ 0) : sPc (s ^^^ g) 8 + 1 ≤ sPc s 8 := by
  have hb := fun i => congrArg (fun z => Nat.testBit z i) h
  simp only [Nat.testBit_and] at hb
  have : ∃ j, g.testBit j = true := by
    apply Classical.byContradiction
    intro no
    apply h0
    apply Nat.eq_of_testBit_eq
    intro j
    rw [Nat.zero_testBit]
    cases c : g.testBit j
    · rfl
    · exact absurd ⟨j, c⟩ no
  obtain ⟨j, hj⟩ := this
  have sj : s.testBit j = true := by
    have := hb j
    rw [hj, Bool.true_and] at this
    exact this
  have j8 : j < 8 := by
    apply Classical.byContradiction
    intro no
    have := Nat.testBit_lt_two_pow (show s < 2 ^ j from Nat.lt_of_lt_of_le (show s < 2 ^ 8 from hs) (Nat.pow_le_pow_right (by decide) (by omega)))
    rw [this] at sj
    cases sj
  have := pc_strict (a := s ^^^ g) (b := s) (j := j) (fun i hi => by
    rw [Nat.testBit_xor] at hi
    have := hb i
    cases c : s.testBit i
    · rw [c] at this hi
      rw [Bool.and_false] at this
      rw [← this] at hi
      cases hi
    · rfl) (by rw [Nat.testBit_xor, sj, hj]; rfl) sj 8 j8
  omega
theorem PM_le {V : qV} (hW : WF V) {PM : Nat → Option Nat} (h : PMc V PM) : ∀ n s, s < n → s &&& sAll V = s → ∀ z, PM s = some z → z ≤ 1009 * sPc s 8 := by
  intro n
  have hA := sAll_lt hW
  induction n with
  | zero => intro s h; omega
  | succ n ih =>
    intro s hs hsub z hz
    have s256 : s < 256 := sub_lt hA hsub
    by_cases e : s = 0
    · subst e
      rw [h.1] at hz
      cases hz
      omega
    · obtain ⟨g, x, y, h1, h2, h3, h4, h5⟩ := (h.2 s (by omega) hsub).2 z hz
      have g256 := sub_lt s256 h1
      obtain ⟨⟨t1, t2, -⟩, -⟩ := sub_tab s s256 g g256 h1
      have := ih (s ^^^ g) (by omega) (sub_tr t2 hsub) y h4
      have p := pc_sub s256 h1 h2
      have := sH_le hW h3
      omega
theorem PM_uniq {V : qV} (hW : WF V) {PM PM' : Nat → Option Nat} (h : PMc V PM) (h' : PMc V PM') : ∀ n s, s < n → s &&& sAll V = s → PM s = PM' s := by
  have hA := sAll_lt hW
  intro n
  induction n with
  | zero => intro s h; omega
  | succ n ih =>
    intro s hs hsub
    have s256 : s < 256 := sub_lt hA hsub
    by_cases e : s = 0
    · subst e; rw [h.1, h'.1]
    · have key : ∀ (Q Q' : Nat → Option Nat), PMc V Q → PMc V Q' → (∀ r, r < n → r &&& sAll V = r → Q r = Q' r) → ∀ z, Q s = some z → ∃ z', Q' s = some z' ∧ z' ≤ z := by
        intro Q Q' c c' i z hz
        obtain ⟨g, x, y, h1, h2, h3, h4, h5⟩ := (c.2 s (by omega) hsub).2 z hz
        have g256 := sub_lt s256 h1
        obtain ⟨⟨t1, t2, -⟩, -⟩ := sub_tab s s256 g g256 h1
        rw [i (s ^^^ g) (by omega) (sub_tr t2 hsub)] at h4
        obtain ⟨z', q1, q2⟩ := (c'.2 s (by omega) hsub).1 g x y h1 h2 h3 h4
        exact ⟨z', q1, by omega⟩
      have k1 := key PM PM' h h' ih
      have k2 := key PM' PM h' h (fun r hr hr2 => (ih r hr hr2).symm)
      cases c : PM s with
      | none =>
        cases c' : PM' s with
        | none => rfl
        | some z' =>
          obtain ⟨z, q, -⟩ := k2 z' c'
          rw [c] at q
          cases q
      | some z =>
        obtain ⟨z', q, l⟩ := k1 z c
        obtain ⟨z2, q2, l2⟩ := k2 z' q
        rw [c] at q2
        cases q2
        rw [q]
        congr 1
        omega
theorem PX_PM {V : qV} (hW : WF V) {P : Nat → Nat} {PM : Nat → Option Nat} (h : PXc V P) (h' : PMc V PM) : ∀ n s, s < n → s &&& sAll V = s → P s = (PM s).getD 1000000 := by
  have hA := sAll_lt hW
  intro n
  induction n with
  | zero => intro s h; omega
  | succ n ih =>
    intro s hs hsub
    have s256 : s < 256 := sub_lt hA hsub
    by_cases e : s = 0
    · subst e; rw [h.1, h'.1]; rfl
    · have rs : ∀ g, g &&& s = g → g ≠ 0 → (s ^^^ g) < n ∧ (s ^^^ g) &&& sAll V = s ^^^ g ∧ (s ^^^ g) &&& s = s ^^^ g := fun g h1 h2 => by
        obtain ⟨⟨t1, t2, -⟩, -⟩ := sub_tab s s256 g (sub_lt s256 h1) h1
        exact ⟨by omega, sub_tr t2 hsub, t2⟩
      have lim : ∀ r, r &&& sAll V = r → ∀ z, PM r = some z → z ≤ 8072 := fun r hr z hz => by
        have := PM_le hW h' (r + 1) r (by omega) hr z hz
        have := pc_le r 8
        omega
      obtain ⟨c0, c1, c2⟩ := h.2 s (by omega) hsub
      obtain ⟨m1, m2⟩ := h'.2 s (by omega) hsub
      -- what a price below the cap comes from
      have low : P s < 1000000 → ∃ z, PM s = some z ∧ z ≤ P s := by
        intro hl
        rcases c2 with c2 | ⟨g, hg, c2⟩
        · omega
        · obtain ⟨g1, -, g3⟩ := subX_mem.mp hg
          obtain ⟨r1, r2, -⟩ := rs g g1 g3
          have i := ih (s ^^^ g) r1 r2
          unfold sST at c2
          cases q : sH V g with
          | none => rw [q] at c2; simp only at c2; omega
          | some x =>
            rw [q] at c2
            simp only at c2
            cases w : PM (s ^^^ g) with
            | none => rw [w] at i; simp only [Option.getD_none] at i; omega
            | some y =>
              rw [w] at i
              simp only [Option.getD_some] at i
              obtain ⟨z, z1, z2⟩ := m1 g x y g1 g3 q w
              exact ⟨z, z1, by omega⟩
      cases c : PM s with
      | none =>
        rw [Option.getD_none]
        by_cases hl : P s < 1000000
        · obtain ⟨z, hz, -⟩ := low hl
          rw [c] at hz
          cases hz
        · omega
      | some z =>
        rw [Option.getD_some]
        obtain ⟨g, x, y, h1, h2, h3, h4, h5⟩ := m2 z c
        have g256 := sub_lt s256 h1
        obtain ⟨r1, r2, r3⟩ := rs g h1 h2
        have ir := ih (s ^^^ g) r1 r2
        rw [h4, Option.getD_some] at ir
        have zl := lim s hsub z c
        have up : P s ≤ z := by
          have sg : sST V g = 1000 + x := by unfold sST; rw [h3]
          obtain ⟨-, lw⟩ := sub_tab s s256 g g256 h1
          by_cases lg : g &&& lowB s = lowB s
          · have := c1 g (subX_mem.mpr ⟨h1, lg, h2⟩)
            omega
          · have lw := lw.resolve_left lg
            have rne : s ^^^ g ≠ 0 := by
              intro z0
              apply lg
              have : s = g := by
                obtain ⟨⟨t1, -⟩, -⟩ := sub_tab s s256 g g256 h1
                omega
              subst this
              unfold lowB
              rw [← Nat.and_assoc, Nat.and_self]
            obtain ⟨-, -, d2⟩ := h.2 (s ^^^ g) (by omega) r2
            have yl := lim _ r2 y h4
            rcases d2 with d2 | ⟨g', hg', d2⟩
            · omega
            · obtain ⟨e1, e2, e3⟩ := subX_mem.mp hg'
              rw [lw] at e2
              have e1s : g' &&& s = g' := sub_tr e1 r3
              have g'256 := sub_lt s256 e1s
              obtain ⟨u1, u2, u3⟩ := rs g' e1s e3
              obtain ⟨⟨t1, t2, -⟩, -⟩ := sub_tab (s ^^^ g) (sub_lt hA r2) g' g'256 e1
              have ir' := ih (s ^^^ g ^^^ g') (by omega) (sub_tr t2 r2)
              unfold sST at d2
              cases q : sH V g' with
              | none => rw [q] at d2; simp only at d2; omega
              | some x' =>
                rw [q] at d2
                simp only at d2
                cases w : PM (s ^^^ g ^^^ g') with
                | none => rw [w] at ir'; simp only [Option.getD_none] at ir'; omega
                | some y' =>
                  rw [w] at ir'
                  simp only [Option.getD_some] at ir'
                  have gs : g &&& (s ^^^ g') = g := by
                    apply Nat.eq_of_testBit_eq
                    intro i
                    have a1 := congrArg (fun z => Nat.testBit z i) h1
                    have a2 := congrArg (fun z => Nat.testBit z i) e1
                    simp only [Nat.testBit_and, Nat.testBit_xor] at a1 a2 ⊢
                    cases b1 : g.testBit i <;> cases b2 : s.testBit i <;> cases b3 : g'.testBit i <;> simp_all
                  have ex : s ^^^ g' ^^^ g = s ^^^ g ^^^ g' := by rw [Nat.xor_assoc, Nat.xor_comm g' g, ← Nat.xor_assoc]
                  by_cases n0 : s ^^^ g' = 0
                  · exfalso
                    rw [n0] at gs
                    rw [Nat.and_zero] at gs
                    exact h2 gs.symm
                  · obtain ⟨z', z1, z2⟩ := (h'.2 (s ^^^ g') (by omega) u2).1 g x y' gs h2 h3 (by rw [ex]; exact w)
                    have iu := ih (s ^^^ g') u1 u2
                    rw [z1, Option.getD_some] at iu
                    have := c1 g' (subX_mem.mpr ⟨e1s, e2, e3⟩)
                    have sg' : sST V g' = 1000 + x' := by unfold sST; rw [q]
                    omega
        obtain ⟨z2, w1, w2⟩ := low (by omega)
        rw [c] at w1
        cases w1
        omega
/-- the best plan's price -/
noncomputable def sPl (V : qV) : Option Nat := Classical.epsilon (PMc V) (sAll V)
theorem sPl_e {V : qV} (hW : WF V) {PM : Nat → Option Nat} (h : PMc V PM) : PM (sAll V) = sPl V :=
  PM_uniq hW h (Classical.epsilon_spec (p := PMc V) ⟨PM, h⟩) (sAll V + 1) _ (by omega) (Nat.and_self _)
