/-! Pure: plan. -/
/-- a group that a best plan begins with -/
def sBg (V : qV) (PM : Nat → Option Nat) (s g : Nat) : Prop := g &&& s = g ∧ g ≠ 0 ∧ ∃ x y, sH V g = some x ∧ PM (s ^^^ g) = some y ∧ PM s = some (y + 1000 + x)
theorem nandI (s g : Nat) : nI s &&& (nI g ^^^ (-1 : Int32)) = nI (s &&& (g ^^^ 4294967295)) := by
  rw [show (-1 : Int32) = nI 4294967295 from m1_nI, xor_nI, and_nI]
section PN
variable {t : qF} {I : qI} {J : qJ} {A : qI} {B : qJ} {V : qV} {Z : qW} {PM : Nat → Option Nat} {P : Nat → Nat}
theorem m_bg {s g z : Nat} (hs : s < 256) (hg : g < 256) (g0 : g ≠ 0) (p26 : ∀ r, r &&& s = r → A 26 r = oI (PM r)) (p25 : g &&& s = g → A 25 g = oI (sH V g)) (lim : ∀ r, r &&& s = r → ∀ y, PM r = some y → y ≤ 8072) (hW : WF V) (hz : PM s = some z) :
    (sBg V PM s g → f_X9_begins (nI s) (nI g) A = some 1) ∧ (¬ sBg V PM s g → f_X9_begins (nI s) (nI g) A = some 0) := by
  have hl : s &&& (g ^^^ 4294967295) < 256 := Nat.lt_of_le_of_lt Nat.and_le_left hs
  have e0 : f_X9_begins (nI s) (nI g) A = if g &&& s = g then (if A 25 g = -1 then some 0 else if A 26 (s &&& (g ^^^ 4294967295)) = -1 then some 0 else if A 26 (s &&& (g ^^^ 4294967295)) + 1000 + A 25 g = A 26 s then some 1 else some 0) else some 0 := by
    unfold f_X9_begins
    rw [nandI, gd_t (qin_n hl (by decide)), lt_e, if_d (nand_nI (show g < 2 ^ 31 by omega) (show s < 2 ^ 31 by omega)), gd_t (qin_n hg (by decide)), gd_t (qin_n hg (by decide)), gd_t (qin_n hs (by decide)), clampI (show g < 2 ^ 31 by omega), clampI (show s < 2 ^ 31 by omega), clampI (show s &&& (g ^^^ 4294967295) < 2 ^ 31 by omega)]
  rw [e0]
  by_cases c : g &&& s = g
  · obtain ⟨⟨t1, t2, t3⟩, -⟩ := sub_tab s hs g hg c
    rw [if_pos c, t3, p25 c, p26 _ t2, p26 s (Nat.and_self s), hz]
    have zl := lim s (Nat.and_self s) z hz
    cases hx : sH V g with
    | none => exact ⟨fun ⟨_, _, x, y, h, _⟩ => (by rw [hx] at h; cases h), fun _ => rfl⟩
    | some x =>
      have xl := sH_le hW hx
      rw [show oI (some x) = nI x from rfl, if_neg (nI_ne_m1 (by omega))]
      cases hy : PM (s ^^^ g) with
      | none => exact ⟨fun ⟨_, _, x, y, _, h, _⟩ => (by rw [hy] at h; cases h), fun _ => rfl⟩
      | some y =>
        have yl := lim _ t2 y hy
        rw [show oI (some y) = nI y from rfl, show oI (some z) = nI z from rfl, if_neg (nI_ne_m1 (by omega)), show (1000 : Int32) = nI 1000 from rfl, add_nI, add_nI, if_d (nI_inj (show y + 1000 + x < 2 ^ 31 by omega) (show z < 2 ^ 31 by omega))]
        constructor
        · rintro ⟨_, _, x', y', h1, h2, h3⟩
          rw [hx] at h1
          rw [hy] at h2
          cases h1
          cases h2
          rw [hz] at h3
          cases h3
          rw [if_pos rfl]
        · intro no
          rw [if_neg (fun q => no ⟨c, g0, x, y, hx, hy, by rw [hz, q]⟩)]
  · rw [if_neg c]
    exact ⟨fun h => absurd h.1 c, fun _ => rfl⟩
theorem x_bg {s g z : Nat} (hs : s < 256) (hg : g &&& s = g) (g0 : g ≠ 0) (e46 : I 46 g = nI (sST V g)) (e47 : ∀ r, r &&& s = r → I 47 r = nI (P r) ∧ P r ≤ 1000000 ∧ P r = (PM r).getD 1000000) (lim : ∀ r, r &&& s = r → ∀ y, PM r = some y → y ≤ 8072) (hW : WF V) (hz : PM s = some z) :
    I 46 g + I 47 (s ^^^ g) = I 47 s ↔ sBg V PM s g := by
  obtain ⟨⟨t1, t2, t3⟩, -⟩ := sub_tab s hs g (sub_lt hs hg) hg
  obtain ⟨a1, a2, a3⟩ := e47 _ t2
  obtain ⟨b1, b2, b3⟩ := e47 s (Nat.and_self s)
  have sl := sST_le hW g
  have zl := lim s (Nat.and_self s) z hz
  rw [hz, Option.getD_some] at b3
  rw [e46, a1, b1, add_nI, nI_inj (by omega) (by omega), b3]
  constructor
  · intro h
    unfold sST at h
    cases hx : sH V g with
    | none => rw [hx] at h; simp only at h; omega
    | some x =>
      rw [hx] at h
      simp only at h
      cases hy : PM (s ^^^ g) with
      | none => rw [hy, Option.getD_none] at a3; omega
      | some y =>
        rw [hy, Option.getD_some] at a3
        exact ⟨hg, g0, x, y, hx, hy, by rw [hz]; congr 1; omega⟩
  · rintro ⟨-, -, x, y, hx, hy, h⟩
    rw [hz] at h
    cases h
    rw [hy, Option.getD_some] at a3
    unfold sST
    rw [hx, a3]
    show 1000 + x + y = _
    omega
/-- both find the same first group -/
theorem s_fg {s : Nat} (hs : s < 256) (s0 : s ≠ 0) (ex : ∃ g, sBg V PM s g) (bx : ∀ g, g &&& s = g → g ≠ 0 → (I 46 g + I 47 (s ^^^ g) = I 47 s ↔ sBg V PM s g)) (bm : ∀ g, g < 256 → g ≠ 0 → (sBg V PM s g → f_X9_begins (nI s) (nI g) A = some 1) ∧ (¬ sBg V PM s g → f_X9_begins (nI s) (nI g) A = some 0)) :
    ∃ g, sBg V PM s g ∧ f_X5_firstGroup (nI s) I = some (nI g) ∧ ∀ (K : Int32 → Int32 → Int32 → Int32 → qI → Option (Int32 × qI)) (x1 x5 : Int32), f_X9_plan_86 K 1000 x1 (nI s) 1 x5 A = K x1 (nI (s ^^^ g)) (nI g) (x5 + 1) A := by
  have loop : ∀ f k, 1 ≤ k → k ≤ s → s - k < f → (∀ g, g < k → ¬ sBg V PM s g) → ∃ g, sBg V PM s g ∧ f_X5_firstGroup_2 I f (nI s) (nI k) = some (nI g) ∧ ∀ (K : Int32 → Int32 → Int32 → Int32 → qI → Option (Int32 × qI)) (x1 x5 : Int32), f_X9_plan_86 K f x1 (nI s) (nI k) x5 A = K x1 (nI (s ^^^ g)) (nI g) (x5 + 1) A := by
    intro f
    induction f with
    | zero => intro k _ _ h; omega
    | succ f ih =>
      intro k h1 hk hf no
      have hit : sBg V PM s k → ∀ (K : Int32 → Int32 → Int32 → Int32 → qI → Option (Int32 × qI)) (x1 x5 : Int32), f_X9_plan_86 K (f + 1) x1 (nI s) (nI k) x5 A = K x1 (nI (s ^^^ k)) (nI k) (x5 + 1) A := fun hb K x1 x5 => by
        obtain ⟨⟨-, -, t3⟩, -⟩ := sub_tab s hs k (by omega) hb.1
        rw [f_X9_plan_86, (bm k (by omega) (by omega)).1 hb, bd_s, if_neg (by decide), nandI, t3]
      by_cases q : k = s
      · subst q
        have hb : sBg V PM k k := by
          obtain ⟨g, hg⟩ := ex
          have : g &&& k ≤ k := Nat.and_le_right
          have e : g = k := by
            apply Classical.byContradiction
            intro ne
            have := hg.1
            exact no g (by omega) hg
          rw [e] at hg
          exact hg
        refine ⟨k, hb, ?_, hit hb⟩
        rw [f_X5_firstGroup_2, if_pos (Int32.le_refl _)]
      · have kl : ¬ nI s ≤ nI k := fun z => by
          have := (nle_i (show s < 2 ^ 31 by omega) (show k < 2 ^ 31 by omega)).mp z
          omega
        have sx : s ^^^ k < 256 := Nat.xor_lt_two_pow (n := 8) hs (show k < 2 ^ 8 by omega)
        have ex : f_X5_firstGroup_2 I (f + 1) (nI s) (nI k) = if k &&& s = k then (if I 46 k + I 47 (s ^^^ k) = I 47 s then some (nI k) else f_X5_firstGroup_2 I f (nI s) (nI (k + 1))) else f_X5_firstGroup_2 I f (nI s) (nI (k + 1)) := by
          rw [f_X5_firstGroup_2, if_neg kl, if_d (nand_nI (show k < 2 ^ 31 by omega) (show s < 2 ^ 31 by omega)), xor_nI, gd_t (qin_n (show k < 256 by omega) (by decide)), gd_t (qin_n sx (by decide)), gd_t (qin_n hs (by decide)), clampI (by omega), clampI (by omega), clampI (by omega), nI_1]
        by_cases c : sBg V PM s k
        · refine ⟨k, c, ?_, hit c⟩
          rw [ex, if_pos c.1, if_pos ((bx k c.1 c.2.1).mpr c)]
        · obtain ⟨g, g1, g2, g3⟩ := ih (k + 1) (by omega) (by omega) (by omega) (fun g hg => by
            by_cases e : g = k
            · subst e; exact c
            · exact no g (by omega))
          refine ⟨g, g1, ?_, fun K x1 x5 => ?_⟩
          · rw [ex, ← g2]
            by_cases d : k &&& s = k
            · rw [if_pos d, if_neg (fun z => c ((bx k d (by omega)).mp z))]
            · rw [if_neg d]
          · rw [f_X9_plan_86, (bm k (by omega) (by omega)).2 c, bd_s, if_pos rfl, nI_1]
            exact g3 K x1 x5
  exact loop 1000 1 (Nat.le_refl _) (by omega) (by omega) (fun g hg h => h.2.1 (by omega))
theorem m2_or {p : Int32} (h : -2 ≤ p) (h0 : ¬ 0 ≤ p) : p = -2 ∨ p = -1 := by
  rw [Int32.le_iff_toInt_le] at h h0
  have e2 : (-2 : Int32).toInt = -2 := by decide
  have e1 : (-1 : Int32).toInt = -1 := by decide
  have e0 : (0 : Int32).toInt = 0 := by decide
  rcases (show p.toInt = -2 ∨ p.toInt = -1 by omega) with e | e
  · exact Or.inl (Int32.toInt_inj.mp (e.trans e2.symm))
  · exact Or.inr (Int32.toInt_inj.mp (e.trans e1.symm))
theorem m2_of {p : Int32} (h : 0 ≤ p) : -2 ≤ p := Int32.le_trans (by decide) h
set_option maxRecDepth 100000 in
theorem s_plan (h : Rel t I J A B) (p : Int32) : Sim t J B (f_X8_plan p I) (f_X9_plan p A) := by
  obtain ⟨V, Z, ⟨hx, hm, hW⟩, -⟩ := id h
  have hA := sAll_lt hW
  unfold f_X8_plan f_X9_plan
  by_cases c : -2 ≤ p
  · rw [if_pos c, if_pos c]
    obtain ⟨I', P, e1, f1, a45, hP, p47, p46⟩ := x_reckon 1 (by decide) hx hW
    obtain ⟨I'', e1', -, -, q2, q3, q4⟩ := x_plan 1 (by decide) hx hW
    have ei : I'' = I' := Option.some.inj (e1'.symm.trans e1)
    subst ei
    obtain ⟨A', PM, e2, f2, hM, m26, m25⟩ := m_findPlan hm hW
    have r : Rel t I'' J A' B := h.fr (fun k j g => f1 k j (by omega) (by omega) (by omega)) (fun k j g => f2 k j (by omega) (by omega)) FJ.rf
    have hm1 : MV A' 0 V Z := hm.fr fun k j g => f2 k j (by omega) (by omega)
    have hall : f_X9_waitingBits A' = some (nI (sAll V)) := by
      unfold f_X9_waitingBits
      rw [hm1.2.2.1.1, hm1.2.2.1.2, pow_sub hW.n, m1_nI, xor_nI, and_nI]
      rfl
    have eP := sPl_e hW hM
    rw [e1, e2, bd_s, bd2_s, q2, q3, q4, hall, eP]
    rw [bd_b, if_b, bd_s, bd_s, bd_s, bd_s]
    cases hs : sPl V with
    | none => exact sim_same r _
    | some z =>
      have zl := sPl_le hW hs
      have z8 : z / 1000 ≤ 8 := by omega
      rw [show (some z).isSome = true from rfl, if_pos rfl, show oI (some z) = nI z from rfl, if_neg (nI_ne_m1 (by omega)), show oC (some z) = nI (z / 1000) from rfl, show oM (some z) = nI (z % 1000) from rfl, show (1000 : Int32) = nI 1000 from rfl, rem_nI (by omega) (by decide) (by decide), pk_div (by omega) (by decide) (by decide)]
      by_cases c0 : 0 ≤ p
      · obtain ⟨i, hi, rfl⟩ := neg_lt (Int32.not_lt.mpr c0)
        rw [if_neg (show ¬ nI i = -2 from fun z => by rw [z] at c0; exact absurd c0 (by decide)), if_neg (show ¬ nI i = -1 from nI_ne_m1 hi), if_pos c0, if_d (nle_i (show z / 1000 < 2 ^ 31 by omega) hi), if_d (nlt_i hi (show z / 1000 < 2 ^ 31 by omega))]
        by_cases ci : i < z / 1000
        · rw [if_neg (show ¬ z / 1000 ≤ i by omega), if_pos ci]
          have lim : ∀ r, r &&& sAll V = r → ∀ y, PM r = some y → y ≤ 8072 := fun r hr y hy => by
            have := PM_le hW hM (r + 1) r (by omega) hr y hy
            have := pc_le r 8
            omega
          have sle : ∀ s r, s &&& sAll V = s → r &&& s = r → r &&& sAll V = r ∧ r ≤ sAll V := fun s r h1 h2 => by
            have a := sub_tr h2 h1
            have : r &&& sAll V ≤ sAll V := Nat.and_le_right
            exact ⟨a, by omega⟩
          have walk : ∀ f k s y (x x' : Int32), s &&& sAll V = s → PM s = some y → z ≤ y + 1009 * k → (k ≤ i ∨ x = x') → k ≤ i + 1 → i + 1 - k < f → ∃ v, f_X5_groupAt_10 I'' f (nI i) (nI s) x (nI k) = some v ∧ f_X9_plan_77 f (nI i) (nI s) x' (nI k) A' = some (v, A') := by
            intro f
            induction f with
            | zero => intro k s y x x' _ _ _ _ _ h; omega
            | succ f ih =>
              intro k s y x x' hsub hy hz hxx hk hf
              rw [f_X5_groupAt_10, f_X9_plan_77, if_d (nlt_i hi (show k < 2 ^ 31 by omega)), if_d (nlt_i hi (show k < 2 ^ 31 by omega))]
              by_cases ck : i < k
              · rw [if_pos ck, if_pos ck]
                rcases hxx with hxx | hxx
                · omega
                · rw [hxx]; exact ⟨_, rfl, rfl⟩
              · have s256 : s < 256 := sub_lt hA hsub
                have s0 : s ≠ 0 := by
                  intro e
                  subst e
                  have y0 : y = 0 := by
                    have := hM.1
                    rw [hy] at this
                    exact Option.some.inj this
                  omega
                have ex : ∃ g, sBg V PM s g := by
                  obtain ⟨g, x, y', h1, h2, h3, h4, h5⟩ := (hM.2 s (by omega) hsub).2 y hy
                  exact ⟨g, h1, h2, x, y', h3, h4, by rw [hy, h5]⟩
                obtain ⟨g, g1, g2, g3⟩ := s_fg (I := I'') (A := A') s256 s0 ex (fun g h1 h2 => x_bg (P := P) s256 h1 h2 (p46 g (by omega) (sle s g hsub h1).2) (fun r hr => by
                  obtain ⟨u1, u2⟩ := sle s r hsub hr
                  obtain ⟨w1, w2⟩ := p47 r u2
                  exact ⟨w1, w2, PX_PM hW hP hM _ _ (Nat.lt_succ_self _) u1⟩) (fun r hr => lim r (sle s r hsub hr).1) hW hy) (fun g h1 h2 => m_bg s256 h1 h2 (fun r hr => by
                  obtain ⟨u1, u2⟩ := sle s r hsub hr
                  exact m26 r u2 u1) (fun hg => m25 g (by omega) (sle s g hsub hg).2) (fun r hr => lim r (sle s r hsub hr).1) hW hy)
                obtain ⟨b1, b2, xg, yg, b3, b4, b5⟩ := g1
                obtain ⟨⟨t1, t2, t3⟩, -⟩ := sub_tab s s256 g (sub_lt s256 b1) b1
                have xl := sH_le hW b3
                rw [if_neg ck, if_neg ck, if_neg (fun z => s0 ((nI_z (show s < 2 ^ 31 by omega)).mp z)), g2, bd_s, nandI, t3, nI_1]
                rw [show f_X9_plan_86 (f_X9_plan_77 f) 1000 (nI i) (nI s) 1 (nI k) A' = _ from g3 _ _ _, nI_1]
                have ey : y = yg + 1000 + xg := by
                  rw [hy] at b5
                  exact Option.some.inj b5
                exact ih (k + 1) (s ^^^ g) yg _ _ (sub_tr t2 hsub) b4 (by omega) (Or.inr rfl) (by omega) (by omega)
          obtain ⟨v, v1, v2⟩ := walk 1000 0 (sAll V) z (-1) 0 (Nat.and_self _) (eP.trans hs) (by omega) (Or.inl (Nat.zero_le _)) (by omega) (by omega)
          unfold f_X5_groupAt
          rw [a45, show f_X5_groupAt_10 I'' 1000 (nI i) (nI (sAll V)) (-1) 0 = _ from v1, show f_X9_plan_77 1000 (nI i) (nI (sAll V)) 0 0 A' = _ from v2]
          exact sim_same r v
        · rw [if_pos (show z / 1000 ≤ i by omega), if_neg ci]
          exact sim_stuck r
      · rw [if_neg c0]
        rcases m2_or c c0 with e | e
        · subst e
          rw [if_pos rfl, if_neg (by decide)]
          exact sim_same r _
        · subst e
          rw [if_neg (by decide), if_pos rfl, if_pos rfl]
          exact sim_same r _
  · rw [if_neg c, if_neg c]
    exact sim_bad h
end PN
