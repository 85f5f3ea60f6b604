/-! Pure: worth, laws, rules. -/
section LW
variable {t : qF} {I : qI} {J : qJ} {A : qI} {B : qJ} {V : qV} {Z : qW}
def DX (I I' : qI) : Prop := ∀ k j, (k < 17 ∨ 25 ≤ k) → k ≠ 45 → k ≠ 46 → k ≠ 47 → I' k j = I k j
theorem DX.fx {I I' : qI} (h : DX I I') : FX I I' := fun k j g => h k j (by omega) (by omega) (by omega) (by omega)
theorem DX.rf {I : qI} : DX I I := fun _ _ _ _ _ _ => rfl
theorem DX.tr {I I' I'' : qI} (h : DX I I') (h2 : DX I' I'') : DX I I'' := fun k j a b c d => (h2 k j a b c d).trans (h k j a b c d)
theorem DX.xv {I I' : qI} {b : Nat} (h : DX I I') (hb : b + 8 ≤ 17) (hx : XV I b V Z) : XV I' b V Z := hx.fr fun k j g1 g2 => h k j (by omega) (by omega) (by omega) (by omega)
theorem x_planIf (hx : XV I 1 V Z) {k v : Nat} (hk : k < 5) (hW : WF (vu V 6 k v)) : ∃ I', f_X8_planIf (nI k) (nI v) I = some I' ∧ DX I I' ∧ PL (vu V 6 k v) I' := by
  obtain ⟨I1, e1, x1, f1⟩ := x_become (I := I) 17 1 (by omega) hx
  obtain ⟨I2, e2, f2, p⟩ := x_plan 17 (by decide) (x1.told (j := k) (v := v) (x := nI v) rfl) hW
  refine ⟨I2, ?_, fun a j h1 h2 h3 h4 => ?_, p⟩
  · unfold f_X8_planIf f_X8_planIf_30
    rw [e1, bd_s, within_s, bd_b, if_b, decide_eq_true (show (0 : Int32) ≤ nI k ∧ nI k ≤ 4 from ⟨nI_pos' (by omega), (nle_i (b := 4) (by omega) (by decide)).mpr (by omega)⟩), if_pos rfl, gd_t (qin_n hk (by decide)), lt_e, clampI (by omega), e2]
    rfl
  · rw [f2 a j h2 h3 h4, qu_k (by omega), f1 a j (by omega)]
/-- all but the scratch of a plan, and one told thing -/
def MX (f : Nat) (A A1 : qI) : Prop := ∀ k j, k ≠ 25 → k ≠ 26 → ¬ (k = 0 ∧ j = f) → A1 k j = A k j
theorem MX.rf {f : Nat} : MX f A A := fun _ _ _ _ _ => rfl
theorem MX.back {f : Nat} {A1 : qI} (h : MX f A A1) : FM A (qu A1 0 f (A 0 f)) := fun k j g => by
  rw [qu_at]
  by_cases e : k = 0
  · rw [if_pos e]
    by_cases e2 : j = f
    · rw [if_pos e2, e, e2]
    · rw [if_neg e2, e]
      exact h 0 j (by omega) (by omega) (by omega)
  · rw [if_neg e]
    exact h k j (by omega) (by omega) (by omega)
theorem m_with (hm : MV A 0 V Z) {i x : Nat} (hi : i < 5) (hW : WF (vu V 6 i x)) {A1 : qI} (h : MX (9 + i) A A1) : ∃ A', f_X9_findPlan (qu A1 0 (9 + i) (nI x)) = some (oI (sPl (vu V 6 i x)), A') ∧ MX (9 + i) A A' := by
  have m1 : MV (qu A1 0 (9 + i) (nI x)) 0 (vu V 6 i x) Z := (hm.told hi (v := x) (x := nI x) rfl).fr fun k j g => by
    rw [qu_at, qu_at]
    by_cases e : k = 0
    · rw [if_pos e, if_pos e]
      by_cases e2 : j = 9 + i
      · rw [if_pos e2, if_pos e2]
      · rw [if_neg e2, if_neg e2]
        exact h 0 j (by omega) (by omega) (by omega)
    · rw [if_neg e, if_neg e]
      exact h k j (by omega) (by omega) (by omega)
  obtain ⟨A', e1, f1⟩ := m_plan m1 hW
  refine ⟨A', e1, fun k j h1 h2 h3 => ?_⟩
  rw [f1 k j h1 h2, qu_at]
  by_cases e : k = 0
  · rw [if_pos e, if_neg (by omega), ← e]
    exact h k j h1 h2 h3
  · rw [if_neg e]
    exact h k j h1 h2 h3
theorem s_worth (h : Rel t I J A B) (p : Int32) : Sim t J B (f_X8_worth p I) (f_X9_worth p A) := by
  obtain ⟨V, Z, ⟨hx, hm, hW⟩, -⟩ := id h
  have hn := hW.n
  unfold f_X8_worth f_X9_worth
  refine sim_wait h hx hm hW p (fun a ha ha8 e hov => ?_)
  subst e
  obtain ⟨I3, e1, f1, -, -, -, q1⟩ := x_plan 1 (by decide) hx hW
  have hx3 : XV I3 1 V Z := hx.fr fun k j g1 g2 => f1 k j (by omega) (by omega) (by omega)
  obtain ⟨I7, e2, x7, f7⟩ := x_become 17 1 (by omega) hx3
  have W1 : WF (vu V 8 0 (V 8 0 ||| 2 ^ a)) := hW.over (Nat.or_lt_two_pow hW.1.2 (Nat.pow_lt_pow_right (by decide) ha))
  have x9 := x7.ov (x := I7 17 8 ||| ((1 : Int32) <<< (nI a &&& (31 : Int32)))) (v := V 8 0 ||| 2 ^ a) (by rw [x7.2.2.1.2, one_shl (by omega), or_nI])
  obtain ⟨I10, e3, f10, -, -, -, q10⟩ := x_plan 17 (by decide) x9 W1
  obtain ⟨A5, g1, r5⟩ := m_plan hm hW
  have m5 : MV A5 0 V Z := hm.fr fun k j g => r5 k j (by omega) (by omega)
  have m7 := m5.ov (x := A5 0 18 ||| ((1 : Int32) <<< (nI a &&& (31 : Int32)))) (v := V 8 0 ||| 2 ^ a) (by rw [m5.2.2.1.2, one_shl (by omega), or_nI])
  obtain ⟨A9, g2, r9⟩ := m_plan m7 W1
  have hov9 : A9 0 18 = nI (V 8 0 ||| 2 ^ a) := by rw [r9 0 18 (by decide) (by decide), qu_s, m5.2.2.1.2, one_shl (by omega), or_nI]
  have back : A9 0 18 &&& (((1 : Int32) <<< (nI a &&& (31 : Int32))) ^^^ (-1 : Int32)) = A 0 18 := by
    have ho := ov_lt hW
    rw [hov9, del_I (bor ho ha8) ha8, hm.2.2.1.2]
    congr 1
    apply Nat.eq_of_testBit_eq
    intro i
    rw [setb_bit (bor ho ha8) ha8]
    split
    · rename_i e; subst e; exact hov.symm
    · rename_i e
      rw [Nat.testBit_or, Nat.testBit_two_pow, decide_eq_false (Ne.symm e), Bool.or_false]
  simp only [e1, e2, e3, g1, g2, bd_s, bd2_s, lt_e, q1, q10, back]
  have r : Rel t I10 J (qu A9 0 18 (A 0 18)) B := h.fr (fun k j g => by
      rw [f10 k j (by omega) (by omega) (by omega), qu_k (by omega), f7 k j (by omega), f1 k j (by omega) (by omega) (by omega)]) (fun k j g => by
      rw [qu_at]
      by_cases e : k = 0
      · rw [if_pos e]
        by_cases e2 : j = 18
        · rw [if_pos e2, e, e2]
        · rw [if_neg e2, e, r9 0 j (by decide) (by decide), qu_i e2, r5 0 j (by decide) (by decide)]
      · rw [if_neg e, r9 k j (by omega) (by omega), qu_k e, r5 k j (by omega) (by omega)]) FJ.rf
  cases h1 : sPl V with
  | none => exact sim_same r _
  | some z =>
    have z1 := sPl_le hW h1
    rw [show oM (some z) = nI (z % 1000) from rfl, show oI (some z) = nI z from rfl, if_neg (nI_ne_m1 (show z % 1000 < 2 ^ 31 by omega)), if_neg (nI_ne_m1 (show z < 2 ^ 31 by omega))]
    cases h2 : sPl (vu V 8 0 (V 8 0 ||| 2 ^ a)) with
    | none => exact sim_same r _
    | some w =>
      have w1 := sPl_le W1 h2
      rw [show oM (some w) = nI (w % 1000) from rfl, show oI (some w) = nI w from rfl, if_neg (nI_ne_m1 (show w % 1000 < 2 ^ 31 by omega)), if_neg (nI_ne_m1 (show w < 2 ^ 31 by omega)), show (1000 : Int32) = nI 1000 from rfl, rem_nI (by omega) (by decide) (by decide), rem_nI (by omega) (by decide) (by decide)]
      exact sim_same r _
theorem m_cby (hm : MV A 0 V Z) (hW : WF V) {x : Nat} (hx : x < 4) : ∃ A', f_X9_crossingsBy (nI x) A = some (oC (sPl (vu V 6 1 x)), A') ∧ FM A A' := by
  have W1 : WF (vu V 6 1 x) := hW.told (by omega)
  obtain ⟨A', e, f⟩ := m_with hm (i := 1) (x := x) (by decide) W1 (MX.rf (A := A))
  have e : f_X9_findPlan (qu A 0 10 (nI x)) = _ := e
  refine ⟨_, ?_, f.back⟩
  unfold f_X9_crossingsBy
  rw [lt_e, e, bd2_s, lt_e]
  cases h1 : sPl (vu V 6 1 x) with
  | none => rfl
  | some z =>
    have z1 := sPl_le W1 h1
    rw [show oI (some z) = nI z from rfl, if_neg (nI_ne_m1 (show z < 2 ^ 31 by omega)), show (1000 : Int32) = nI 1000 from rfl, pk_div (by omega) (by decide) (by decide)]
    rfl
theorem neg1_le {p : Int32} (h : (-1 : Int32) ≤ p) (h2 : ¬ p = -1) : (0 : Int32) ≤ p := by
  rw [Int32.le_iff_toInt_le] at h ⊢
  have e1 : (-1 : Int32).toInt = -1 := by decide
  have e2 : (0 : Int32).toInt = 0 := by decide
  rw [e1] at h
  rw [e2]
  have : p.toInt ≠ -1 := fun z => h2 (Int32.toInt_inj.mp (z.trans e1.symm))
  omega
theorem s_laws_loop (h : Rel t I J A B) (hx : XV I 1 V Z) (hm : MV A 0 V Z) (hW : WF V) : ∀ f k f', 1 ≤ k → k ≤ 4 → 4 - k < f → 4 - k < f' → ∀ (b : Nat) (I1 A1 : qI), b < 4 → DX I I1 → FM A A1 → Sim t J B (f_X8_laws_45 f (nI b) (nI (oN ((sPl (vu V 6 1 b)).map (· / 1000)))) (nI k) I1) (f_X9_laws_37 f' (nI b) (nI k) A1) := by
  have WL : ∀ x, x < 4 → WF (vu V 6 1 x) := fun x hx4 => hW.told (by omega)
  have e10' : ¬ (1 : Int32) = 0 := by decide
  intro f
  induction f with
  | zero => intro k _ _ _ h; omega
  | succ f ih =>
    intro k f' k1 hk hf hf' b I1 A1 hb d1 f1
    obtain ⟨f', rfl⟩ : ∃ g, f' = g + 1 := ⟨f' - 1, by omega⟩
    rw [f_X8_laws_45, f_X9_laws_37, show (4 : Int32) = nI 4 from rfl, stopN' hk (by decide), if_d (show (3 : Int32) < nI k ↔ k = 4 from (nlt_i (a := 3) (by decide) (by omega)).trans (by omega))]
    by_cases q : k = 4
    · rw [if_pos q, if_pos q]; exact sim_same (h.fr d1.fx f1 FJ.rf) _
    · rw [if_neg q, if_neg q]
      obtain ⟨I2, e1, d2, -, p2, p3, -⟩ := x_planIf (d1.xv (by decide) hx) (k := 1) (v := k) (by decide) (WL k (by omega))
      have m1 : MV A1 0 V Z := hm.fr fun k j g => f1 k j (by omega)
      obtain ⟨A2, g1, f2⟩ := m_cby m1 hW (x := k) (by omega)
      have m2 : MV A2 0 V Z := m1.fr fun k j g => f2 k j (by omega)
      obtain ⟨A3, g2, f3⟩ := m_cby m2 hW (x := b) hb
      have ih := ih (k + 1) f' (by omega) (by omega) (by omega) (by omega)
      have e1 : f_X8_planIf 1 (nI k) I1 = some I2 := e1
      simp only [e1, p2, p3, g1, g2, bd_s, bd2_s, bd_b, if_b, nI_1]
      unfold f_X9_isLess
      have ff := f1.tr (f2.tr f3)
      have dd := d1.tr d2
      cases h1 : sPl (vu V 6 1 k) with
      | none => exact ih b I2 A3 hb dd ff
      | some z =>
        have z1 := sPl_le (WL k (by omega)) h1
        have up := ih k I2 A3 (by omega) dd ff
        have no := ih b I2 A3 hb dd ff
        rw [h1] at up
        rw [show oC (some z) = nI (z / 1000) from rfl, if_neg (nI_ne_m1 (show z / 1000 < 2 ^ 31 by omega)), show (some z).isSome = true from rfl, if_pos rfl]
        cases h2 : sPl (vu V 6 1 b) with
        | none =>
          rw [show oC none = (-1 : Int32) from rfl, if_pos rfl, bd_s, if_neg e10', show oN (Option.map (fun x => x / 1000) none) = 1000000 from rfl, if_neg (show ¬ nI 1000000 ≤ nI (z / 1000) from fun w => by
            have := (nle_i (a := 1000000) (by decide) (show z / 1000 < 2 ^ 31 by omega)).mp w
            omega)]
          exact up
        | some w =>
          have w1 := sPl_le (WL b hb) h2
          rw [h2] at no
          rw [show oC (some w) = nI (w / 1000) from rfl, if_neg (nI_ne_m1 (show w / 1000 < 2 ^ 31 by omega)), show oN (Option.map (· / 1000) (some w)) = w / 1000 from rfl]
          by_cases c : nI (w / 1000) ≤ nI (z / 1000)
          · rw [if_pos c, if_pos c, bd_s, if_pos rfl]; exact no
          · rw [if_neg c, if_neg c, bd_s, if_neg e10']; exact up
theorem s_laws_all (h : Rel t I J A B) (hx : XV I 1 V Z) (hm : MV A 0 V Z) (hW : WF V) (f f' : Nat) (hf : 10 < f) (hf' : 10 < f') : Sim t J B (f_X8_laws_45 (f + 1) 0 (nI 1000000) 0 I) (f_X9_laws_37 f' 0 1 A) := by
  have WL : ∀ x, x < 4 → WF (vu V 6 1 x) := fun x hx4 => hW.told (by omega)
  obtain ⟨I2, e1, d2, -, p2, p3, -⟩ := x_planIf hx (k := 1) (v := 0) (by decide) (WL 0 (by decide))
  have e1 : f_X8_planIf 1 0 I = some I2 := e1
  have st := s_laws_loop h hx hm hW f 1 f' (by decide) (by decide) (by omega) (by omega) 0 I2 A (by decide) d2 FM.rf
  rw [f_X8_laws_45, if_neg (show ¬ (4 : Int32) ≤ 0 by decide)]
  simp only [e1, p2, p3, bd_s, bd_b, if_b]
  cases h1 : sPl (vu V 6 1 0) with
  | none =>
    rw [h1] at st
    exact st
  | some z =>
    have z1 := sPl_le (WL 0 (by decide)) h1
    rw [h1] at st
    rw [show oC (some z) = nI (z / 1000) from rfl, show (some z).isSome = true from rfl, if_pos rfl, if_neg (show ¬ nI 1000000 ≤ nI (z / 1000) from fun w => by
      have := (nle_i (a := 1000000) (by decide) (show z / 1000 < 2 ^ 31 by omega)).mp w
      omega)]
    exact st
theorem s_laws (h : Rel t I J A B) (p : Int32) : Sim t J B (f_X8_laws p I) (f_X9_laws p A) := by
  obtain ⟨V, Z, ⟨hx, hm, hW⟩, -⟩ := id h
  have WL : ∀ x, x < 4 → WF (vu V 6 1 x) := fun x hx4 => hW.told (by omega)
  unfold f_X8_laws f_X9_laws
  rw [within_s, in_i (b := -1) (B := -1) (c := 3) (C := 3) rfl rfl, bd_b, bd_b, if_b, if_b]
  by_cases d : (-1 : Int32) ≤ p ∧ p ≤ 3
  · rw [decide_eq_true d, if_pos rfl, if_pos rfl]
    by_cases pm : p = -1
    · rw [if_pos pm, if_pos pm]
      exact s_laws_all h hx hm hW 999 1000 (by decide) (by decide)
    · rw [if_neg pm, if_neg pm]
      obtain ⟨x, -, hx4, rfl⟩ := nI_btw (a := 0) (b := 3) (by decide) ⟨neg1_le d.1 pm, d.2⟩ (by decide)
      obtain ⟨I2, e1, d2, -, -, p3, -⟩ := x_planIf hx (k := 1) (v := x) (by decide) (WL x (by omega))
      obtain ⟨A2, g1, f2⟩ := m_cby hm hW (x := x) (by omega)
      rw [show f_X8_planIf 1 (nI x) I = _ from e1, g1, bd_s, p3, bd_s, bd2_s]
      exact sim_same (h.fr d2.fx f2 FJ.rf) _
  · rw [decide_eq_false d, if_neg (by decide), if_neg (by decide)]
    exact sim_bad h
end LW
