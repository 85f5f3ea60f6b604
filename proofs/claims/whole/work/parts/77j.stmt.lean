/-! Pure: a whole text of statements, side by side. -/
section SR
variable {t : Nat → Nat} {L : Nat} {I A : qI} {V : qV} {Z : qW}
theorem s_stmt (hL : L ≤ 250) (ht : ∀ j, t j < 256) {e : Nat} (h : PS t L I A V Z e) : OUT t L I A V Z (e + 1) (f_X7_readStatement 17 I) (f_X9_statement A) := by
  obtain ⟨⟨a1, a2, a3⟩, ⟨b1, b2, b3, b4⟩, ⟨c1, c2, c3, c4, c5, c6, c7⟩⟩ := id h
  obtain ⟨I1, r1, r2, r3, r4, r5⟩ := x_step hL ht b1 b3 c1 c2
  have kl := sk_le t L e
  have pb := sp_b t c1
  have qb := sq_b t c1
  have hn := a3.n
  have fx : FPx I I1 := fun a j x y => r5 a j (by omega)
  have bad : OUT t L I A V Z (e + 1) (lt (qu I1 25 5 1) fun I => some I) (bd2 (f_X9_wrong A) fun v17 I18 => gd (v17 = 0 ∨ v17 = 1) <| some (v17, I18)) := by
    unfold f_X9_wrong
    rw [lt_e, lt_e, bd2_s, gd_t (Or.inl rfl), c4]
    refine Or.inr ⟨_, _, sp t L e, rfl, rfl, ⟨by omega, qu_s, ?_, qu_s⟩, fx.q (by omega), FPm.q (fun _ _ _ _ => rfl) (by omega)⟩
    rw [qu_i (by decide)]; exact r2
  unfold f_X7_readStatement f_X9_statement
  rw [r1, bd_s, r4, if_d (show nI (sk t L e) = (1 : Int32) ↔ sk t L e = 1 from nI_inj (b := 1) (by omega) (by decide))]
  by_cases k1 : sk t L e = 1
  · rw [if_pos k1]
    have q1 := sq_1 t c1 (Or.inl k1)
    have a28 : A 0 28 = nI (sq t L e) := c5.resolve_left (by omega)
    have a29 : A 0 29 = 1 := by rw [c6, k1]; rfl
    have g26 : ∀ j, j < 250 → I1 26 j = nI (t j) := fun j hj => by rw [r5 _ _ (by omega)]; exact b1 j hj
    have wd : ∀ w, w < 9 → ∃ v : Bool, f_X7_isWord w I1 = some (b2i v) ∧ f_X9_isWord w A = some (b2i v) ∧ (v = true → nI (t (sp t L e)) = wch w 0) := fun w hw => w_is hw qb.1 (by omega) g26 b2 r2 r3 c4 a28 a29
    -- what lies behind the word
    obtain ⟨A2, u1, u2, u3⟩ := m_look (A := A) hL ht b2 b4 qb.2 a28
    have fm : FPm A A2 := fun a j x y => u3 a j (by omega)
    have P2 : PS t L I1 A2 V Z (sq t L e) := ⟨⟨a1.fr fun k j g1 g2 => r5 k j (by omega), a2.fr fun k j g => u3 k j (by omega), a3⟩, ⟨g26, fun j hj => by rw [u3 _ _ (by omega)]; exact b2 j hj, by rw [r5 _ _ (by omega)]; exact b3, by rw [u3 _ _ (by omega)]; exact b4⟩, ⟨qb.2, r3, by rw [r5 _ _ (by omega)]; exact c3, u2⟩⟩
    have n2 : A 0 17 = nI (V 7 0) := a2.2.2.1.1
    have qe : e + 1 ≤ sq t L e := by omega
    have tp : V 7 0 < 8 → OUT t L I A V Z (e + 1) (bd (f_X7_readParty 17 I1) fun I => some I) (bd2 (f_X9_tellsParty A) fun v I => gd (v = 0 ∨ v = 1) <| some (v, I)) := fun h8 => by
      unfold f_X9_tellsParty f_X9_tells
      rw [u1, bd_s]
      exact (s_tp hL ht P2 h8).w fx fm qe
    have tt : ∀ r, r < 3 → OUT t L I A V Z (e + 1) (bd (f_X7_readTwo 17 (nI r) I1) fun I => some I) (bd2 (f_X9_tellsTwo (nI r) A) fun v I => gd (v = 0 ∨ v = 1) <| some (v, I)) := fun r hr => by
      unfold f_X9_tellsTwo f_X9_tells
      rw [u1, bd_s, n2]
      exact (s_tt hL ht hr P2).w fx fm qe
    have to : ∀ j a b, j < 5 → qTab2.getD j 0 = nI a → qTab3.getD j 0 = nI b → b ≤ 99 → (∀ v, a ≤ v → v ≤ b → (j = 0 → 1 ≤ v ∧ v ≤ 99) ∧ (j = 1 → v < 4) ∧ (j = 2 → v < 4) ∧ (j = 3 → v ≤ 9) ∧ (j = 4 → v ≤ 9)) → a ≤ 99 → OUT t L I A V Z (e + 1) (bd (f_X7_readTold 17 (nI j) I1) fun I => some I) (bd2 (f_X9_tellsOne (nI j) (nI a) (nI b) A) fun v I => gd (v = 0 ∨ v = 1) <| some (v, I)) := fun j a b hj e1 e2 hb hab ha => by
      unfold f_X9_tellsOne f_X9_tells
      rw [u1, bd_s]
      exact (s_to hL ht hj e1 e2 hb hab ha P2).w fx fm qe
    -- the words behind 'party'
    have rest : (f_X9_isWord 0 A = some 0 ∨ 8 ≤ V 7 0) → ∀ v0 : Bool, f_X7_isWord 0 I1 = some (b2i v0) → v0 = false → OUT t L I A V Z (e + 1) (bd (f_X7_isWord 1 I1) fun v5 => if v5 = 0 then (bd (f_X7_isWord 2 I1) fun v7 => if v7 = 0 then (bd (f_X7_isWord 3 I1) fun v9 => if v9 = 0 then (bd (f_X7_isWord 4 I1) fun v11 => if v11 = 0 then (bd (f_X7_isWord 5 I1) fun v13 => if v13 = 0 then (bd (f_X7_isWord 6 I1) fun v15 => if v15 = 0 then (bd (f_X7_isWord 7 I1) fun v17 => if v17 = 0 then (bd (f_X7_isWord 8 I1) fun v19 => if v19 = 0 then (lt (qu I1 25 5 (1 : Int32)) fun I21 => some I21) else (bd (f_X7_readTold 17 (4 : Int32) I1) fun I22 => some I22)) else (bd (f_X7_readTold 17 (3 : Int32) I1) fun I24 => some I24)) else (bd (f_X7_readTold 17 (2 : Int32) I1) fun I26 => some I26)) else (bd (f_X7_readTold 17 (1 : Int32) I1) fun I28 => some I28)) else (bd (f_X7_readTold 17 (0 : Int32) I1) fun I30 => some I30)) else (bd (f_X7_readTwo 17 (0 : Int32) I1) fun I32 => some I32)) else (bd (f_X7_readTwo 17 (2 : Int32) I1) fun I34 => some I34)) else (bd (f_X7_readTwo 17 (1 : Int32) I1) fun I36 => some I36)) (f_X9_statement_23 A) := by
      intro _ v0 _ _
      unfold f_X9_statement_23
      obtain ⟨v1, x1, m1, -⟩ := wd 1 (by decide)
      rw [x1, m1, bd_b, bd_b, if_b, if_b]
      cases v1 with
      | true => exact tt 1 (by decide)
      | false =>
        rw [if_neg (by decide), if_neg (by decide)]
        obtain ⟨v2, x2, m2, -⟩ := wd 2 (by decide)
        rw [x2, m2, bd_b, bd_b, if_b, if_b]
        cases v2 with
        | true => exact tt 2 (by decide)
        | false =>
          rw [if_neg (by decide), if_neg (by decide)]
          obtain ⟨v3, x3, m3, -⟩ := wd 3 (by decide)
          rw [x3, m3, bd_b, bd_b, if_b, if_b]
          cases v3 with
          | true => exact tt 0 (by decide)
          | false =>
            rw [if_neg (by decide), if_neg (by decide)]
            obtain ⟨v4, x4, m4, -⟩ := wd 4 (by decide)
            rw [x4, m4, bd_b, bd_b, if_b, if_b]
            cases v4 with
            | true => exact to 0 1 99 (by decide) rfl rfl (by decide) (fun v _ _ => by omega) (by decide)
            | false =>
              rw [if_neg (by decide), if_neg (by decide)]
              obtain ⟨v5, x5, m5, -⟩ := wd 5 (by decide)
              rw [x5, m5, bd_b, bd_b, if_b, if_b]
              cases v5 with
              | true => exact to 1 0 3 (by decide) rfl rfl (by decide) (fun v _ _ => by omega) (by decide)
              | false =>
                rw [if_neg (by decide), if_neg (by decide)]
                obtain ⟨v6, x6, m6, -⟩ := wd 6 (by decide)
                rw [x6, m6, bd_b, bd_b, if_b, if_b]
                cases v6 with
                | true => exact to 2 0 3 (by decide) rfl rfl (by decide) (fun v _ _ => by omega) (by decide)
                | false =>
                  rw [if_neg (by decide), if_neg (by decide)]
                  obtain ⟨v7, x7, m7, -⟩ := wd 7 (by decide)
                  rw [x7, m7, bd_b, bd_b, if_b, if_b]
                  cases v7 with
                  | true => exact to 3 0 9 (by decide) rfl rfl (by decide) (fun v _ _ => by omega) (by decide)
                  | false =>
                    rw [if_neg (by decide), if_neg (by decide)]
                    obtain ⟨v8, x8, m8, -⟩ := wd 8 (by decide)
                    rw [x8, m8, bd_b, bd_b, if_b, if_b]
                    cases v8 with
                    | true => exact to 4 0 9 (by decide) rfl rfl (by decide) (fun v _ _ => by omega) (by decide)
                    | false =>
                      rw [if_neg (by decide), if_neg (by decide)]
                      exact bad
    obtain ⟨v0, x0, m0, p0⟩ := wd 0 (by decide)
    rw [x0, m0, bd_b, bd_b, if_b, if_b, n2, if_d (show (8 : Int32) ≤ nI (V 7 0) ↔ 8 ≤ V 7 0 from nle_i (a := 8) (by decide) (by omega))]
    cases v0 with
    | false =>
      rw [if_neg (by decide), if_neg (by decide)]
      exact rest (Or.inl m0) false x0 rfl
    | true =>
      rw [if_pos rfl, if_pos rfl]
      by_cases h8 : 8 ≤ V 7 0
      · rw [if_pos h8]
        have fst := p0 rfl
        have nw : ∀ w, w < 9 → 1 ≤ w → f_X9_isWord w A = some 0 := fun w hw hw1 => by
          obtain ⟨v, -, m, p⟩ := wd w hw
          rw [m]
          cases v with
          | false => rfl
          | true => exact absurd ((p rfl).symm.trans fst) (wch_tab w hw hw1)
        have em : f_X9_statement_23 A = bd2 (f_X9_wrong A) fun v17 I18 => gd (v17 = 0 ∨ v17 = 1) <| some (v17, I18) := by
          unfold f_X9_statement_23
          rw [nw 1 (by decide) (by decide), nw 2 (by decide) (by decide), nw 3 (by decide) (by decide), nw 4 (by decide) (by decide), nw 5 (by decide) (by decide), nw 6 (by decide) (by decide), nw 7 (by decide) (by decide), nw 8 (by decide) (by decide)]
          rfl
        rw [em]
        have ex : f_X7_readParty 17 I1 = some (qu I1 25 5 1) := by
          unfold f_X7_readParty
          rw [x_room 17 P2.1.1 a3, decide_eq_false (by omega), bd_b, if_b, if_neg (by decide), lt_e]
        rw [ex]
        exact bad
      · rw [if_neg h8]
        exact tp (by omega)
  · rw [if_neg k1]
    have n29 : ¬ A 0 29 = 1 := fun z => by
      rw [c6] at z
      exact k1 ((nI_inj (b := 1) (by omega) (by decide)).mp z)
    have em : f_X9_statement_23 A = bd2 (f_X9_wrong A) fun v17 I18 => gd (v17 = 0 ∨ v17 = 1) <| some (v17, I18) := by
      unfold f_X9_statement_23
      rw [m_noword n29, m_noword n29, m_noword n29, m_noword n29, m_noword n29, m_noword n29, m_noword n29, m_noword n29]
      rfl
    rw [m_noword n29, bd_s, if_pos rfl, em]
    exact bad
/-- how a text ends -/
def FPn (A A' : qI) : Prop := ∀ a j, ¬ (a = 0 ∧ ((9 ≤ j ∧ j ≤ 18) ∨ (28 ≤ j ∧ j ≤ 34))) → ¬ (17 ≤ a ∧ a ≤ 23) → A' a j = A a j
def RES (I A : qI) (V : qV) (Z : qW) (x m : Option (Int32 × qI)) : Prop :=
  (∃ s I' A' V', x = some (nI s, I') ∧ m = some (1, A') ∧ s ≤ 250 ∧ A' 0 34 = nI s ∧ XV I' 17 V' Z ∧ MV A' 0 V' Z ∧ WF V' ∧ V 7 0 ≤ V' 7 0 ∧ FPx I I' ∧ FPn A A') ∨
  (∃ I' A' P, x = some (-1, I') ∧ m = some (0, A') ∧ P ≤ 250 ∧ I' 25 2 = nI P ∧ A' 0 32 = nI P ∧ FPx I I' ∧ FPn A A')
theorem FPm.n {A A' : qI} (h : FPm A A') : FPn A A' := fun a j x y => h a j (by omega) y
theorem FPn.tr {A A' A'' : qI} (h : FPn A A') (h2 : FPn A' A'') : FPn A A'' := fun a j x y => (h2 a j x y).trans (h a j x y)
theorem FPn.q {A A' : qI} (h : FPn A A') {j : Nat} {v : Int32} (hj : 28 ≤ j ∧ j ≤ 34) : FPn A (qu A' 0 j v) := fun a i x y => by
  rw [qu_at]
  by_cases e : a = 0
  · rw [if_pos e, if_neg (by omega), ← e]; exact h a i x y
  · rw [if_neg e]; exact h a i x y
theorem RES.w {I0 A0 : qI} {V0 : qV} {x m : Option (Int32 × qI)} (h : RES I A V Z x m) (fx : FPx I0 I) (fm : FPn A0 A) (hv : V0 7 0 ≤ V 7 0) : RES I0 A0 V0 Z x m := by
  rcases h with ⟨s, I', A', V', h1, h2, h3, h4, h5, h6, h7, h8, h9, h10⟩ | ⟨I', A', P, h1, h2, h3, h4, h5, h9, h10⟩
  · exact Or.inl ⟨s, I', A', V', h1, h2, h3, h4, h5, h6, h7, by omega, fx.tr h9, fm.tr h10⟩
  · exact Or.inr ⟨I', A', P, h1, h2, h3, h4, h5, fx.tr h9, fm.tr h10⟩
theorem s_read (hL : L ≤ 250) (ht : ∀ j, t j < 256) : ∀ g f f' s e (I A : qI) (V : qV), g ≤ f → g ≤ f' → L - e < g → 1 ≤ s → 2 * s ≤ e + 1 → PS t L I A V Z e → A 0 34 = nI s →
    RES I A V Z (bd (f_X7_step I) fun I3 => if (I3 25 4) = 0 then (some (nI s, I3)) else (if (I3 25 4) = (3 : Int32) then (f_X7_readInto_12 17 f (nI (s + 1)) I3) else (some ((-1 : Int32), I3)))) (f_X9_readAll_23 f' A) := by
  intro g
  induction g with
  | zero => intro f f' s e I A V _ _ h; omega
  | succ g ih =>
    intro f f' s e I A V hf hf' hg hs1 hs2 h a34
    obtain ⟨f, rfl⟩ : ∃ k, f = k + 1 := ⟨f - 1, by omega⟩
    obtain ⟨f', rfl⟩ : ∃ k, f' = k + 1 := ⟨f' - 1, by omega⟩
    obtain ⟨⟨a1, a2, a3⟩, ⟨b1, b2, b3, b4⟩, ⟨c1, c2, c3, c4, c5, c6, c7⟩⟩ := id h
    obtain ⟨I1, r1, r2, r3, r4, r5⟩ := x_step hL ht b1 b3 c1 c2
    have kl := sk_le t L e
    have pb := sp_b t c1
    have qb := sq_b t c1
    have fx : FPx I I1 := fun a j x y => r5 a j (by omega)
    rw [r1, bd_s, f_X9_readAll_23, r4, c6, if_d (show nI (sk t L e) = (0 : Int32) ↔ sk t L e = 0 from nI_z (by omega)), if_d (show nI (sk t L e) = (0 : Int32) ↔ sk t L e = 0 from nI_z (by omega)), if_d (show nI (sk t L e) = (3 : Int32) ↔ sk t L e = 3 from nI_inj (b := 3) (by omega) (by decide)), if_d (show nI (sk t L e) = (3 : Int32) ↔ sk t L e = 3 from nI_inj (b := 3) (by omega) (by decide))]
    by_cases k0 : sk t L e = 0
    · rw [if_pos k0, if_pos k0]
      exact Or.inl ⟨s, I1, A, V, rfl, rfl, by omega, a34, a1.fr fun k j g1 g2 => r5 k j (by omega), a2, a3, Nat.le_refl _, fx, fun _ _ _ _ => rfl⟩
    · rw [if_neg k0, if_neg k0]
      by_cases k3 : sk t L e = 3
      · rw [if_pos k3, if_pos k3]
        have q1 := sq_1 t c1 (Or.inr (Or.inr k3))
        have a28 : A 0 28 = nI (sq t L e) := c5.resolve_left (by omega)
        obtain ⟨A2, u1, u2, u3⟩ := m_look (A := A) hL ht b2 b4 qb.2 a28
        have fm : FPm A A2 := fun a j x y => u3 a j (by omega)
        have P2 : PS t L I1 A2 V Z (sq t L e) := ⟨⟨a1.fr fun k j g1 g2 => r5 k j (by omega), a2.fr fun k j g => u3 k j (by omega), a3⟩, ⟨fun j hj => by rw [r5 _ _ (by omega)]; exact b1 j hj, fun j hj => by rw [u3 _ _ (by omega)]; exact b2 j hj, by rw [r5 _ _ (by omega)]; exact b3, by rw [u3 _ _ (by omega)]; exact b4⟩, ⟨qb.2, r3, by rw [r5 _ _ (by omega)]; exact c3, u2⟩⟩
        have A34 : A2 0 34 = nI s := by rw [u3 _ _ (by omega)]; exact a34
        rw [u1, bd_s, f_X7_readInto_12, if_neg (show ¬ (250 : Int32) < nI (s + 1) from fun z => by
          have := (nlt_i (a := 250) (by decide) (show s + 1 < 2 ^ 31 by omega)).mp z
          omega)]
        rcases s_stmt hL ht P2 with ⟨I4, A4, V4, q4, x1, m1, P4, v4, e4, fx4, fm4⟩ | ⟨I4, A4, P, x1, m1, pf, fx4, fm4⟩
        · have z5 : I4 25 5 = 0 := P4.2.2.2.2.1
          have z34 : A4 0 34 = nI s := by rw [fm4 0 34 (by omega) (by omega)]; exact A34
          rw [x1, m1, bd_s, bd2_s, z5, if_pos rfl, if_neg (by decide), z34, nI_1, nI_1, lt_e]
          have P5 : PS t L I4 (qu A4 0 34 (nI (s + 1))) V4 Z q4 := P4.fr (fun _ _ _ => rfl) (fun k j hk => by
            rw [qu_at]
            by_cases e : k = 0
            · rw [if_pos e, if_neg (by omega), e]
            · rw [if_neg e])
          exact (ih f f' (s + 1) q4 I4 _ V4 (by omega) (by omega) (by omega) (by omega) (by omega) P5 qu_s).w (fx.tr fx4) ((fm.tr fm4).n.q (by omega)) v4
        · rw [x1, m1, bd_s, bd2_s, pf.2.1, if_neg (by decide), if_pos rfl]
          exact Or.inr ⟨I4, A4, P, rfl, rfl, pf.1, pf.2.2.1, pf.2.2.2, fx.tr fx4, (fm.tr fm4).n⟩
      · rw [if_neg k3, if_neg k3]
        unfold f_X9_wrong
        rw [lt_e, bd2_s, gd_t (Or.inl rfl), c4]
        exact Or.inr ⟨I1, _, sp t L e, rfl, rfl, by omega, r2, qu_s, fx, FPn.q (fun _ _ _ _ => rfl) (by omega)⟩
/-- the whole text -/
theorem s_text (hL : L ≤ 250) (ht : ∀ j, t j < 256) (hx : XV I 17 V Z) (hm : MV A 0 V Z) (hW : WF V) (h26 : ∀ j, j < 250 → I 26 j = nI (t j)) (h15 : ∀ j, j < 250 → A 15 j = nI (t j)) (h1 : I 25 1 = nI L) (h7 : A 0 7 = nI L) : RES I A V Z (f_X7_readInto 17 I) (f_X9_readAll A) := by
  unfold f_X7_readInto f_X9_readAll
  rw [lt_e, lt_e, lt_e, lt_e]
  have fq : ∀ k j, ¬ (k = 25 ∧ (j = 3 ∨ j = 5)) → qu (qu I 25 3 0) 25 5 0 k j = I k j := fun k j hk => by
    rw [qu_o (by omega), qu_o (by omega)]
  have fr : ∀ k j, ¬ (k = 0 ∧ (j = 34 ∨ j = 28)) → qu (qu A 0 34 1) 0 28 0 k j = A k j := fun k j hk => by
    rw [qu_o (by omega), qu_o (by omega)]
  obtain ⟨A2, u1, u2, u3⟩ := m_look (A := qu (qu A 0 34 1) 0 28 0) hL ht (fun j hj => by rw [fr _ _ (by omega)]; exact h15 j hj) (by rw [fr _ _ (by omega)]; exact h7) (Nat.zero_le L) qu_s
  have fm : FPn A A2 := fun a j x y => by rw [u3 a j (by omega), fr a j (by omega)]
  have fx : FPx I (qu (qu I 25 3 0) 25 5 0) := fun a j x y => fq a j (by omega)
  have P2 : PS t L (qu (qu I 25 3 0) 25 5 0) A2 V Z 0 := ⟨⟨hx.fr fun k j g1 g2 => fq k j (by omega), hm.fr fun k j g => by rw [u3 k j (by omega), fr k j (by omega)], hW⟩, ⟨fun j hj => by rw [fq _ _ (by omega)]; exact h26 j hj, fun j hj => by rw [u3 _ _ (by omega), fr _ _ (by omega)]; exact h15 j hj, by rw [fq _ _ (by omega)]; exact h1, by rw [u3 _ _ (by omega), fr _ _ (by omega)]; exact h7⟩, ⟨Nat.zero_le _, by rw [qu_i (by decide), qu_s]; rfl, qu_s, u2⟩⟩
  have A34 : A2 0 34 = nI 1 := by rw [u3 _ _ (by omega), qu_i (by decide), qu_s]; rfl
  rw [u1, bd_s]
  show RES I A V Z (f_X7_readInto_12 17 (999 + 1) 1 _) _
  rw [f_X7_readInto_12, if_neg (by decide)]
  rcases s_stmt hL ht P2 with ⟨I4, A4, V4, q4, x1, m1, P4, v4, e4, fx4, fm4⟩ | ⟨I4, A4, P, x1, m1, pf, fx4, fm4⟩
  · have z5 : I4 25 5 = 0 := P4.2.2.2.2.1
    have z34 : A4 0 34 = nI 1 := by rw [fm4 0 34 (by omega) (by omega)]; exact A34
    rw [x1, m1, bd_s, bd2_s, z5, if_pos rfl, if_neg (by decide)]
    exact (s_read hL ht 999 999 1000 1 q4 I4 A4 V4 (by decide) (by decide) (by omega) (by decide) (by omega) P4 z34).w (fx.tr fx4) (fm.tr fm4.n) v4
  · rw [x1, m1, bd_s, bd2_s, pf.2.1, if_neg (by decide), if_pos rfl]
    exact Or.inr ⟨I4, A4, P, rfl, rfl, pf.1, pf.2.2.1, pf.2.2.2, fx.tr fx4, fm.tr fm4.n⟩
end SR
