/-! Pure: statements, side by side. -/
section ST
variable {t : Nat → Nat} {L : Nat} {I A : qI} {V : qV} {Z : qW}
def OUT (t : Nat → Nat) (L : Nat) (I A : qI) (V : qV) (Z : qW) (q : Nat) (x : Option qI) (m : Option (Int32 × qI)) : Prop :=
  (∃ I' A' V' q', x = some I' ∧ m = some (1, A') ∧ PS t L I' A' V' Z q' ∧ V 7 0 ≤ V' 7 0 ∧ q ≤ q' ∧ FPx I I' ∧ FPm A A') ∨
  (∃ I' A' P, x = some I' ∧ m = some (0, A') ∧ PF I' A' P ∧ FPx I I' ∧ FPm A A')
theorem OUT.w {I0 A0 : qI} {q : Nat} {x : Option qI} {m : Option (Int32 × qI)} (h : OUT t L I A V Z q x m) (fx : FPx I0 I) (fm : FPm A0 A) {q0 : Nat} (hq : q0 ≤ q) : OUT t L I0 A0 V Z q0 (bd x fun I => some I) (bd2 m fun v I => gd (v = 0 ∨ v = 1) <| some (v, I)) := by
  rcases h with ⟨I', A', V', q', rfl, rfl, h1, h2, h3, h4, h5⟩ | ⟨I', A', P, rfl, rfl, h1, h4, h5⟩
  · exact Or.inl ⟨I', A', V', q', rfl, by rw [bd2_s, gd_t (Or.inr rfl)], h1, h2, by omega, fx.tr h4, fm.tr h5⟩
  · exact Or.inr ⟨I', A', P, rfl, by rw [bd2_s, gd_t (Or.inl rfl)], h1, fx.tr h4, fm.tr h5⟩
theorem PS.put {I' A' : qI} {V' : qV} {e : Nat} (h : PS t L I A V Z e) (hx' : XV I' 17 V' Z) (hm' : MV A' 0 V' Z) (hW' : WF V') (hx : ∀ k j, k = 26 ∨ (k = 25 ∧ (j = 1 ∨ j = 3 ∨ j = 5)) → I' k j = I k j) (hm : ∀ k j, (k = 0 ∧ (j = 7 ∨ (28 ≤ j ∧ j ≤ 31))) ∨ k = 15 → A' k j = A k j) : PS t L I' A' V' Z e := by
  obtain ⟨⟨a1, a2, a3⟩, ⟨b1, b2, b3, b4⟩, ⟨c1, c2, c3, c4, c5, c6, c7⟩⟩ := h
  refine ⟨⟨hx', hm', hW'⟩, ⟨fun j hj => ?_, fun j hj => ?_, ?_, ?_⟩, ⟨c1, ?_, ?_, ?_, ?_, ?_, ?_⟩⟩
  · rw [hx _ _ (by omega)]; exact b1 j hj
  · rw [hm _ _ (by omega)]; exact b2 j hj
  · rw [hx _ _ (by omega)]; exact b3
  · rw [hm _ _ (by omega)]; exact b4
  · rw [hx _ _ (by omega)]; exact c2
  · rw [hx _ _ (by omega)]; exact c3
  · rw [hm _ _ (by omega)]; exact c4
  · rw [hm _ _ (by omega)]; exact c5
  · rw [hm _ _ (by omega)]; exact c6
  · rw [hm _ _ (by omega)]; exact c7
theorem sq_ge (t : Nat → Nat) {L e : Nat} (h : e ≤ L) : e ≤ sq t L e := by
  have := sp_b t h
  have := sq_b t h
  omega
theorem n_v {v a b : Nat} (hb : b < 2 ^ 31) (ha : a < 2 ^ 31) (hv : v < 2 ^ 31) {lo hi : Int32} (el : lo = nI a) (eh : hi = nI b) (h : lo ≤ nI v ∧ nI v ≤ hi) : a ≤ v ∧ v ≤ b := by
  subst el
  subst eh
  exact ⟨(nle_i ha hv).mp h.1, (nle_i hv hb).mp h.2⟩
/-- a party told, behind its word -/
theorem s_tp (hL : L ≤ 250) (ht : ∀ j, t j < 256) {q : Nat} (h : PS t L I A V Z q) (h8 : V 7 0 < 8) : OUT t L I A V Z q (f_X7_readParty 17 I) (bd2 (bd2 (f_X9_number 0 0 5 A) fun v3 I4 => gd (v3 = 0 ∨ v3 = 1) <| some (v3, I4)) fun v1 I2 => if v1 = 0 then (f_X9_tellsParty_46 I2) else (bd2 (f_X9_number (1 : Int32) (0 : Int32) (9 : Int32) I2) fun v4 I5 => if v4 = 0 then (f_X9_tellsParty_46 I5) else (bd2 (f_X9_number (2 : Int32) (1 : Int32) (40 : Int32) I5) fun v7 I8 => if v7 = 0 then (f_X9_tellsParty_46 I8) else (bd2 (f_X9_number (3 : Int32) (0 : Int32) (99 : Int32) I8) fun v10 I11 => if v10 = 0 then (f_X9_tellsParty_46 I11) else (f_X9_tellsParty_47 (1 : Int32) I11))))) := by
  have no : ∀ A1 : qI, f_X9_tellsParty_46 A1 = some (0, A1) := fun A1 => by
    unfold f_X9_tellsParty_46 f_X9_tellsParty_47
    rw [if_pos rfl, gd_t (Or.inl rfl)]
  unfold f_X7_readParty
  rw [x_room 17 h.1.1 h.1.2.2, decide_eq_true h8, bd_b, if_b, if_pos rfl]
  have n0 := s_num hL ht h 0 5 (by decide) (by decide) (i := 0) (by decide)
  rcases n0 with ⟨v0, I1, A1, x0, m0, b0, w0, -, -, -, t0, -, P1, fx1, fm1⟩ | ⟨I1, A1, P, x0, m0, pf, -, -, fx1, fm1⟩
  · rw [x0, show f_X9_number 0 0 5 A = _ from m0, bd2_s, bd2_s, gd_t (Or.inr rfl), bd2_s, if_neg (by decide)]
    rcases s_num hL ht P1 0 9 (by decide) (by decide) (i := 1) (by decide) with ⟨v1, I2, A2, x1, m1, b1, w1, -, -, -, t1, u1, P2, fx2, fm2⟩ | ⟨I2, A2, P, x1, m1, pf, -, -, fx2, fm2⟩
    · rw [x1, show f_X9_number 1 0 9 A1 = _ from m1, bd2_s, bd2_s, if_neg (by decide)]
      rcases s_num hL ht P2 1 40 (by decide) (by decide) (i := 2) (by decide) with ⟨v2, I3, A3, x2, m2, b2, w2, -, -, -, t2, u2, P3, fx3, fm3⟩ | ⟨I3, A3, P, x2, m2, pf, -, -, fx3, fm3⟩
      · rw [x2, show f_X9_number 2 1 40 A2 = _ from m2, bd2_s, bd2_s, if_neg (by decide)]
        rcases s_num hL ht P3 0 99 (by decide) (by decide) (i := 3) (by decide) with ⟨v3, I4, A4, x3, m3, b3, w3, -, -, -, t3, u3, P4, fx4, fm4⟩ | ⟨I4, A4, P, x3, m3, pf, -, -, fx4, fm4⟩
        · rw [x3, show f_X9_number 3 0 99 A3 = _ from m3, bd2_s, bd2_s, if_neg (show ¬ (1 : Int32) = 0 by decide)]
          have c5 : I4 25 5 = 0 := P4.2.2.2.2.1
          have r0 := n_v (a := 0) (b := 5) (by decide) (by decide) (show v0 < 2 ^ 31 by omega) rfl rfl w0
          have r1 := n_v (a := 0) (b := 9) (by decide) (by decide) (show v1 < 2 ^ 31 by omega) rfl rfl w1
          have r2 := n_v (a := 1) (b := 40) (by decide) (by decide) (show v2 < 2 ^ 31 by omega) rfl rfl w2
          have a0 : A4 23 0 = nI v0 := by rw [u3 0 (by decide), u2 0 (by decide), u1 0 (by decide)]; exact t0
          have a1 : A4 23 1 = nI v1 := by rw [u3 1 (by decide), u2 1 (by decide)]; exact t1
          have a2 : A4 23 2 = nI v2 := by rw [u3 2 (by decide)]; exact t2
          obtain ⟨hx4, hm4, hW4⟩ := P4.1
          obtain ⟨I5, g1, g2, g3⟩ := x_add 17 hx4 hW4 h8 (a := v0) (c := v1) (d := v2) (e := v3)
          obtain ⟨A5, k1, -, k2, k3⟩ := m_add hm4 hW4 h8 (a := v0) (c := v1) (d := v2) (e := v3)
          rw [c5, if_pos rfl, g1, bd2_s]
          unfold f_X9_tellsParty_47
          rw [if_neg (by decide), a0, a1, a2, t3, k1, bd_s, gd_t (Or.inr rfl)]
          have q1 := sq_ge t h.2.2.1
          have q2 := sq_ge t P1.2.2.1
          have q3 := sq_ge t P2.2.2.1
          have q4 := sq_ge t P3.2.2.1
          refine Or.inl ⟨I5, A5, addV V v0 v1 v2 v3, _, rfl, rfl, P4.put g2 k2 (hW4.add h8 (by omega) r1.2 r2.2 b3) (fun k j hk => g3 k j (by omega)) (fun k j hk => k3 k j (by omega) (by omega)), ?_, (by omega : q ≤ sq t L (sq t L (sq t L (sq t L q)))), (((fx1.tr fx2).tr fx3).tr fx4).tr (fun k j y1 y2 => g3 k j (by omega)), (((fm1.tr fm2).tr fm3).tr fm4).tr (fun k j y1 y2 => k3 k j (by omega) (by omega))⟩
          show V 7 0 ≤ vu _ 7 0 (V 7 0 + 1) 7 0
          rw [vu_s]; omega
        · rw [x3, show f_X9_number 3 0 99 A3 = _ from m3, bd2_s, bd2_s, pf.2.1, if_neg (show ¬ (1 : Int32) = 0 by decide), if_pos rfl, no]
          exact Or.inr ⟨I4, A4, P, rfl, rfl, pf, ((fx1.tr fx2).tr fx3).tr fx4, ((fm1.tr fm2).tr fm3).tr fm4⟩
      · rw [x2, show f_X9_number 2 1 40 A2 = _ from m2, bd2_s, bd2_s, if_pos rfl, no, x_num_f _ _ pf.2.1, bd2_s, pf.2.1, if_neg (by decide)]
        exact Or.inr ⟨I3, A3, P, rfl, rfl, pf, (fx1.tr fx2).tr fx3, (fm1.tr fm2).tr fm3⟩
    · rw [x1, show f_X9_number 1 0 9 A1 = _ from m1, bd2_s, bd2_s, if_pos rfl, no, x_num_f _ _ pf.2.1, bd2_s, x_num_f _ _ pf.2.1, bd2_s, pf.2.1, if_neg (by decide)]
      exact Or.inr ⟨I2, A2, P, rfl, rfl, pf, fx1.tr fx2, fm1.tr fm2⟩
  · rw [x0, show f_X9_number 0 0 5 A = _ from m0, bd2_s, bd2_s, gd_t (Or.inl rfl), bd2_s, if_pos rfl, no, x_num_f _ _ pf.2.1, bd2_s, x_num_f _ _ pf.2.1, bd2_s, x_num_f _ _ pf.2.1, bd2_s, pf.2.1, if_neg (by decide)]
    exact Or.inr ⟨I1, A1, P, rfl, rfl, pf, fx1, fm1⟩
theorem hi_n : ∀ n, n ≤ 8 → nI n - 1 ≤ 99 := by decide
/-- two told -/
theorem s_tt (hL : L ≤ 250) (ht : ∀ j, t j < 256) {q r : Nat} (hr : r < 3) (h : PS t L I A V Z q) : OUT t L I A V Z q (f_X7_readTwo 17 (nI r) I) (bd2 (bd2 (f_X9_number 0 0 (nI (V 7 0) - 1) A) fun v3 I4 => gd (v3 = 0 ∨ v3 = 1) <| some (v3, I4)) fun v1 I2 => if v1 = 0 then (some ((0 : Int32), I2)) else (if (I2 0 29) = (2 : Int32) then (if (I2 0 31) = (I2 23 0) then (bd2 (f_X9_wrong I2) fun v4 I5 => gd (v4 = 0 ∨ v4 = 1) <| some (v4, I5)) else (f_X9_tellsTwo_42 (nI r) I2)) else (f_X9_tellsTwo_42 (nI r) I2))) := by
  obtain ⟨hx, hm, hW⟩ := h.1
  have hn := hW.n
  have hhi := hi_n _ hn
  unfold f_X7_readTwo
  rw [hx.2.2.1.1]
  rcases s_num hL ht h 0 (nI (V 7 0) - 1) hhi (by decide) (i := 0) (by decide) with ⟨v0, I1, A1, x0, m0, b0, w0, -, -, -, t0, -, P1, fx1, fm1⟩ | ⟨I1, A1, P, x0, m0, pf, -, -, fx1, fm1⟩
  · obtain ⟨hx1, hm1, -⟩ := P1.1
    obtain ⟨c1, c2, c3, c4, c5, c6, c7⟩ := P1.2.2
    have kl := sk_le t L (sq t L q)
    have sgl : sg t L (sq t L q) < 2 ^ 31 := by
      have := fg_lt t (sp t L (sq t L q)) ht (sq t L (sq t L q) - sp t L (sq t L q))
      unfold sg
      split <;> omega
    rw [x0, show f_X9_number 0 0 (nI (V 7 0) - 1) A = _ from m0, bd2_s, bd2_s, gd_t (Or.inr rfl), bd2_s, if_neg (by decide), hx1.2.2.1.1, c6, c7, t0, if_d (show nI (sk t L (sq t L q)) = (2 : Int32) ↔ sk t L (sq t L q) = 2 from nI_inj (b := 2) (by omega) (by decide)), if_d (nI_inj sgl (show v0 < 2 ^ 31 by omega))]
    have e42 : f_X9_tellsTwo_42 (nI r) A1 = bd2 (f_X9_number 1 0 (nI (V 7 0) - 1) A1) fun v1 I2 => if v1 = 0 then (gd (v1 = 0 ∨ v1 = 1) <| some (v1, I2)) else (bd (f_X9_binds (I2 23 0) (I2 23 1) (nI r) I2) fun I5 => gd (v1 = 0 ∨ v1 = 1) <| some (v1, I5)) := by
      unfold f_X9_tellsTwo_42
      rw [hm1.2.2.1.1]
    obtain ⟨p0, hp0, e0⟩ := sub1_pty _ hn _ w0
    have ep0 : v0 = p0 := (nI_inj (by omega) (by omega)).mp e0
    subst ep0
    rcases s_num hL ht P1 0 (nI (V 7 0) - 1) hhi (by decide) (i := 1) (by decide) with ⟨v1, I2, A2, x1, m1, b1, w1, ev, k2, i2, t1, u1, P2, fx2, fm2⟩ | ⟨I2, A2, P, x1, m1, pf, eP, nk, fx2, fm2⟩
    · rw [x1, bd2_s, if_pos k2, ← ev, if_d (nI_inj (show v0 < 2 ^ 31 by omega) (show v1 < 2 ^ 31 by omega))]
      by_cases c : v0 = v1
      · rw [if_pos c, if_pos c.symm, lt_e]
        unfold f_X7_readTwo_36 f_X9_wrong
        rw [qu_s, if_neg (by decide), lt_e, bd2_s, gd_t (Or.inl rfl), c4]
        refine Or.inr ⟨_, _, sp t L (sq t L q), rfl, rfl, ⟨?_, qu_s, ?_, qu_s⟩, (fx1.tr fx2).q (by omega), fm1.q (by omega)⟩
        · have := sp_b t c1
          omega
        · rw [qu_i (by decide)]; exact i2
      · rw [if_neg c, if_neg (fun z => c z.symm), e42, show f_X9_number 1 0 (nI (V 7 0) - 1) A1 = _ from m1, bd2_s, if_neg (by decide)]
        obtain ⟨hx2, hm2, hW2⟩ := P2.1
        obtain ⟨p1, hp1, e1⟩ := sub1_pty _ hn _ w1
        have ep1 : v1 = p1 := (nI_inj (by omega) (by omega)).mp e1
        have f5 : I2 25 5 = 0 := P2.2.2.2.2.1
        unfold f_X7_readTwo_36
        rw [← ep1] at hp1
        obtain ⟨I3, g1, g2, g3, g4⟩ := x_relate 17 hx2 hW2 hp0 hp1 c hr
        obtain ⟨A3, y1, y2, y3⟩ := m_binds hm2 hW2 hp0 hp1 c hr
        rw [f5, if_pos rfl, g1, bd_s, u1 0 (by decide), t0, t1, y1, bd_s, gd_t (Or.inr rfl)]
        have q1 := sq_ge t h.2.2.1
        have q2 := sq_ge t P1.2.2.1
        refine Or.inl ⟨I3, A3, _, _, rfl, rfl, P2.put g2 y2 g3 (fun k j hk => g4 k j (by omega)) (fun k j hk => y3 k j (by omega)), ?_, (by omega : q ≤ sq t L (sq t L q)), (fx1.tr fx2).tr (fun k j z1 z2 => g4 k j (by omega)), (fm1.tr fm2).tr (fun k j z1 z2 => y3 k j (by omega))⟩
        exact Nat.le_of_eq (by unfold bindV; rw [relV_r (by decide), relV_r (by decide)])
    · have nv : ¬ (sk t L (sq t L q) = 2 ∧ sg t L (sq t L q) = v0) := fun z => nk ⟨z.1, by rw [z.2]; exact w0⟩
      have m2 : (if sk t L (sq t L q) = 2 then (if sg t L (sq t L q) = v0 then (bd2 (f_X9_wrong A1) fun v4 I5 => gd (v4 = 0 ∨ v4 = 1) <| some (v4, I5)) else (f_X9_tellsTwo_42 (nI r) A1)) else (f_X9_tellsTwo_42 (nI r) A1)) = some (0, A2) := by
        have e : f_X9_tellsTwo_42 (nI r) A1 = some (0, A2) := by
          rw [e42, show f_X9_number 1 0 (nI (V 7 0) - 1) A1 = _ from m1, bd2_s, if_pos rfl, gd_t (Or.inl rfl)]
        by_cases c : sk t L (sq t L q) = 2
        · rw [if_pos c, if_neg (fun z => nv ⟨c, z⟩), e]
        · rw [if_neg c, e]
      rw [m2, x1, bd2_s, if_neg (nI_ne_m1 (by omega))]
      unfold f_X7_readTwo_36
      rw [pf.2.1, if_neg (by decide)]
      exact Or.inr ⟨I2, A2, P, rfl, rfl, pf, fx1.tr fx2, fm1.tr fm2⟩
  · rw [x0, show f_X9_number 0 0 (nI (V 7 0) - 1) A = _ from m0, bd2_s, bd2_s, gd_t (Or.inl rfl), bd2_s, if_pos rfl, x_num_f _ _ pf.2.1, bd2_s, if_pos rfl, lt_e]
    unfold f_X7_readTwo_36
    rw [qu_s, if_neg (by decide)]
    refine Or.inr ⟨_, A1, P, rfl, rfl, ⟨pf.1, qu_s, ?_, pf.2.2.2⟩, fx1.q (by omega), fm1⟩
    rw [qu_i (by decide)]; exact pf.2.2.1
/-- one thing told of the boat -/
theorem s_to (hL : L ≤ 250) (ht : ∀ j, t j < 256) {q j a b : Nat} (hj : j < 5) (el : qTab2.getD j 0 = nI a) (eh : qTab3.getD j 0 = nI b) (hb : b ≤ 99) (hab : ∀ v, a ≤ v → v ≤ b → (j = 0 → 1 ≤ v ∧ v ≤ 99) ∧ (j = 1 → v < 4) ∧ (j = 2 → v < 4) ∧ (j = 3 → v ≤ 9) ∧ (j = 4 → v ≤ 9)) (ha : a ≤ 99) (h : PS t L I A V Z q) : OUT t L I A V Z q (f_X7_readTold 17 (nI j) I) (bd2 (bd2 (f_X9_number 0 (nI a) (nI b) A) fun v3 I4 => gd (v3 = 0 ∨ v3 = 1) <| some (v3, I4)) fun v1 I2 => if v1 = 0 then (gd (v1 = 0 ∨ v1 = 1) <| some (v1, I2)) else (bd2 (f_X9_set_ (nI j) (I2 23 0) I2) fun v5 I6 => gd (v1 = 0 ∨ v1 = 1) <| some (v1, I6))) := by
  obtain ⟨hx, hm, hW⟩ := h.1
  have gj := qin_n hj (by decide)
  have cj := clampI (show j < 2 ^ 31 by omega)
  unfold f_X7_readTold
  rw [gd_t gj, gd_t gj, show qTab2.getD (nI j).toNatClampNeg 0 = nI a by rw [cj]; exact el, show qTab3.getD (nI j).toNatClampNeg 0 = nI b by rw [cj]; exact eh]
  rcases s_num hL ht h (nI a) (nI b) ((nle_i (b := 99) (by omega) (by decide)).mpr hb) (nI_pos' (by omega)) (i := 0) (by decide) with ⟨v0, I1, A1, x0, m0, b0, w0, -, -, -, t0, -, P1, fx1, fm1⟩ | ⟨I1, A1, P, x0, m0, pf, -, -, fx1, fm1⟩
  · obtain ⟨hx1, hm1, hW1⟩ := P1.1
    have f5 : I1 25 5 = 0 := P1.2.2.2.2.1
    have r0 := n_v (show b < 2 ^ 31 by omega) (show a < 2 ^ 31 by omega) (show v0 < 2 ^ 31 by omega) rfl rfl w0
    have es : f_X9_set_ (nI j) (nI v0) A1 = some (A1 0 (9 + j), qu A1 0 (9 + j) (nI v0)) := by
      rcases (show j = 0 ∨ j = 1 ∨ j = 2 ∨ j = 3 ∨ j = 4 by omega) with rfl | rfl | rfl | rfl | rfl <;> rfl
    rw [x0, show f_X9_number 0 (nI a) (nI b) A = _ from m0, bd2_s, bd2_s, gd_t (Or.inr rfl), bd2_s, if_neg (show ¬ (1 : Int32) = 0 by decide), f5, if_pos rfl, gd_t gj, lt_e, cj, t0, es, bd2_s, gd_t (Or.inr rfl)]
    have q1 := sq_ge t h.2.2.1
    refine Or.inl ⟨_, _, vu V 6 j v0, _, rfl, rfl, P1.put (hx1.told rfl) (hm1.told hj rfl) (hW1.told (hab v0 r0.1 r0.2)) (fun k i hk => by rw [qu_k (by omega)]) (fun k i hk => ?_), Nat.le_of_eq (vu_r (by decide)).symm, q1, fx1.tr (fun k i z1 z2 => by rw [qu_k (by omega)]), fm1.tr (fun k i z1 z2 => ?_)⟩
    · rw [qu_at]
      by_cases e : k = 0
      · rw [if_pos e, if_neg (by omega), e]
      · rw [if_neg e]
    · rw [qu_at]
      by_cases e : k = 0
      · rw [if_pos e, if_neg (by omega), e]
      · rw [if_neg e]
  · rw [x0, show f_X9_number 0 (nI a) (nI b) A = _ from m0, bd2_s, bd2_s, gd_t (Or.inl rfl), bd2_s, if_pos rfl, gd_t (Or.inl rfl), pf.2.1, if_neg (by decide)]
    exact Or.inr ⟨I1, A1, P, rfl, rfl, pf, fx1, fm1⟩
end ST
