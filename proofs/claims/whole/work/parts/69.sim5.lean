/-! Pure: calls that change the bank, side by side. -/
theorem e01 : ((0 : Int32) = 1) = False := eq_false (by decide)
theorem e02 : ((0 : Int32) = 2) = False := eq_false (by decide)
theorem e10 : ((1 : Int32) = 0) = False := eq_false (by decide)
theorem e12 : ((1 : Int32) = 2) = False := eq_false (by decide)
theorem e20 : ((2 : Int32) = 0) = False := eq_false (by decide)
theorem e21 : ((2 : Int32) = 1) = False := eq_false (by decide)
theorem n0i : nI 0 = 0 := rfl
theorem n1i : nI 1 = 1 := rfl
theorem n2i : nI 2 = 2 := rfl
theorem cg2 {α β γ : Type} (f : α → β → γ) {a a' : α} {b b' : β} (h : a = a') (h2 : b = b') : f a b = f a' b' := by
  subst h; subst h2; rfl
section S5
variable {t : qF} {I : qI} {J : qJ} {A : qI} {B : qJ} {V : qV} {Z : qW}
theorem qu_id (I : qI) (k i : Nat) : qu I k i (I k i) = I := by
  funext a j
  rw [qu_at]
  by_cases h : a = k
  · subst h
    rw [if_pos rfl]
    by_cases g : j = i
    · subst g; rw [if_pos rfl]
    · rw [if_neg g]
  · rw [if_neg h]
theorem s_give (h : Rel t I J A B) (p q r : Int32) : Sim t J B (f_X8_give p q r I) (f_X9_give p q r A) := by
  obtain ⟨V, Z, ⟨hx, hm, hW⟩, -⟩ := id h
  refine sim_pty hx hm hW p (fun k hk hk8 e => ?_) (sim_bad h)
  subst e
  have bad := sim_bad h
  have hq := qin_n hk8 (by decide)
  have hc := clampI (show k < 2 ^ 31 by omega)
  have up : ∀ i v : Nat, (i = 2 ∧ v ≤ 40) ∨ (i = 3 ∧ v ≤ 99) → Rel t (qu I (1 + 1 + i) k (nI v)) J (qu A (0 + 17 + i) k (nI v)) B := fun i v hi =>
    h.bank hx hW ⟨hx.up (by omega) rfl, hm.up (by omega) rfl, hW.small (by omega) (by omega)⟩ (Nat.le_of_eq (vu_r (by omega)).symm) (NX.rf.q (by omega)) (NM.rf.q (by omega)) FJ.rf
  rw [in_i (b := 0) (B := 0) (c := 1) (C := 1) rfl rfl, bd_b, if_b]
  by_cases c0 : q = 0
  · subst c0
    rw [if_pos rfl, decide_eq_true (by decide), if_pos rfl, if_pos rfl]
    unfold f_X9_give_29 f_X9_give_42
    rw [if_pos rfl]
    refine sim_in r 1 40 (a := 1) (b := 40) rfl rfl (by decide) (by decide) rfl rfl (fun v hv1 hv2 e => ?_) ?_
    · subst e
      unfold f_X9_give_75 f_X9_give_96 f_X9_give_117
      simp only [eq_self, if_true, if_false, e01, gd_t hq, lt_e, hc, qu_id]
      have a2 : A 19 k = nI (V 2 k) := hm.a (i := 2) (by decide) hk8
      rw [a2]
      exact ⟨_, _, _, congrArg (fun z => some (z, _)) (hx.a (i := 2) (by decide) hk8), rfl, up 2 v (Or.inl ⟨rfl, hv2⟩)⟩
    · unfold f_X8_give_57
      rw [if_neg (by decide)]
      exact bad
  · rw [if_neg c0]
    unfold f_X8_give_57
    by_cases c1 : q = 1
    · subst c1
      rw [if_pos rfl, decide_eq_true (by decide), if_pos rfl, if_neg (by decide)]
      unfold f_X9_give_29 f_X9_give_42
      rw [if_neg (by decide)]
      refine sim_in r 0 99 (a := 0) (b := 99) rfl rfl (by decide) (by decide) rfl rfl (fun v hv1 hv2 e => ?_) bad
      subst e
      unfold f_X9_give_75 f_X9_give_96 f_X9_give_117
      simp only [eq_self, if_true, if_false, e10, gd_t hq, lt_e, hc, qu_id]
      have a2 : A 20 k = nI (V 3 k) := hm.a (i := 3) (by decide) hk8
      rw [a2]
      exact ⟨_, _, _, congrArg (fun z => some (z, _)) (hx.a (i := 3) (by decide) hk8), rfl, up 3 v (Or.inr ⟨rfl, hv2⟩)⟩
    · rw [if_neg c1]
      have d : ¬ ((0 : Int32) ≤ q ∧ q ≤ 1) := fun z => by
        obtain ⟨j, -, hj, e⟩ := nI_btw (a := 0) (b := 1) (by decide) z (by decide)
        rcases (show j = 0 ∨ j = 1 by omega) with rfl | rfl
        · exact c0 e
        · exact c1 e
      rw [decide_eq_false d, if_neg (by decide)]
      exact bad
theorem s_seed (h : Rel t I J A B) (p : Int32) : Sim t J B (f_X8_seed p I) (f_X9_seed p A) := by
  obtain ⟨V, Z, ⟨hx, hm, hW⟩, -⟩ := id h
  unfold f_X8_seed f_X9_seed
  rw [lt_e, lt_e, hx.z (k := 12) (by decide) (by decide), hm.2.2.2.2.2.2]
  exact ⟨_, _, _, rfl, rfl, h.bank hx hW ⟨hx.zq (by decide) (by decide) rfl, hm.zq (by omega) rfl, hW⟩ (Nat.le_refl _) (NX.rf.q (by omega)) (NM.rf.f (by omega)) FJ.rf⟩
theorem x_rowOver (b : Nat) (hx : XV I b V Z) (g : Nat) (c : Int32) : ∃ I', f_X2_rowOver b (nI g) c I = some I' ∧ XV I' b (vu V 8 0 (V 8 0 ||| g)) (zu (zu (zu Z 11 (Z 11 + 1)) 10 (Z 10 + c * nI (V 6 4))) 9 (Z 9 + 20)) ∧ (∀ k j, k ≠ b → I' k j = I k j) := by
  have h1 := hx.ov (x := I b 8 ||| nI g) (v := V 8 0 ||| g) (by rw [hx.2.2.1.2, or_nI])
  have h2 := h1.zq (k := 11) (x := qu I b 8 (I b 8 ||| nI g) b 11 + 1) (y := Z 11 + 1) (by decide) (by decide) (by rw [h1.z (by decide) (by decide)])
  have h3 := h2.zq (k := 10) (by decide) (by decide) (cg2 (fun a d => a + c * d) ((h2.z (k := 10) (by decide) (by decide)).trans (zu_o (by decide))) ((h2.2.1 4 (by decide)).trans (congrArg nI (vu_r (by decide)))))
  have h4 := h3.zq (k := 9) (by decide) (by decide) (congrArg (fun a => a + (20 : Int32)) ((h3.z (k := 9) (by decide) (by decide)).trans ((zu_o (by decide)).trans (zu_o (by decide)))))
  exact ⟨_, rfl, h4, fun k j hk => by rw [qu_k hk, qu_k hk, qu_k hk, qu_k hk]⟩
theorem m_crosses (hm : MV A 0 V Z) (g : Nat) (c : Int32) : ∃ A', f_X9_crosses (nI g) c A = some A' ∧ MV A' 0 (vu V 8 0 (V 8 0 ||| g)) (zu (zu (zu Z 11 (Z 11 + 1)) 10 (Z 10 + c * nI (V 6 4))) 9 (Z 9 + 20)) ∧ NM A A' := by
  have h1 := hm.ov (x := A 0 18 ||| nI g) (v := V 8 0 ||| g) (by rw [hm.2.2.1.2, or_nI])
  have h2 := h1.zq (k := 11) (f := 16) (x := qu A 0 18 (A 0 18 ||| nI g) 0 16 + 1) (y := Z 11 + 1) (by omega) (by rw [h1.2.2.2.2.2.1])
  have h3 := h2.zq (k := 10) (f := 15) (by omega) (cg2 (fun a d => a + c * d) (h2.2.2.2.2.1.trans (zu_o (by decide))) ((h2.2.1 4 (by decide)).trans (congrArg nI (vu_r (by decide)))))
  have h4 := h3.zq (k := 9) (f := 14) (by omega) (congrArg (fun a => a + (20 : Int32)) (h3.2.2.2.1.trans ((zu_o (by decide)).trans (zu_o (by decide)))))
  exact ⟨_, rfl, h4, (((NM.rf.f (by omega)).f (by omega)).f (by omega)).f (by omega)⟩
theorem NX.one {I I' : qI} (h : ∀ k j, k ≠ 1 → I' k j = I k j) : NX I I' := fun k j q => h k j (by omega)
theorem s_cross (h : Rel t I J A B) (p : Int32) : Sim t J B (f_X8_cross p I) (f_X9_cross p A) := by
  obtain ⟨V, Z, ⟨hx, hm, hW⟩, -⟩ := id h
  refine sim_grp hx hm hW p (fun g hg hg2 e => ?_) (sim_bad h)
  rw [e, x_hireNow hx hW (by omega), m_hireOf hm hW (by omega), bd_s, bd_s]
  split
  · exact sim_stuck h
  · obtain ⟨I', e1, x1, n1⟩ := x_rowOver 1 hx g (oI (sHire V g (V 8 0) (V 6 3)))
    obtain ⟨A', e2, x2, n2⟩ := m_crosses hm g (oI (sHire V g (V 8 0) (V 6 3)))
    rw [e1, e2]
    exact ⟨_, _, _, rfl, rfl, h.bank hx hW ⟨x1, x2, hW.over (Nat.or_lt_two_pow hW.1.2 hg)⟩ (Nat.le_refl _) (NX.one n1) n2 FJ.rf⟩
/-- a bit taken out of a number -/
theorem del_nI {x p : Nat} (hx : x < 256) (hp : p < 8) : nI x &&& (((1 : Int32) <<< (nI p &&& (31 : Int32))) ^^^ (-1 : Int32)) = nI (x &&& (2 ^ p ^^^ 255)) := by
  rw [one_shl (by omega), m1_nI, xor_nI, and_nI]
  congr 1
  apply Nat.eq_of_testBit_eq
  intro i
  rw [show (255 : Nat) = 2 ^ 8 - 1 from rfl]
  simp only [Nat.testBit_and, Nat.testBit_xor, Nat.testBit_two_pow_sub_one]
  by_cases hi : i < 8
  · rw [decide_eq_true hi, decide_eq_true (show i < 32 by omega)]
  · have : x.testBit i = false := Nat.testBit_lt_two_pow (Nat.lt_of_lt_of_le (show x < 2 ^ 8 from hx) (Nat.pow_le_pow_right (by decide) (by omega)))
    rw [this]; rfl
theorem x_rowBack (b : Nat) (hx : XV I b V Z) (hW : WF V) {p : Nat} (hp : p < 8) : ∃ I', f_X2_rowBack b (nI p) I = some I' ∧ XV I' b (vu V 8 0 (V 8 0 &&& (2 ^ p ^^^ 255))) (zu Z 9 (Z 9 + 20)) ∧ (∀ k j, k ≠ b → I' k j = I k j) := by
  have h1 := hx.ov (x := I b 8 &&& (((1 : Int32) <<< (nI p &&& (31 : Int32))) ^^^ (-1 : Int32))) (v := V 8 0 &&& (2 ^ p ^^^ 255)) (by rw [hx.2.2.1.2, del_nI (ov_lt hW) hp])
  have h4 := h1.zq (k := 9) (by decide) (by decide) (congrArg (fun a => a + (20 : Int32)) (h1.z (k := 9) (by decide) (by decide)))
  exact ⟨_, rfl, h4, fun k j hk => by rw [qu_k hk, qu_k hk]⟩
theorem m_goesBack (hm : MV A 0 V Z) (hW : WF V) {p : Nat} (hp : p < 8) : ∃ A', f_X9_goesBack (nI p) A = some A' ∧ MV A' 0 (vu V 8 0 (V 8 0 &&& (2 ^ p ^^^ 255))) (zu Z 9 (Z 9 + 20)) ∧ NM A A' := by
  have h1 := hm.ov (x := A 0 18 &&& (((1 : Int32) <<< (nI p &&& (31 : Int32))) ^^^ (-1 : Int32))) (v := V 8 0 &&& (2 ^ p ^^^ 255)) (by rw [hm.2.2.1.2, del_nI (ov_lt hW) hp])
  have h4 := h1.zq (k := 9) (f := 14) (by omega) (congrArg (fun a => a + (20 : Int32)) h1.2.2.2.1)
  exact ⟨_, rfl, h4, (NM.rf.f (by omega)).f (by omega)⟩
theorem s_comesBack (h : Rel t I J A B) (p : Int32) : Sim t J B (f_X8_comesBack p I) (f_X9_comesBack p A) := by
  obtain ⟨V, Z, ⟨hx, hm, hW⟩, -⟩ := id h
  refine sim_pty hx hm hW p (fun k hk hk8 e => ?_) (sim_bad h)
  subst e
  rw [x_isOver hx hW hk8, m_isOver hm hW hk8, bd_b, bd_b, if_b, if_b]
  split
  · obtain ⟨I', e1, x1, n1⟩ := x_rowBack 1 hx hW hk8
    obtain ⟨A', e2, x2, n2⟩ := m_goesBack hm hW hk8
    rw [e1, e2, bd_s, bd_s, x1.z (k := 9) (by decide) (by decide), x2.2.2.2.1]
    exact ⟨_, _, _, rfl, rfl, h.bank hx hW ⟨x1, x2, hW.over (Nat.lt_of_le_of_lt Nat.and_le_left hW.1.2)⟩ (Nat.le_refl _) (NX.one n1) n2 FJ.rf⟩
  · exact sim_stuck h
/-- one draw -/
def sDr (z : Int32) : Int32 := z * (1103515245 : Int32) + (12345 : Int32)
def sDv (z : Int32) (n : Nat) : Nat := (z.toUInt32.toNat / 65536) % n
theorem ushr16 (z : Int32) : (z.toUInt32 >>> (((16 : Int32)).toUInt32 &&& Int32.toUInt32 31)).toInt32 = nI (z.toUInt32.toNat / 65536) := by
  have e : (((16 : Int32)).toUInt32 &&& Int32.toUInt32 31) = 16 := by decide
  rw [e]
  have h : z.toUInt32 >>> (16 : UInt32) = UInt32.ofNat (z.toUInt32.toNat / 65536) := by
    apply UInt32.toNat_inj.mp
    have hz := z.toUInt32.toNat_lt
    rw [UInt32.toNat_shiftRight, show (16 : UInt32).toNat % 32 = 16 from by decide, Nat.shiftRight_eq_div_pow, UInt32.toNat_ofNat', Nat.mod_eq_of_lt (by omega)]
  rw [h]
  rfl
theorem drv {z : Int32} {n : Nat} (h0 : 0 < n) (hn : n ≤ 8) : (z.toUInt32 >>> (((16 : Int32)).toUInt32 &&& Int32.toUInt32 31)).toInt32 - (z.toUInt32 >>> (((16 : Int32)).toUInt32 &&& Int32.toUInt32 31)).toInt32 / nI n * nI n = nI (sDv z n) := by
  have hz : z.toUInt32.toNat < 2 ^ 32 := z.toUInt32.toNat_lt
  rw [ushr16, rem_nI (by omega) h0 (by omega)]
  rfl
theorem x_draw (hx : XV I 1 V Z) {n : Nat} (h0 : 0 < n) (hn : n ≤ 8) : ∃ I', f_X2_draw 1 (nI n) I = some (nI (sDv (sDr (Z 12)) n), I') ∧ XV I' 1 V (zu Z 12 (sDr (Z 12))) ∧ (∀ k j, k ≠ 1 → I' k j = I k j) := by
  have h1 := hx.zq (k := 12) (x := I 1 12 * (1103515245 : Int32) + (12345 : Int32)) (y := sDr (Z 12)) (by decide) (by decide) (by rw [hx.z (by decide) (by decide)]; rfl)
  refine ⟨_, ?_, h1, fun k j hk => by rw [qu_k hk]⟩
  have hp : ¬ nI n ≤ 0 := fun q => by
    have := (nle_i (b := 0) (by omega) (by decide)).mp q
    omega
  unfold f_X2_draw
  rw [lt_e, if_neg hp, gd_t (show ¬ nI n = 0 from fun q => hp (by rw [q]; exact Int32.le_refl _)), h1.z (by decide) (by decide), zu_s, drv h0 hn]
theorem m_below (hm : MV A 0 V Z) {n : Nat} (h0 : 0 < n) (hn : n ≤ 8) : ∃ A', f_X9_below (nI n) A = some (nI (sDv (sDr (Z 12)) n), A') ∧ MV A' 0 V (zu Z 12 (sDr (Z 12))) ∧ NM A A' := by
  have h1 := hm.zq (k := 12) (f := 25) (x := A 0 25 * (1103515245 : Int32) + (12345 : Int32)) (y := sDr (Z 12)) (by omega) (by rw [hm.2.2.2.2.2.2]; rfl)
  refine ⟨_, ?_, h1, NM.rf.f (by omega)⟩
  have hp : ¬ nI n = 0 := fun q => by
    have := (nI_z (by omega)).mp q
    omega
  unfold f_X9_below
  rw [lt_e, gd_t hp, h1.2.2.2.2.2.2, zu_s, drv h0 hn]
theorem bor {g k : Nat} (hg : g < 256) (hk : k < 8) : g ||| 2 ^ k < 256 := Nat.or_lt_two_pow (n := 8) hg (Nat.pow_lt_pow_right (by decide) hk)
theorem s_day (h : Rel t I J A B) (h0 : ¬ I 1 7 = 0) : ∃ r I' A', (r = 0 ∨ r = (1 : Int32)) ∧ f_X2_passDay 1 I = some (r, I') ∧ f_X9_goesDay A = some (r, A') ∧ Rel t I' J A' B ∧ I' 1 7 = I 1 7 := by
  obtain ⟨V, Z, ⟨hx, hm, hW⟩, -⟩ := id h
  have hn := hW.n
  have e7 : 0 < V 7 0 := by
    refine Nat.pos_of_ne_zero fun q => h0 ?_
    rw [hx.2.2.1.1, q]
    rfl
  have fin : ∀ (x : Int32) (I1 A1 : qI) (V1 : qV) (Z1 : qW), XV I1 1 V1 Z1 → MV A1 0 V1 Z1 → WF V1 → V1 7 0 = V 7 0 → NX I I1 → NM A A1 → ∃ r I' A', (r = 0 ∨ r = (1 : Int32)) ∧ f_X2_passDay_83 1 x I1 = some (r, I') ∧ f_X9_goesDay_87 x A1 = some (r, A') ∧ Rel t I' J A' B ∧ I' 1 7 = I 1 7 := by
    intro x I1 A1 V1 Z1 hx1 hm1 hW1 e1 n1 n2
    have x2 := hx1.zq (k := 9) (x := I1 1 9 + 60) (y := Z1 9 + 60) (by decide) (by decide) (by rw [hx1.z (by decide) (by decide)])
    have m2 := hm1.zq (k := 9) (f := 14) (x := A1 0 14 + 60) (y := Z1 9 + 60) (by omega) (by rw [hm1.2.2.2.1])
    have r2 : Rel t (qu I1 1 9 (I1 1 9 + 60)) J (qu A1 0 14 (A1 0 14 + 60)) B := h.bank hx hW ⟨x2, m2, hW1⟩ (by omega) (n1.q (by omega)) (n2.f (by omega)) FJ.rf
    have e3 : qu I1 1 9 (I1 1 9 + 60) 1 7 = I 1 7 := by rw [x2.2.2.1.1, e1, hx.2.2.1.1]
    unfold f_X2_passDay_83 f_X9_goesDay_87
    rw [lt_e, lt_e]
    split
    · exact ⟨_, _, _, Or.inl rfl, rfl, rfl, r2, e3⟩
    · exact ⟨_, _, _, Or.inr rfl, rfl, rfl, r2, e3⟩
  have loop : ∀ f k, k ≤ V 7 0 → V 7 0 - k < f → ∀ (g : Nat) (I1 A1 : qI) (Z1 : qW), g < 2 ^ V 7 0 → XV I1 1 V Z1 → MV A1 0 V Z1 → NX I I1 → NM A A1 → ∃ r I' A', (r = 0 ∨ r = (1 : Int32)) ∧ f_X2_passDay_4 1 f (nI g) (nI k) I1 = some (r, I') ∧ f_X9_goesDay_4 f (nI g) (nI k) A1 = some (r, A') ∧ Rel t I' J A' B ∧ I' 1 7 = I 1 7 := by
    intro f
    induction f with
    | zero => intro k _ h; omega
    | succ f ih =>
      intro k hk hf g I1 A1 Z1 hg hx1 hm1 n1 n2
      have ha := hW.all
      rw [f_X2_passDay_4, f_X9_goesDay_4, hx1.2.2.1.1, hm1.2.2.1.1, stopN hn hk, stopN hn hk]
      by_cases q : k = V 7 0
      · rw [if_pos q, if_pos q, x_hireNow hx1 hW (by omega), m_hireOf hm1 hW (by omega), bd_s, bd_s]
        split
        · obtain ⟨I2, d1, d2, d3⟩ := x_draw hx1 e7 hn
          obtain ⟨A2, b1, b2, b3⟩ := m_below hm1 e7 hn
          have hv : sDv (sDr (Z1 12)) (V 7 0) < 8 := Nat.lt_of_lt_of_le (Nat.mod_lt _ e7) hn
          rw [d1, b1, bd2_s, bd2_s, x_isOver d2 hW hv, m_isOver b2 hW hv, bd_b, bd_b, if_b, if_b]
          split
          · obtain ⟨I3, u1, u2, u3⟩ := x_rowBack 1 d2 hW hv
            obtain ⟨A3, w1, w2, w3⟩ := m_goesBack b2 hW hv
            rw [u1, w1, bd_s, bd_s]
            exact fin _ _ _ _ _ u2 w2 (hW.over (Nat.lt_of_le_of_lt Nat.and_le_left hW.1.2)) rfl (n1.tr ((NX.one d3).tr (NX.one u3))) (n2.tr (b3.tr w3))
          · exact fin _ _ _ _ _ d2 b2 hW rfl (n1.tr (NX.one d3)) (n2.tr b3)
        · obtain ⟨I3, u1, u2, u3⟩ := x_rowOver 1 hx1 g (oI (sHire V g (V 8 0) (V 6 3)))
          obtain ⟨A3, w1, w2, w3⟩ := m_crosses hm1 g (oI (sHire V g (V 8 0) (V 6 3)))
          rw [u1, w1, bd_s, bd_s]
          exact fin _ _ _ _ _ u2 w2 (hW.over (Nat.or_lt_two_pow hW.1.2 hg)) rfl (n1.tr (NX.one u3)) (n2.tr w3)
      · have ih := ih (k + 1) (by omega) (by omega)
        have hk8 : k < 8 := by omega
        rw [if_neg q, if_neg q, x_isOver hx1 hW hk8, m_isOver hm1 hW hk8, bd_b, bd_b, if_b, if_b, nI_1]
        split
        · exact ih _ _ _ _ hg hx1 hm1 n1 n2
        · obtain ⟨I2, d1, d2, d3⟩ := x_draw hx1 (n := 2) (by decide) (by decide)
          obtain ⟨A2, b1, b2, b3⟩ := m_below hm1 (n := 2) (by decide) (by decide)
          rw [show (2 : Int32) = nI 2 from rfl, d1, b1, bd2_s, bd2_s, one_shl (by omega), or_nI, Int32.or_zero]
          split
          · exact ih _ _ _ _ (Nat.or_lt_two_pow hg (Nat.pow_lt_pow_right (by decide) (by omega))) d2 b2 (n1.tr (NX.one d3)) (n2.tr b3)
          · exact ih _ _ _ _ hg d2 b2 (n1.tr (NX.one d3)) (n2.tr b3)
  exact loop 1000 0 (Nat.zero_le _) (by omega) 0 I A Z (Nat.pow_pos (by decide)) hx hm NX.rf NM.rf
theorem s_days (h : Rel t I J A B) (p : Int32) : Sim t J B (f_X8_days p I) (f_X9_days p A) := by
  obtain ⟨V, Z, ⟨hx, hm, hW⟩, -⟩ := id h
  have hn := hW.n
  refine sim_in p 1 60 (a := 1) (b := 60) rfl rfl (by decide) (by decide) rfl rfl (fun g _ hg e => ?_) (sim_bad h)
  subst e
  rw [hm.2.2.1.1, ← hx.2.2.1.1]
  by_cases c : I 1 7 = 0
  · rw [if_pos c, if_pos c]; exact sim_stuck h
  · rw [if_neg c, if_neg c]
    have loop : ∀ f k, k ≤ g → g - k < f → ∀ (w : Int32) (I1 A1 : qI), Rel t I1 J A1 B → ¬ I1 1 7 = 0 → Sim t J B (f_X8_days_40 f (nI g) w (nI k) I1) (f_X9_days_39 f (nI g) w (nI k) A1) := by
      intro f
      induction f with
      | zero => intro k _ h; omega
      | succ f ih =>
        intro k hk hf w I1 A1 h1 c1
        rw [f_X8_days_40, f_X9_days_39]
        by_cases q : k = g
        · subst q
          rw [if_pos (nI_le (Nat.le_refl _) (by omega)), if_pos (nI_le (Nat.le_refl _) (by omega))]
          exact sim_same h1 _
        · have ih := ih (k + 1) (by omega) (by omega)
          obtain ⟨r, I2, A2, hr, e1, e2, h2, c2⟩ := s_day h1 c1
          have nq : ¬ nI g ≤ nI k := nI_ge (by omega) (by omega)
          rw [if_neg nq, if_neg nq, e1, e2, bd2_s, bd2_s, nI_1]
          rw [← c2] at c1
          rcases hr with rfl | rfl
          · rw [if_pos rfl, if_pos rfl, Int32.add_zero]
            exact ih _ _ _ h2 c1
          · rw [if_neg (by decide), if_neg (by decide)]
            exact ih _ _ _ h2 c1
    exact loop 1000 0 (Nat.zero_le _) (by omega) _ _ _ h c
theorem s_partyOf (h : Rel t I J A B) (p q : Int32) : Sim t J B (f_X8_partyOf p q I) (f_X9_partyOf p q A) := by
  obtain ⟨V, Z, ⟨hx, hm, hW⟩, -⟩ := id h
  refine sim_pty hx hm hW p (fun k hk hk8 e => ?_) (sim_bad h)
  subst e
  have hq := qin_n hk8 (by decide)
  have hc := clampI (show k < 2 ^ 31 by omega)
  rw [in_i (b := 0) (B := 0) (c := 7) (C := 7) rfl rfl, bd_b, if_b]
  by_cases d : (0 : Int32) ≤ q ∧ q ≤ 7
  · rw [decide_eq_true d, if_pos rfl]
    obtain ⟨j, -, hj, e⟩ := nI_btw (a := 0) (b := 7) (by decide) d (by decide)
    subst e
    have key : ∀ i, i < 6 → Sim t J B (some (I (1 + 1 + i) k, I)) (some (A (0 + 17 + i) k, A)) := fun i hi => by
      rw [hx.a hi hk8, hm.a hi hk8]
      exact sim_same h _
    rcases (show j = 0 ∨ j = 1 ∨ j = 2 ∨ j = 3 ∨ j = 4 ∨ j = 5 ∨ j = 6 ∨ j = 7 by omega) with rfl | rfl | rfl | rfl | rfl | rfl | rfl | rfl
    · change Sim t J B (gd (qin (nI k) 8) (some (I (1 + 1) (nI k).toNatClampNeg, I))) (gd (qin (nI k) 8) (some (A 17 (nI k).toNatClampNeg, A)))
      rw [gd_t hq, gd_t hq, hc]; exact key 0 (by decide)
    · change Sim t J B (gd (qin (nI k) 8) (some (I (1 + 2) (nI k).toNatClampNeg, I))) (gd (qin (nI k) 8) (some (A 18 (nI k).toNatClampNeg, A)))
      rw [gd_t hq, gd_t hq, hc]; exact key 1 (by decide)
    · change Sim t J B (gd (qin (nI k) 8) (some (I (1 + 3) (nI k).toNatClampNeg, I))) (gd (qin (nI k) 8) (some (A 19 (nI k).toNatClampNeg, A)))
      rw [gd_t hq, gd_t hq, hc]; exact key 2 (by decide)
    · change Sim t J B (gd (qin (nI k) 8) (some (I (1 + 4) (nI k).toNatClampNeg, I))) (gd (qin (nI k) 8) (some (A 20 (nI k).toNatClampNeg, A)))
      rw [gd_t hq, gd_t hq, hc]; exact key 3 (by decide)
    · change Sim t J B (bd (f_X2_headsOf 1 (nI k) I) fun v => some (v, I)) (bd (f_X9_headsOf (nI k) A) fun v => some (v, A))
      rw [x_headsOf hx hW hk8, m_headsOf hm hW hk8]; exact sim_same h _
    · change Sim t J B (bd (f_X2_isOver 1 (nI k) I) fun v => if v = 0 then some ((0 : Int32), I) else some ((1 : Int32), I)) (bd (f_X9_isOver (nI k) A) fun v => if v = 0 then some ((0 : Int32), A) else some ((1 : Int32), A))
      rw [x_isOver hx hW hk8, m_isOver hm hW hk8, bd_b, bd_b, if_b, if_b]
      split
      · exact sim_same h _
      · exact sim_same h _
    · change Sim t J B (gd (qin (nI k) 8) (some (I (1 + 5) (nI k).toNatClampNeg, I))) (gd (qin (nI k) 8) (some (A 21 (nI k).toNatClampNeg, A)))
      rw [gd_t hq, gd_t hq, hc]; exact key 4 (by decide)
    · change Sim t J B (gd (qin (nI k) 8) (some (I (1 + 6) (nI k).toNatClampNeg, I))) (gd (qin (nI k) 8) (some (A 22 (nI k).toNatClampNeg, A)))
      rw [gd_t hq, gd_t hq, hc]; exact key 5 (by decide)
  · have ne : ∀ j : Nat, j ≤ 7 → ¬ q = nI j := fun j hj z => d ⟨by rw [z]; exact nI_pos' (by omega), by rw [z]; exact (nle_i (b := 7) (by omega) (by decide)).mpr hj⟩
    rw [decide_eq_false d, if_neg (show ¬ (false = true) by decide), if_neg (show ¬ q = (0 : Int32) from ne 0 (by decide)), if_neg (show ¬ q = (1 : Int32) from ne 1 (by decide)), if_neg (show ¬ q = (2 : Int32) from ne 2 (by decide)), if_neg (show ¬ q = (3 : Int32) from ne 3 (by decide)), if_neg (show ¬ q = (4 : Int32) from ne 4 (by decide)), if_neg (show ¬ q = (5 : Int32) from ne 5 (by decide)), if_neg (show ¬ q = (6 : Int32) from ne 6 (by decide)), if_neg (show ¬ q = (7 : Int32) from ne 7 (by decide))]
    exact sim_bad h
theorem s_tell (h : Rel t I J A B) (p q : Int32) : Sim t J B (f_X8_tell p q I) (f_X9_tell p q A) := by
  obtain ⟨V, Z, ⟨hx, hm, hW⟩, -⟩ := id h
  refine sim_in p 0 4 (a := 0) (b := 4) rfl rfl (by decide) (by decide) rfl rfl (fun j _ hj e => ?_) (sim_bad h)
  subst e
  have key : ∀ (j v : Nat), j < 5 → (j = 0 → 1 ≤ v ∧ v ≤ 99) ∧ (j = 1 → v < 4) ∧ (j = 2 → v < 4) ∧ (j = 3 → v ≤ 9) ∧ (j = 4 → v ≤ 9) → Sim t J B (some (I (1 + 7) j, qu I (1 + 7) j (nI v))) (some (A 0 (9 + j), qu A 0 (9 + j) (nI v))) := fun j v h5 hv => by
    rw [hx.2.1 j h5, hm.2.1 j h5]
    exact ⟨_, _, _, rfl, rfl, h.bank hx hW ⟨hx.told rfl, hm.told h5 rfl, hW.told hv⟩ (Nat.le_refl _) (NX.rf.q (by omega)) (NM.rf.f (by omega)) FJ.rf⟩
  have bad := sim_bad h
  rcases (show j = 0 ∨ j = 1 ∨ j = 2 ∨ j = 3 ∨ j = 4 by omega) with rfl | rfl | rfl | rfl | rfl
  · exact sim_in q 1 99 (a := 1) (b := 99) rfl rfl (by decide) (by decide) rfl rfl (fun v h1 h2 e => by subst e; exact key 0 v (by decide) (by omega)) bad
  · exact sim_in q 0 3 (a := 0) (b := 3) rfl rfl (by decide) (by decide) rfl rfl (fun v h1 h2 e => by subst e; exact key 1 v (by decide) (by omega)) bad
  · exact sim_in q 0 3 (a := 0) (b := 3) rfl rfl (by decide) (by decide) rfl rfl (fun v h1 h2 e => by subst e; exact key 2 v (by decide) (by omega)) bad
  · exact sim_in q 0 9 (a := 0) (b := 9) rfl rfl (by decide) (by decide) rfl rfl (fun v h1 h2 e => by subst e; exact key 3 v (by decide) (by omega)) bad
  · exact sim_in q 0 9 (a := 0) (b := 9) rfl rfl (by decide) (by decide) rfl rfl (fun v h1 h2 e => by subst e; exact key 4 v (by decide) (by omega)) bad
end S5
