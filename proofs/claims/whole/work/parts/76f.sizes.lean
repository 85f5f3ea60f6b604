/-! Pure: sizes, fit. -/
section SZ
variable {t : qF} {I : qI} {J : qJ} {A : qI} {B : qJ} {V : qV} {Z : qW}
noncomputable def sat (V : qV) (x : Nat) : Bool := (sPl (vu V 6 0 x)).isSome
theorem seatW (hW : WF V) {x : Nat} (h1 : 1 ≤ x) (h2 : x ≤ 99) : WF (vu V 6 0 x) := hW.told (by omega)
theorem x_sizes (hx : XV I 1 V Z) (hW : WF V) : ∀ f lo hi c, 1 ≤ lo → lo ≤ hi → hi ≤ 99 → sat V hi = true → (∀ x, 1 ≤ x → x < lo → sat V x = false) → c + (hi - lo) ≤ 98 → 99 - c < f → ∀ I1, DX I I1 → ∃ I' r, f_X8_sizes_26 f (nI lo) (nI hi) (nI c) I1 = some (nI r, I') ∧ DX I I' ∧ 1 ≤ r ∧ r ≤ 99 ∧ sat V r = true ∧ (∀ x, 1 ≤ x → x < r → sat V x = false) := by
  intro f
  induction f with
  | zero => intro lo hi c _ _ _ _ _ _ h; omega
  | succ f ih =>
    intro lo hi c h1 h2 h3 h4 h5 h6 h7 I1 d1
    rw [f_X8_sizes_26, if_d (show (99 : Int32) ≤ nI c ↔ 99 ≤ c from nle_i (a := 99) (by decide) (by omega)), if_neg (by omega), if_d (nle_i (show hi < 2 ^ 31 by omega) (show lo < 2 ^ 31 by omega))]
    by_cases q : hi ≤ lo
    · rw [if_pos q]
      have e : lo = hi := by omega
      subst e
      exact ⟨I1, lo, rfl, d1, h1, h3, h4, h5⟩
    · rw [if_neg q, add_nI, half_nI (by omega)]
      have m1 : 1 ≤ (lo + hi) / 2 := by omega
      have m2 : (lo + hi) / 2 ≤ 99 := by omega
      obtain ⟨I2, e1, d2, -, p2, -⟩ := x_planIf (d1.xv (by decide) hx) (k := 0) (v := (lo + hi) / 2) (by decide) (seatW hW m1 m2)
      have e1 : f_X8_planIf 0 (nI ((lo + hi) / 2)) I1 = some I2 := e1
      have p2 : f_X5_found I2 = some (b2i (sat V ((lo + hi) / 2))) := p2
      rw [e1, bd_s, p2, bd_b, if_b, nI_1, nI_1]
      cases s : sat V ((lo + hi) / 2) with
      | true =>
        rw [if_pos rfl]
        exact ih lo ((lo + hi) / 2) (c + 1) h1 (by omega) m2 s h5 (by omega) (by omega) I2 (d1.tr d2)
      | false =>
        rw [if_neg (by decide)]
        refine ih ((lo + hi) / 2 + 1) hi (c + 1) (by omega) (by omega) h3 h4 (fun x x1 x2 => ?_) (by omega) (by omega) I2 (d1.tr d2)
        cases sx : sat V x with
        | false => rfl
        | true =>
          have := sPl_seats (seatW hW x1 (by omega)) (seatW hW m1 m2) (show x ≤ (lo + hi) / 2 by omega) sx
          have s' : (sPl (vu V 6 0 ((lo + hi) / 2))).isSome = false := s
          rw [s'] at this
          cases this
theorem m_sizes (hm : MV A 0 V Z) (hW : WF V) (r : Nat) (hr : r ≤ 100) (hl : ∀ x, 1 ≤ x → x < r → sat V x = false) (hs : r ≤ 99 → sat V r = true) : ∀ f k, 1 ≤ k → k ≤ r → 101 - k < f → ∀ A1, MX 9 A A1 → ∃ A', f_X9_sizes_9 f (A 0 9) (-1) (nI k) A1 = some ((if r ≤ 99 then nI r else -1), A') ∧ FM A A' := by
  intro f
  induction f with
  | zero => intro k _ _ h; omega
  | succ f ih =>
    intro k h1 h2 hf A1 f1
    rw [f_X9_sizes_9, if_d (show (99 : Int32) < nI k ↔ 99 < k from nlt_i (a := 99) (by decide) (by omega))]
    by_cases q : 99 < k
    · rw [if_pos q, f_X9_sizes_45, lt_e, if_neg (by omega)]
      exact ⟨_, rfl, f1.back⟩
    · rw [if_neg q, if_pos rfl, lt_e]
      have Wk := seatW hW h1 (show k ≤ 99 by omega)
      obtain ⟨A2, g1, f2⟩ := m_with hm (i := 0) (x := k) (by decide) Wk f1
      have g1 : f_X9_findPlan (qu A1 0 9 (nI k)) = _ := g1
      rw [g1, bd2_s, nI_1]
      by_cases e : k = r
      · subst e
        have hs := hs (by omega)
        unfold sat at hs
        cases c : sPl (vu V 6 0 k) with
        | none => rw [c] at hs; cases hs
        | some z =>
          have z1 := sPl_le Wk c
          obtain ⟨f', rfl⟩ : ∃ g, f = g + 1 := ⟨f - 1, by omega⟩
          rw [show oI (some z) = nI z from rfl, if_neg (nI_ne_m1 (show z < 2 ^ 31 by omega)), f_X9_sizes_9, if_neg (nI_ne_m1 (show k < 2 ^ 31 by omega)), ite_self, f_X9_sizes_45, lt_e, if_pos (by omega)]
          exact ⟨_, rfl, f2.back⟩
      · have hn := hl k h1 (by omega)
        unfold sat at hn
        cases c : sPl (vu V 6 0 k) with
        | some z => rw [c] at hn; cases hn
        | none =>
          rw [show oI none = (-1 : Int32) from rfl, if_pos rfl]
          exact ih (k + 1) (by omega) (by omega) (by omega) A2 f2
theorem s_sizes (h : Rel t I J A B) : Sim t J B (f_X8_sizes I) (f_X9_sizes A) := by
  obtain ⟨V, Z, ⟨hx, hm, hW⟩, -⟩ := id h
  obtain ⟨I1, e1, d1, -, p2, -⟩ := x_planIf hx (k := 0) (v := 99) (by decide) (seatW hW (by decide) (by decide))
  have e1 : f_X8_planIf 0 99 I = some I1 := e1
  have p2 : f_X5_found I1 = some (b2i (sat V 99)) := p2
  unfold f_X8_sizes f_X9_sizes
  rw [e1, bd_s, p2, bd_b, if_b]
  cases s : sat V 99 with
  | false =>
    rw [if_neg (by decide)]
    obtain ⟨A', g, f⟩ := m_sizes hm hW 100 (by decide) (fun x x1 x2 => by
      cases sx : sat V x with
      | false => rfl
      | true =>
        have := sPl_seats (seatW hW x1 (by omega)) (seatW hW (by decide) (by decide)) (show x ≤ 99 by omega) sx
        have s' : (sPl (vu V 6 0 99)).isSome = false := s
        rw [s'] at this
        cases this) (fun z => by omega) 1000 1 (by decide) (by decide) (by decide) A MX.rf
    rw [if_neg (by decide)] at g
    exact ⟨_, _, _, rfl, g, h.fr d1.fx f FJ.rf⟩
  | true =>
    rw [if_pos rfl]
    obtain ⟨I2, r, e2, d2, r1, r2, r3, r4⟩ := x_sizes hx hW 1000 1 99 0 (by decide) (by decide) (by decide) s (fun x x1 x2 => by omega) (by decide) (by decide) I1 d1
    obtain ⟨A', g, f⟩ := m_sizes hm hW r (by omega) r4 (fun _ => r3) 1000 1 (by decide) r1 (by decide) A MX.rf
    rw [if_pos r2] at g
    exact ⟨_, _, _, e2, g, h.fr d2.fx f FJ.rf⟩
/-- the least size that goes -/
def sF (g : Nat → Bool) : Nat → Nat → Option Nat
  | 0, _ => none
  | j + 1, s => if g s = true then some s else sF g j (s + 1)
theorem sF_none {g : Nat → Bool} (h : ∀ s, g s = false) : ∀ j s, sF g j s = none := by
  intro j
  induction j with
  | zero => intro s; rfl
  | succ j ih => intro s; rw [sF, h, if_neg (by decide)]; exact ih _
theorem sSum_one {f : Nat → Nat} {p : Nat} : ∀ n, sSum f (2 ^ p) n = if p < n then f p else 0 := by
  intro n
  induction n with
  | zero => rfl
  | succ n ih =>
    rw [sSum, ih, Nat.testBit_two_pow]
    by_cases e : p = n
    · subst e; rw [if_neg (by omega), decide_eq_true rfl, if_pos rfl, if_pos (by omega), Nat.zero_add]
    · rw [decide_eq_false e, if_neg (show ¬ (false = true) by decide), Nat.add_zero]
      by_cases l : p < n
      · rw [if_pos l, if_pos (by omega)]
      · rw [if_neg l, if_neg (by omega)]
theorem sHeadsIf_le2 (hW : WF V) {p c : Nat} (hp : p < 8) (hc : c ≤ 40) : sHeadsIf V p c ≤ 50 := by
  have := sHeadsIf_le hW (c := c) hp
  omega
def gF (V : qV) (p s : Nat) : Bool := sAg V (2 ^ p) (V 8 0) && sLets V (sHeadsIf V p s)
theorem fit_hire (hW : WF V) {p s : Nat} (hp : p < V 7 0) : sHire (vu V 2 p s) (2 ^ p) (V 8 0) 0 = some 0 ↔ gF V p s = true := by
  have o : ∀ i j, i ≠ 2 → vu V 2 p s i j = V i j := fun i j hi => vu_r hi
  rw [sHire_0, gF, Bool.and_eq_true, sAg_c (fun k => o 4 k (by decide)) (fun k => o 5 k (by decide)) (o 7 0 (by decide))]
  have e1 : sHT (vu V 2 p s) (2 ^ p) = sHeadsIf V p s := by
    unfold sHT
    rw [o 7 0 (by decide), sSum_one, if_pos hp]
    unfold sHeads
    rw [vu_s]
    unfold sHeadsIf
    rw [o 0 p (by decide), o 6 2 (by decide), o 1 p (by decide)]
  have e2 : ∀ x, sLets (vu V 2 p s) x = sLets V x := fun x => by
    unfold sLets
    rw [o 6 0 (by decide), o 6 1 (by decide)]
  rw [e1, e2]
theorem s_fit (h : Rel t I J A B) (p : Int32) : Sim t J B (f_X8_fit p I) (f_X9_fit_ p A) := by
  obtain ⟨V, Z, ⟨hx, hm, hW⟩, -⟩ := id h
  have hn := hW.n
  have ho := ov_lt hW
  unfold f_X8_fit f_X9_fit_
  refine sim_wait h hx hm hW p (fun a ha ha8 e hov => ?_)
  subst e
  have q8 := qin_n ha8 (by decide)
  have c8 := clampI (show a < 2 ^ 31 by omega)
  have p2 : 2 ^ a < 2 ^ 31 := Nat.pow_lt_pow_right (by decide) (by omega)
  have xl : ∀ f s, 1 ≤ s → s ≤ 41 → 41 - s < f → sAg V (2 ^ a) (V 8 0) = true → f_X8_fit_40 f (nI a) (nI s) I = some (oI (sF (gF V a) (41 - s) s), I) := by
    intro f
    induction f with
    | zero => intro s _ _ h; omega
    | succ f ih =>
      intro s h1 h2 hf hag
      rw [f_X8_fit_40, if_d (show (40 : Int32) < nI s ↔ 40 < s from nlt_i (a := 40) (by decide) (by omega))]
      by_cases q : 40 < s
      · rw [if_pos q, show 41 - s = 0 by omega]; rfl
      · have hb := sHeadsIf_le2 hW (c := s) ha8 (by omega)
        rw [if_neg q, x_headsIf hx hW ha8 (by omega), bd_s, x_lets hx hW (by omega), bd_b, if_b, nI_1, show 41 - s = (40 - s) + 1 by omega, sF]
        have eg : gF V a s = sLets V (sHeadsIf V a s) := by unfold gF; rw [hag, Bool.true_and]
        rw [eg]
        by_cases c : sLets V (sHeadsIf V a s) = true
        · rw [if_pos c, if_pos c]; rfl
        · rw [if_neg c, if_neg c]
          have := ih (s + 1) (by omega) (by omega) (by omega) hag
          rw [show 41 - (s + 1) = 40 - s by omega] at this
          exact this
  have ml : ∀ f s, s ≤ 40 → s < f → ∀ w, f_X9_fit__26 f (nI a) (A 19 a) (oI (sF (gF V a) (40 - s) (s + 1))) (nI s) (qu A 19 a w) = some (oI (sF (gF V a) 40 1), A) := by
    intro f
    induction f with
    | zero => intro s _ h; omega
    | succ f ih =>
      intro s hs hf w
      rw [f_X9_fit__26, if_d (show nI s < (1 : Int32) ↔ s < 1 from nlt_i (b := 1) (by omega) (by decide))]
      by_cases q : s < 1
      · have e : s = 0 := by omega
        subst e
        rw [if_pos q, gd_t q8, lt_e, c8, qu_qu, qu_id]
      · have m1 : MV (qu A 19 a (nI s)) 0 (vu V 2 a s) Z := hm.up (i := 2) (by decide) rfl
        have W1 : WF (vu V 2 a s) := hW.small (by decide) (by omega)
        have e18 : qu A 19 a (nI s) 0 18 = nI (V 8 0) := by rw [qu_k (by decide)]; exact hm.2.2.1.2
        rw [if_neg q, gd_t q8, lt_e, c8, qu_qu, one_shl (by omega), show (0 : Int32) = nI 0 from rfl, m_hireUpTo m1 W1 p2 (by decide) e18 (by omega), bd_s]
        obtain ⟨s', rfl⟩ : ∃ s', s = s' + 1 := ⟨s - 1, by omega⟩
        have st : sF (gF V a) (40 - s') (s' + 1) = if gF V a (s' + 1) = true then some (s' + 1) else sF (gF V a) (40 - (s' + 1)) (s' + 1 + 1) := by
          rw [show 40 - s' = (40 - (s' + 1)) + 1 by omega, sF]
        have ih := ih s' (by omega) (by omega)
        rw [st] at ih
        have e0 : oI (sHire (vu V 2 a (s' + 1)) (2 ^ a) (V 8 0) 0) = nI 0 ↔ gF V a (s' + 1) = true := (oI_0 fun j hj => by have := sHire_le hj; omega).trans (fit_hire hW ha)
        rw [if_d e0, pk_m1]
        by_cases c : gF V a (s' + 1) = true
        · rw [if_pos c] at ih ⊢; exact ih _
        · rw [if_neg c] at ih ⊢; exact ih _
  have m0 := ml 1000 40 (by decide) (by decide) (A 19 a)
  rw [qu_id] at m0
  have m0 : f_X9_fit__26 1000 (nI a) (A 19 a) (-1) 40 A = _ := m0
  rw [gd_t q8, c8, m0, one_shl (by omega), hx.2.2.1.2, x_ag hx hW p2 (by omega), bd_b, if_b]
  by_cases c : sAg V (2 ^ a) (V 8 0) = true
  · rw [if_pos c]
    have := xl 1000 1 (by decide) (by decide) (by decide) c
    rw [show f_X8_fit_40 1000 (nI a) 1 I = _ from this]
    exact sim_same h _
  · rw [if_neg c, sF_none (fun s => by unfold gF; rw [Bool.eq_false_iff.mpr c]; rfl)]
    exact sim_same h _
end SZ
