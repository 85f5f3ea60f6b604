/-! Pure: words and numbers, side by side. -/
def wl (w : Nat) : Nat := (qWordL.map List.length).getD w 0
def wch (w i : Nat) : Int32 := ((qWordL.getD w []).getD i 0) &&& 255
theorem wl_tab : ∀ w, w < 9 → 3 ≤ wl w ∧ wl w ≤ 7 := by decide
theorem wch_tab : ∀ w, w < 9 → 1 ≤ w → ¬ wch w 0 = wch 0 0 := by decide
def PS (t : Nat → Nat) (L : Nat) (I A : qI) (V : qV) (Z : qW) (e : Nat) : Prop := (XV I 17 V Z ∧ MV A 0 V Z ∧ WF V) ∧ ((∀ j, j < 250 → I 26 j = nI (t j)) ∧ (∀ j, j < 250 → A 15 j = nI (t j)) ∧ I 25 1 = nI L ∧ A 0 7 = nI L) ∧ (e ≤ L ∧ I 25 3 = nI e ∧ I 25 5 = 0 ∧ TM t L e A)
def FPx (I I' : qI) : Prop := ∀ a j, ¬ (17 ≤ a ∧ a ≤ 24) → ¬ (a = 25 ∧ 2 ≤ j ∧ j ≤ 5) → I' a j = I a j
def FPm (A A' : qI) : Prop := ∀ a j, ¬ (a = 0 ∧ ((9 ≤ j ∧ j ≤ 18) ∨ (28 ≤ j ∧ j ≤ 32))) → ¬ (17 ≤ a ∧ a ≤ 23) → A' a j = A a j
def PF (I' A' : qI) (P : Nat) : Prop := P ≤ 250 ∧ I' 25 5 = 1 ∧ I' 25 2 = nI P ∧ A' 0 32 = nI P
theorem FPx.tr {I I' I'' : qI} (h : FPx I I') (h2 : FPx I' I'') : FPx I I'' := fun a j x y => (h2 a j x y).trans (h a j x y)
theorem FPm.tr {A A' A'' : qI} (h : FPm A A') (h2 : FPm A' A'') : FPm A A'' := fun a j x y => (h2 a j x y).trans (h a j x y)
theorem FPx.q {I I' : qI} (h : FPx I I') {j : Nat} {v : Int32} (hj : 2 ≤ j ∧ j ≤ 5) : FPx I (qu I' 25 j v) := fun a i x y => by
  rw [qu_at]
  by_cases e : a = 25
  · rw [if_pos e, if_neg (by omega), ← e]; exact h a i x y
  · rw [if_neg e]; exact h a i x y
theorem FPm.q {A A' : qI} (h : FPm A A') {j : Nat} {v : Int32} (hj : 28 ≤ j ∧ j ≤ 32) : FPm A (qu A' 0 j v) := fun a i x y => by
  rw [qu_at]
  by_cases e : a = 0
  · rw [if_pos e, if_neg (by omega), ← e]; exact h a i x y
  · rw [if_neg e]; exact h a i x y
section WN
variable {t : Nat → Nat} {L : Nat} {I A : qI} {V : qV} {Z : qW}
theorem w_loop {w p : Nat} (hw : w < 9) (hp : p + wl w ≤ 250) (h26 : ∀ j, j < 250 → I 26 j = nI (t j)) (h15 : ∀ j, j < 250 → A 15 j = nI (t j)) (i2 : I 25 2 = nI p) (a30 : A 0 30 = nI p) : ∀ f x, x ≤ wl w → wl w - x < f → ∃ v : Bool, f_X7_isWord_20 w I f (nI x) = some (b2i v) ∧ f_X9_isWord_28 w A f (nI x) = some (b2i v) ∧ (x < wl w → v = true → nI (t (p + x)) = wch w x) := by
  have hl := wl_tab w hw
  intro f
  induction f with
  | zero => intro x _ h; omega
  | succ f ih =>
    intro x hx hf
    rw [f_X7_isWord_20, f_X9_isWord_28]
    unfold f_J0_length_8abf5
    rw [show (qWordL.map List.length).getD w 0 = wl w from rfl, bd_s, bd_s, stopN' hx (by omega), stopN' hx (by omega)]
    by_cases q : x = wl w
    · rw [if_pos q, if_pos q]
      exact ⟨true, rfl, rfl, fun h => by omega⟩
    · obtain ⟨v, r1, r2, -⟩ := ih (x + 1) (by omega) (by omega)
      have gp := qin_n (show p + x < 250 by omega) (by decide)
      have ch : f_J0_charAt_5068e w (nI x) = some (wch w x) := by
        unfold f_J0_charAt_5068e
        rw [show (qWordL.map List.length).getD w 0 = wl w from rfl, gd_t (qin_n (show x < wl w by omega) (by omega)), clampI (by omega)]
        rfl
      rw [if_neg q, if_neg q, i2, a30, add_nI, gd_t gp, gd_t gp, clampI (by omega), h26 _ (by omega), h15 _ (by omega), ch, bd_s, bd_s, nI_1]
      by_cases c : nI (t (p + x)) = wch w x
      · rw [if_pos c, if_pos c]
        exact ⟨v, r1, r2, fun _ _ => c⟩
      · rw [if_neg c, if_neg c]
        exact ⟨false, rfl, rfl, fun _ h => by cases h⟩
theorem w_is {w p q : Nat} (hw : w < 9) (hpq : p ≤ q) (hq : q ≤ 250) (h26 : ∀ j, j < 250 → I 26 j = nI (t j)) (h15 : ∀ j, j < 250 → A 15 j = nI (t j)) (i2 : I 25 2 = nI p) (i3 : I 25 3 = nI q) (a30 : A 0 30 = nI p) (a28 : A 0 28 = nI q) (a29 : A 0 29 = 1) : ∃ v : Bool, f_X7_isWord w I = some (b2i v) ∧ f_X9_isWord w A = some (b2i v) ∧ (v = true → nI (t p) = wch w 0) := by
  have hl := wl_tab w hw
  unfold f_X7_isWord f_X9_isWord f_J0_length_8abf5
  rw [show (qWordL.map List.length).getD w 0 = wl w from rfl, bd_s, bd_s, a29, if_pos rfl, i2, i3, a30, a28, subI hpq, if_d (nI_inj (show wl w < 2 ^ 31 by omega) (show q - p < 2 ^ 31 by omega)), if_d (nI_inj (show q - p < 2 ^ 31 by omega) (show wl w < 2 ^ 31 by omega))]
  by_cases c : wl w = q - p
  · rw [if_pos c, if_pos c.symm]
    obtain ⟨v, r1, r2, r3⟩ := w_loop hw (by omega) h26 h15 i2 a30 1000 0 (Nat.zero_le _) (by omega)
    exact ⟨v, r1, r2, fun h => r3 (by omega) h⟩
  · rw [if_neg c, if_neg (fun z => c z.symm)]
    exact ⟨false, rfl, rfl, fun h => by cases h⟩
theorem m_noword {w : Nat} (h : ¬ A 0 29 = 1) : f_X9_isWord w A = some 0 := by
  unfold f_X9_isWord
  rw [if_neg h]
theorem x_digs {p q : Nat} (hpq : p ≤ q) (hd : q - p ≤ 2) (hq : q ≤ 250) (ht : ∀ j, t j < 256) (hdig : ∀ i, p ≤ i → i < q → tk1 (t i) = 2) (h26 : ∀ j, j < 250 → I 26 j = nI (t j)) (i2 : I 25 2 = nI p) (i3 : I 25 3 = nI q) : f_X7_numberAtHand I = some (nI (fg t p (q - p))) := by
  have loop : ∀ f i, i ≤ q - p → q - p - i < f → f_X7_numberAtHand_7 I f (nI (fg t p i)) (nI (p + i)) = some (nI (fg t p (q - p))) := by
    intro f
    induction f with
    | zero => intro i _ h; omega
    | succ f ih =>
      intro i hi hf
      rw [f_X7_numberAtHand_7, i2, i3, if_d (nle_i (show q < 2 ^ 31 by omega) (show p + i < 2 ^ 31 by omega))]
      by_cases c : q ≤ p + i
      · rw [if_pos c, show i = q - p by omega]
      · have c48 := tk1_2.mp (hdig (p + i) (by omega) (by omega))
        rw [if_neg c, show (2 : Int32) = nI 2 from rfl, add_nI, if_neg (fun z => by
          have := (nle_i (show p + 2 < 2 ^ 31 by omega) (show p + i < 2 ^ 31 by omega)).mp z
          omega), gd_t (qin_n (show p + i < 250 by omega) (by decide)), clampI (by omega), h26 _ (by omega), show (10 : Int32) = nI 10 from rfl, show (48 : Int32) = nI 48 from rfl, pk_mul, add_nI, subI (by omega), lt_e, nI_1]
        have ih := ih (i + 1) (by omega) (by omega)
        rw [fg, if_pos (by omega)] at ih
        rw [show fg t p i * 10 + t (p + i) - 48 = fg t p i * 10 + (t (p + i) - 48) by omega]
        exact ih
  unfold f_X7_numberAtHand
  rw [i2]
  exact loop 1000 0 (Nat.zero_le _) (by omega)
theorem PS.fr {I' A' : qI} {e : Nat} (h : PS t L I A V Z e) (hx : ∀ k j, (17 ≤ k ∧ k ≤ 24) ∨ k = 26 ∨ (k = 25 ∧ (j = 1 ∨ j = 3 ∨ j = 5)) → I' k j = I k j) (hm : ∀ k j, (k = 0 ∧ (j ≤ 25 ∨ (28 ≤ j ∧ j ≤ 31))) ∨ (1 ≤ k ∧ k ≤ 22) → A' k j = A k j) : PS t L I' A' V Z e := by
  obtain ⟨⟨a1, a2, a3⟩, ⟨b1, b2, b3, b4⟩, ⟨c1, c2, c3, c4, c5, c6, c7⟩⟩ := h
  refine ⟨⟨a1.fr fun k j g1 g2 => hx k j (by omega), a2.fr fun k j g => hm k j (by omega), a3⟩, ⟨fun j hj => ?_, fun j hj => ?_, ?_, ?_⟩, ⟨c1, ?_, ?_, ?_, ?_, ?_, ?_⟩⟩
  · rw [hx _ _ (by omega)]; exact b1 j hj
  · rw [hm _ _ (by omega)]; exact b2 j hj
  · rw [hx _ _ (by omega)]; exact b3
  · rw [hm _ _ (by omega)]; exact b4
  · rw [hx _ _ (by omega)]; exact c2
  · rw [hx _ _ (by omega)]; exact c3
  · rw [hm _ _ (by omega)]; exact c4
  · rw [hm _ _ (by omega)]; exact c5
  · rw [hm _ _ (by omega)]; exact c6
  · rw [hm _ _ (by omega)]; exact c7
/-- one number told -/
theorem s_num (hL : L ≤ 250) (ht : ∀ j, t j < 256) {e : Nat} (h : PS t L I A V Z e) (lo hi : Int32) (hh : hi ≤ 99) (h0 : 0 ≤ lo) {i : Nat} (hi4 : i < 4) :
    (∃ v I' A', f_X7_readNumber lo hi I = some (nI v, I') ∧ f_X9_number (nI i) lo hi A = some (1, A') ∧ v ≤ 99 ∧ (lo ≤ nI v ∧ nI v ≤ hi) ∧ v = sg t L e ∧ sk t L e = 2 ∧ I' 25 2 = nI (sp t L e) ∧ A' 23 i = nI v ∧ (∀ k, k ≠ i → A' 23 k = A 23 k) ∧ PS t L I' A' V Z (sq t L e) ∧ FPx I I' ∧ FPm A A') ∨
    (∃ I' A' P, f_X7_readNumber lo hi I = some (-1, I') ∧ f_X9_number (nI i) lo hi A = some (0, A') ∧ PF I' A' P ∧ P = sp t L e ∧ ¬ (sk t L e = 2 ∧ lo ≤ nI (sg t L e) ∧ nI (sg t L e) ≤ hi) ∧ FPx I I' ∧ FPm A A') := by
  obtain ⟨⟨a1, a2, a3⟩, ⟨b1, b2, b3, b4⟩, ⟨c1, c2, c3, c4, c5, c6, c7⟩⟩ := id h
  obtain ⟨I1, r1, r2, r3, r4, r5⟩ := x_step hL ht b1 b3 c1 c2
  have pb := sp_b t c1
  have qb := sq_b t c1
  have fx : FPx I I1 := fun a j x y => r5 a j (by omega)
  have fl := fg_lt t (sp t L e) ht (sq t L e - sp t L e)
  have sgl : sg t L e ≤ 10000 := by
    unfold sg
    split <;> omega
  -- how it fails
  have bad : f_X7_readNumber lo hi I = f_X7_readNumber_46 I1 → f_X9_number (nI i) lo hi A = f_X9_number_23 A → ¬ (sk t L e = 2 ∧ lo ≤ nI (sg t L e) ∧ nI (sg t L e) ≤ hi) → (∃ I' A' P, f_X7_readNumber lo hi I = some (-1, I') ∧ f_X9_number (nI i) lo hi A = some (0, A') ∧ PF I' A' P ∧ P = sp t L e ∧ ¬ (sk t L e = 2 ∧ lo ≤ nI (sg t L e) ∧ nI (sg t L e) ≤ hi) ∧ FPx I I' ∧ FPm A A') := fun e1 e2 e3 => by
    refine ⟨qu I1 25 5 1, qu A 0 32 (A 0 30), sp t L e, e1, ?_, ⟨by omega, qu_s, ?_, ?_⟩, rfl, e3, fx.q (by omega), FPm.q (fun _ _ _ _ => rfl) (by omega)⟩
    · rw [e2]
      unfold f_X9_number_23 f_X9_wrong
      rw [lt_e, bd2_s, gd_t (Or.inl rfl)]
    · rw [qu_i (by decide)]; exact r2
    · rw [qu_s]; exact c4
  have eX : f_X7_readNumber lo hi I = if sk t L e = 2 then (if 2 < sq t L e - sp t L e then f_X7_readNumber_46 I1 else (bd (f_X7_numberAtHand I1) fun v3 => bd (f_X8_within v3 lo hi) fun v5 => if v5 = 0 then (f_X7_readNumber_46 I1) else (bd (f_X7_numberAtHand I1) fun v7 => some (v7, I1)))) else f_X7_readNumber_46 I1 := by
    unfold f_X7_readNumber
    have kl := sk_le t L e
    rw [c3, if_pos rfl, r1, bd_s, r2, r3, r4, subI qb.1, if_d (show nI (sk t L e) = (2 : Int32) ↔ sk t L e = 2 from nI_inj (b := 2) (by omega) (by decide)), if_d (show (2 : Int32) < nI (sq t L e - sp t L e) ↔ 2 < sq t L e - sp t L e from nlt_i (a := 2) (by decide) (by omega))]
  have eM : f_X9_number (nI i) lo hi A = if sk t L e = 2 then (if decide (lo ≤ nI (sg t L e) ∧ nI (sg t L e) ≤ hi) = true then (bd (f_X9_look (qu A 23 i (nI (sg t L e)))) fun I5 => some (1, I5)) else f_X9_number_23 A) else f_X9_number_23 A := by
    unfold f_X9_number
    have kl := sk_le t L e
    rw [c6, c7, in_i rfl rfl, bd_b, if_b, gd_t (qin_n hi4 (by decide)), lt_e, clampI (show i < 2 ^ 31 by omega), if_d (show nI (sk t L e) = (2 : Int32) ↔ sk t L e = 2 from nI_inj (b := 2) (by omega) (by decide))]
  by_cases k2 : sk t L e = 2
  · rw [if_pos k2] at eX eM
    have ep : sg t L e = fg t (sp t L e) (sq t L e - sp t L e) := by
      unfold sg
      rw [if_pos k2]
    have q1 := sq_1 t c1 (Or.inr (Or.inl k2))
    by_cases d : 2 < sq t L e - sp t L e
    · rw [if_pos d] at eX
      have g1 : sg t L e = 1000 := by
        obtain ⟨d', hd'⟩ : ∃ d', sq t L e - sp t L e = d' + 1 := ⟨sq t L e - sp t L e - 1, by omega⟩
        rw [ep, hd', fg, if_neg (by omega)]
      have no : ¬ (lo ≤ nI (sg t L e) ∧ nI (sg t L e) ≤ hi) := fun z => by
        rw [g1] at z
        exact absurd (Int32.le_trans z.2 hh) (by decide)
      rw [decide_eq_false no, if_neg (by decide)] at eM
      exact Or.inr (bad eX eM fun z => no z.2)
    · have dig : ∀ j, sp t L e ≤ j → j < sq t L e → tk1 (t j) = 2 := fun j h1 h2 => by
        have eq : sq t L e = rnF t 2 (L - sp t L e) (sp t L e) := by
          unfold sq
          rw [k2, if_neg (by decide), if_pos (Or.inr rfl)]
        rw [eq] at h2
        exact rnF_dig t 2 _ _ _ h1 h2
      have nh := x_digs qb.1 (by omega) (by omega) ht dig (fun j hj => by rw [r5 _ _ (by omega)]; exact b1 j hj) r2 r3
      rw [← ep] at nh
      rw [if_neg d, nh, bd_s, within_s, bd_b, if_b, bd_s] at eX
      by_cases w : lo ≤ nI (sg t L e) ∧ nI (sg t L e) ≤ hi
      · rw [decide_eq_true w, if_pos rfl] at eX eM
        left
        have a28 : A 0 28 = nI (sq t L e) := c5.resolve_left (by omega)
        obtain ⟨A', u1, u2, u3⟩ := m_look (A := qu A 23 i (nI (sg t L e))) hL ht (fun j hj => by rw [qu_k (by decide)]; exact b2 j hj) (by rw [qu_k (by decide)]; exact b4) qb.2 (by rw [qu_k (by decide)]; exact a28)
        rw [u1, bd_s] at eM
        have ff : ∀ a j, a ≠ 23 → ¬ (a = 0 ∧ 28 ≤ j ∧ j ≤ 31) → A' a j = A a j := fun a j h1 h2 => by rw [u3 a j h2, qu_k h1]
        refine ⟨sg t L e, I1, A', eX, eM, ?_, w, rfl, k2, r2, ?_, fun k hk => ?_, ⟨⟨a1.fr fun k j g1 g2 => r5 k j (by omega), a2.fr fun k j g => ff k j (by omega) (by omega), a3⟩, ⟨fun j hj => ?_, fun j hj => ?_, ?_, ?_⟩, ⟨qb.2, r3, ?_, u2⟩⟩, fx, fun a j x y => ff a j (by omega) (by omega)⟩
        · exact (nle_i (b := 99) (by omega) (by decide)).mp (Int32.le_trans w.2 hh)
        · rw [u3 _ _ (by omega), qu_s]
        · rw [u3 _ _ (by omega), qu_i hk]
        · rw [r5 _ _ (by omega)]; exact b1 j hj
        · rw [ff _ _ (by omega) (by omega)]; exact b2 j hj
        · rw [r5 _ _ (by omega)]; exact b3
        · rw [ff _ _ (by omega) (by omega)]; exact b4
        · rw [r5 _ _ (by omega)]; exact c3
      · rw [decide_eq_false w, if_neg (by decide)] at eX eM
        exact Or.inr (bad eX eM fun z => w z.2)
  · rw [if_neg k2] at eX eM
    exact Or.inr (bad eX eM fun z => k2 z.1)
/-- once failed it stays -/
theorem x_num_f (lo hi : Int32) (h : I 25 5 = 1) : f_X7_readNumber lo hi I = some (-1, I) := by
  unfold f_X7_readNumber
  rw [h, if_neg (by decide)]
end WN
