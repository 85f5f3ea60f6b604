/-! Pure: bank, image, back, side by side: of the reference, from where its second model is there. -/
section BK
variable {t : qF} {I : qI} {J : qJ} {A : qI} {B : qJ} {V : qV} {Z : qW}
theorem m_copied {k0 k1 : Nat} (h : k0 ≠ k1) (A : qI) : ∃ A', f_X9_copied k0 8 k1 8 A = some A' ∧ (∀ j, j < 8 → A' k1 j = A k0 j) ∧ (∀ a j, a ≠ k1 → A' a j = A a j) := by
  have loop : ∀ f n, n ≤ 8 → 8 - n < f → ∀ A1 : qI, (∀ j, j < n → A1 k1 j = A k0 j) → (∀ a j, a ≠ k1 → A1 a j = A a j) → ∃ A', f_X9_copied_2 k0 8 k1 8 f (nI n) A1 = some A' ∧ (∀ j, j < 8 → A' k1 j = A k0 j) ∧ (∀ a j, a ≠ k1 → A' a j = A a j) := by
    intro f
    induction f with
    | zero => intro n _ h; omega
    | succ f ih =>
      intro n hn hf A1 h1 h2
      rw [f_X9_copied_2, show Int32.ofNat 8 = nI 8 from rfl, stopN' hn (by decide)]
      by_cases q : n = 8
      · subst q
        rw [if_pos rfl]
        exact ⟨A1, rfl, h1, h2⟩
      · have g := qin_n (show n < 8 by omega) (by decide)
        rw [if_neg q, gd_t g, gd_t g, lt_e, clampI (by omega), nI_1, h2 k0 n h]
        refine ih (n + 1) (by omega) (by omega) _ (fun j hj => ?_) (fun a j ha => by rw [qu_k ha]; exact h2 a j ha)
        by_cases e : j = n
        · subst e; rw [qu_s]
        · rw [qu_i e]; exact h1 j (by omega)
  exact loop 1000 0 (by decide) (by decide) A (fun j hj => by omega) (fun _ _ _ => rfl)
theorem m_take (b c : Nat) (hd : c + 40 ≤ b ∨ b + 40 ≤ c) (h : MV A c V Z) : ∃ A', f_X9_takeFrom b c A = some A' ∧ MV A' b V Z ∧ (∀ a j, ¬ (a = b ∧ 9 ≤ j ∧ j ≤ 25) → ¬ (b + 17 ≤ a ∧ a ≤ b + 22) → A' a j = A a j) := by
  have cb : c ≠ b := by omega
  unfold f_X9_takeFrom
  simp only [lt_e, qu_k cb]
  obtain ⟨B0, eB0⟩ : ∃ B0, B0 = qu (qu (qu (qu (qu (qu (qu (qu (qu (qu A b 9 (A c 9)) b 10 (A c 10)) b 11 (A c 11)) b 12 (A c 12)) b 13 (A c 13)) b 14 (A c 14)) b 15 (A c 15)) b 16 (A c 16)) b 17 (A c 17)) b 18 (A c 18) := ⟨_, rfl⟩
  rw [← eB0]
  have f0 : ∀ a j, ¬ (a = b ∧ 9 ≤ j ∧ j ≤ 18) → B0 a j = A a j := fun a j hq => by
    rw [eB0, qu_o (by omega), qu_o (by omega), qu_o (by omega), qu_o (by omega), qu_o (by omega), qu_o (by omega), qu_o (by omega), qu_o (by omega), qu_o (by omega), qu_o (by omega)]
  have g0 : ∀ j, 9 ≤ j → j ≤ 18 → B0 b j = A c j := fun j h1 h2 => by
    rw [eB0]
    rcases (show j = 9 ∨ j = 10 ∨ j = 11 ∨ j = 12 ∨ j = 13 ∨ j = 14 ∨ j = 15 ∨ j = 16 ∨ j = 17 ∨ j = 18 by omega) with rfl | rfl | rfl | rfl | rfl | rfl | rfl | rfl | rfl | rfl
    · rw [qu_i (by decide), qu_i (by decide), qu_i (by decide), qu_i (by decide), qu_i (by decide), qu_i (by decide), qu_i (by decide), qu_i (by decide), qu_i (by decide), qu_s]
    · rw [qu_i (by decide), qu_i (by decide), qu_i (by decide), qu_i (by decide), qu_i (by decide), qu_i (by decide), qu_i (by decide), qu_i (by decide), qu_s]
    · rw [qu_i (by decide), qu_i (by decide), qu_i (by decide), qu_i (by decide), qu_i (by decide), qu_i (by decide), qu_i (by decide), qu_s]
    · rw [qu_i (by decide), qu_i (by decide), qu_i (by decide), qu_i (by decide), qu_i (by decide), qu_i (by decide), qu_s]
    · rw [qu_i (by decide), qu_i (by decide), qu_i (by decide), qu_i (by decide), qu_i (by decide), qu_s]
    · rw [qu_i (by decide), qu_i (by decide), qu_i (by decide), qu_i (by decide), qu_s]
    · rw [qu_i (by decide), qu_i (by decide), qu_i (by decide), qu_s]
    · rw [qu_i (by decide), qu_i (by decide), qu_s]
    · rw [qu_i (by decide), qu_s]
    · rw [qu_s]
  obtain ⟨B1, e1, g1, f1⟩ := m_copied (k0 := c + 17) (k1 := b + 17) (by omega) B0
  obtain ⟨B2, e2, g2, f2⟩ := m_copied (k0 := c + 18) (k1 := b + 18) (by omega) B1
  obtain ⟨B3, e3, g3, f3⟩ := m_copied (k0 := c + 19) (k1 := b + 19) (by omega) B2
  obtain ⟨B4, e4, g4, f4⟩ := m_copied (k0 := c + 20) (k1 := b + 20) (by omega) B3
  obtain ⟨B5, e5, g5, f5⟩ := m_copied (k0 := c + 21) (k1 := b + 21) (by omega) B4
  obtain ⟨B6, e6, g6, f6⟩ := m_copied (k0 := c + 22) (k1 := b + 22) (by omega) B5
  rw [e1, bd_s, e2, bd_s, e3, bd_s, e4, bd_s, e5, bd_s, e6, bd_s]
  have fb : ∀ j, B6 b j = B0 b j := fun j => by rw [f6 _ _ (by omega), f5 _ _ (by omega), f4 _ _ (by omega), f3 _ _ (by omega), f2 _ _ (by omega), f1 _ _ (by omega)]
  have fc : B6 c 25 = A c 25 := by rw [f6 _ _ (by omega), f5 _ _ (by omega), f4 _ _ (by omega), f3 _ _ (by omega), f2 _ _ (by omega), f1 _ _ (by omega), f0 _ _ (by omega)]
  refine ⟨_, rfl, MV.mk2 (fun i j hi hj => ?_) (fun j hj => ?_) ?_ ?_ ⟨?_, ?_, ?_, ?_⟩, fun a j h1 h2 => ?_⟩
  · rw [qu_k (by omega), ← h.a hi hj]
    rcases (show i = 0 ∨ i = 1 ∨ i = 2 ∨ i = 3 ∨ i = 4 ∨ i = 5 by omega) with rfl | rfl | rfl | rfl | rfl | rfl
    · rw [f6 _ _ (by omega), f5 _ _ (by omega), f4 _ _ (by omega), f3 _ _ (by omega), f2 _ _ (by omega), show b + 17 + 0 = b + 17 from rfl, g1 j hj, f0 _ _ (by omega)]
    · rw [f6 _ _ (by omega), f5 _ _ (by omega), f4 _ _ (by omega), f3 _ _ (by omega), show b + 17 + 1 = b + 18 from rfl, g2 j hj, f1 _ _ (by omega), f0 _ _ (by omega)]
    · rw [f6 _ _ (by omega), f5 _ _ (by omega), f4 _ _ (by omega), show b + 17 + 2 = b + 19 from rfl, g3 j hj, f2 _ _ (by omega), f1 _ _ (by omega), f0 _ _ (by omega)]
    · rw [f6 _ _ (by omega), f5 _ _ (by omega), show b + 17 + 3 = b + 20 from rfl, g4 j hj, f3 _ _ (by omega), f2 _ _ (by omega), f1 _ _ (by omega), f0 _ _ (by omega)]
    · rw [f6 _ _ (by omega), show b + 17 + 4 = b + 21 from rfl, g5 j hj, f4 _ _ (by omega), f3 _ _ (by omega), f2 _ _ (by omega), f1 _ _ (by omega), f0 _ _ (by omega)]
    · rw [show b + 17 + 5 = b + 22 from rfl, g6 j hj, f5 _ _ (by omega), f4 _ _ (by omega), f3 _ _ (by omega), f2 _ _ (by omega), f1 _ _ (by omega), f0 _ _ (by omega)]
  · rw [qu_i (by omega), fb, g0 _ (by omega) (by omega)]; exact h.2.1 j hj
  · rw [qu_i (by omega), fb, g0 _ (by omega) (by omega)]; exact h.2.2.1.1
  · rw [qu_i (by omega), fb, g0 _ (by omega) (by omega)]; exact h.2.2.1.2
  · rw [qu_i (by omega), fb, g0 _ (by omega) (by omega)]; exact h.2.2.2.1
  · rw [qu_i (by omega), fb, g0 _ (by omega) (by omega)]; exact h.2.2.2.2.1
  · rw [qu_i (by omega), fb, g0 _ (by omega) (by omega)]; exact h.2.2.2.2.2.1
  · rw [qu_s, fc]; exact h.2.2.2.2.2.2
  · rw [qu_o (by omega), f6 _ _ (by omega), f5 _ _ (by omega), f4 _ _ (by omega), f3 _ _ (by omega), f2 _ _ (by omega), f1 _ _ (by omega), f0 _ _ (by omega)]
/-- the flags aside, the relation speaks of nothing else of what is made later -/
theorem Rel.flag {A' : qI} (h : Rel t I J A B) {x' : Int32} (ht : A' 0 27 = x') (hk : A' 0 26 = A 0 26) (h40 : A' 40 26 = 0 ∧ A' 40 27 = 0) (hf : ∀ k j, ¬ (k = 0 ∧ (j = 26 ∨ j = 27)) → (k < 40 ∨ 80 ≤ k) → A' k j = A k j) : Rel (x', t.2) I J A' B := by
  obtain ⟨V, Z, ⟨h1, h2, h3⟩, ⟨k1, k2⟩, ⟨⟨L, l1, l2, l3⟩, l4⟩, hs, hr, hF⟩ := h
  refine ⟨V, Z, ⟨h1, h2.fr fun k j g => hf k j (by omega) (by omega), h3⟩, ⟨hk.trans k1, ?_⟩, ⟨⟨L, l1, l2, ?_⟩, ?_⟩, ?_, ?_, ⟨ht, hk.trans hF.1.2⟩, h40, (hf 80 26 (by omega) (by omega)).trans hF.2.2.1, (hf 80 27 (by omega) (by omega)).trans hF.2.2.2⟩
  · rcases k2 with k2 | ⟨k2, V', Z', g1, g2, g3⟩
    · exact Or.inl k2
    · exact Or.inr ⟨k2, V', Z', g1, g2.fr fun k j g => hf k j (by omega) (by omega), g3⟩
  · rw [hf 0 7 (by omega) (by omega)]; exact l3
  · intro j hj
    rw [hf 15 j (by omega) (by omega)]
    exact l4 j hj
  · intro s hs8
    exact (hs s hs8).fr (fun j => rfl) (fun j => rfl) ⟨hf _ _ (by omega) (by omega), hf _ _ (by omega) (by omega), hf _ _ (by omega) (by omega), hf _ _ (by omega) (by omega)⟩ (fun j => rfl)
  · intro j hj5
    rw [hf 16 (j + 2) (by omega) (by omega)]
    exact hr j hj5
theorem MV.t7 (h : MV A 0 V Z) (x : Int32) : MV (qu A 0 7 x) 0 V Z := MV.mk2 (fun i j hi hj => by rw [qu_k (by omega)]; exact h.a hi hj) (fun j hj => by rw [qu_i (by omega)]; exact h.2.1 j hj) (by rw [qu_i (by decide)]; exact h.2.2.1.1) (by rw [qu_i (by decide)]; exact h.2.2.1.2) ⟨by rw [qu_i (by decide)]; exact h.2.2.2.1, by rw [qu_i (by decide)]; exact h.2.2.2.2.1, by rw [qu_i (by decide)]; exact h.2.2.2.2.2.1, by rw [qu_i (by decide)]; exact h.2.2.2.2.2.2⟩
theorem s_bankT (h : Rel t I J A B) (h27 : ¬ A 0 27 = 0) : Sim t J B (f_X8_bank I) (f_X9_bank_18 A) := by
  obtain ⟨V, Z, ⟨hx, hm, hW⟩, -, ⟨⟨L, l1, l2, l3⟩, l4⟩, -⟩ := id h
  obtain ⟨tp, htp, hT⟩ : ∃ tp : Nat → Nat, (∀ j, tp j < 256) ∧ ∀ j, j < 250 → I 26 j = nI (tp j) ∧ A 15 j = nI (tp j) := by
    refine ⟨fun j => if hj : j < 250 then Classical.choose (l4 j hj) else 0, fun j => ?_, fun j hj => ?_⟩
    · by_cases hj : j < 250
      · simp only [hj, dif_pos]
        exact (Classical.choose_spec (l4 j hj)).1
      · simp only [hj, dif_neg, not_false_iff]
        decide
    · simp only [hj, dif_pos]
      exact (Classical.choose_spec (l4 j hj)).2
  obtain ⟨I1, e1, x1, f1⟩ := x_become 17 1 (by decide) hx
  obtain ⟨A1, e2, x2, f2⟩ := m_take 40 0 (by decide) hm
  have m0 : MV A1 0 V Z := hm.fr fun k j g => f2 k j (by omega) (by omega)
  have wip : Rel t (qu I 25 1 0) J (qu A 0 7 0) B := h.tape (fun k j hk => qu_o (by omega)) (fun k j hk => qu_o (by omega)) ⟨⟨0, by decide, qu_s, qu_s⟩, fun j hj => by
    rw [qu_k (by decide), qu_k (by decide)]; exact l4 j hj⟩
  have wx : XV (qu I 25 1 0) 1 V Z := hx.fr fun k j g1 g2 => qu_o (by omega)
  unfold f_X8_bank f_X9_bank_18
  rw [gd_t h27, e1, e2, bd_s, bd_s]
  rcases s_text (t := tp) l1 htp x1 m0 hW (fun j hj => by rw [f1 _ _ (by omega)]; exact (hT j hj).1) (fun j hj => by rw [f2 _ _ (by omega) (by omega)]; exact (hT j hj).2) (by rw [f1 _ _ (by omega)]; exact l2) (by rw [f2 _ _ (by omega) (by omega)]; exact l3) with ⟨s, I2, A2, V2, y1, y2, s250, a34, z1, z2, z3, z4, fx, fm⟩ | ⟨I2, A2, P, y1, y2, p250, ip, ap, fx, fm⟩
  · have nm : ¬ nI s = -1 := nI_ne_m1 (by omega)
    obtain ⟨I3, e3, x3, f3⟩ := x_become (I := qu I2 25 1 0) 1 17 (by decide) (z1.fr fun k j g1 g2 => qu_o (by omega))
    rw [y1, y2, bd2_s, bd2_s, if_neg nm, lt_e, if_neg (by decide)]
    unfold f_X8_bank_43
    rw [lt_e, if_neg nm, e3, bd_s, qu_i (by decide), a34]
    refine ⟨_, _, _, rfl, rfl, wip.bank wx hW ⟨x3, z2.t7 0, z3⟩ z4 (fun k j hk => ?_) (fun k j hk => ?_) FJ.rf⟩
    · rw [f3 k j (by omega)]
      by_cases e : k = 25 ∧ j = 1
      · rw [e.1, e.2, qu_s, qu_s]
      · rw [qu_o e, qu_o e, fx k j (by omega) (by omega), f1 k j (by omega)]
    · by_cases e : k = 0 ∧ j = 7
      · rw [e.1, e.2, qu_s, qu_s]
      · rw [qu_o e, qu_o e, fm k j (by omega) (by omega), f2 k j (by omega) (by omega)]
  · obtain ⟨A4, e4, x4, f4⟩ := m_take (A := qu A2 0 7 0) (V := V) (Z := Z) 0 40 (by decide) (x2.fr fun k j g => by rw [qu_o (by omega), fm k j (by omega) (by omega)])
    have g27 : ¬ qu A2 0 7 0 0 27 = 0 := by rw [qu_o (by omega), fm 0 27 (by omega) (by omega), f2 0 27 (by omega) (by omega)]; exact h27
    rw [y1, y2, bd2_s, bd2_s, if_pos rfl, lt_e, if_pos rfl, gd_t g27, e4, bd_s]
    unfold f_X8_bank_43
    rw [lt_e, if_pos rfl, show (-1002 : Int32) = -1002 - nI 0 from by decide, x_refuse _ 0 (by decide), m_refuse _ 0 (by decide), bd2_s, bd2_s, ip, qu_k (show (0 : Nat) ≠ 16 by decide), f4 0 32 (by omega) (by omega), qu_o (show ¬ ((0 : Nat) = 0 ∧ (32 : Nat) = 7) by decide), ap]
    have r2 : Rel t (qu I2 25 1 0) J A4 B := wip.bank wx hW ⟨hx.fr fun k j g1 g2 => by rw [qu_o (by omega), fx k j (by omega) (by omega), f1 k j (by omega)], x4, hW⟩ (Nat.le_refl _) (fun k j hk => by
      by_cases e : k = 25 ∧ j = 1
      · rw [e.1, e.2, qu_s, qu_s]
      · rw [qu_o e, qu_o e, fx k j (by omega) (by omega), f1 k j (by omega)]) (fun k j hk => by
      rw [f4 k j (by omega) (by omega)]
      by_cases e : k = 0 ∧ j = 7
      · rw [e.1, e.2, qu_s, qu_s]
      · rw [qu_o e, qu_o e, fm k j (by omega) (by omega), f2 k j (by omega) (by omega)]) FJ.rf
    exact ⟨_, _, _, rfl, rfl, r2.ref (by decide)⟩
theorem s_imageT {A0 : qI} (h : Rel t I J A0 B) (h26 : A 0 26 = 1) (h80 : A 80 26 = 0 ∧ A 80 27 = 0) (hf : ∀ k j, ¬ (k = 0 ∧ j = 26) → k < 80 → A k j = A0 k j) : Sim (t.1, 1) J B (f_X8_image I) (f_X9_image_18 A) := by
  obtain ⟨V, Z, ⟨hx, hm, hW⟩, -, ⟨⟨L, l1, l2, l3⟩, l4⟩, hs, hr, ht⟩ := id h
  have hm : MV A 0 V Z := hm.fr fun k j g => hf k j (by omega) (by omega)
  obtain ⟨I1, e1, x1, f1⟩ := x_become 9 1 (by decide) hx
  obtain ⟨A1, e2, x2, f2⟩ := m_take 80 0 (by decide) hm
  unfold f_X8_image f_X9_image_18
  rw [gd_t (show ¬ A 0 26 = 0 by rw [h26]; decide), e1, e2, bd_s, bd_s, lt_e]
  have fi : ∀ k j, ¬ (9 ≤ k ∧ k ≤ 16) → ¬ (k = 0 ∧ j = 11) → qu I1 0 11 1 k j = I k j := fun k j h1 h2 => by rw [qu_o h2, f1 k j (by omega)]
  have fa : ∀ k j, ¬ (k = 0 ∧ j = 26) → k < 80 → A1 k j = A0 k j := fun k j h1 h2 => by rw [f2 k j (by omega) (by omega)]; exact hf k j h1 h2
  refine ⟨_, _, _, rfl, rfl, V, Z, ⟨hx.fr fun k j g1 g2 => fi k j (by omega) (by omega), hm.fr fun k j g => f2 k j (by omega) (by omega), hW⟩, ⟨?_, Or.inr ⟨qu_s, V, Z, x1.fr fun k j g1 g2 => qu_o (by omega), x2, hW⟩⟩, ⟨⟨L, l1, ?_, ?_⟩, ?_⟩, ?_, ?_, ?_⟩
  · rw [f2 _ _ (by omega) (by omega), qu_s, h26]
  · rw [fi _ _ (by omega) (by omega)]; exact l2
  · rw [fa _ _ (by omega) (by omega)]; exact l3
  · intro j hj
    rw [fi _ _ (by omega) (by omega), fa _ _ (by omega) (by omega)]
    exact l4 j hj
  · intro s hs8
    exact (hs s hs8).fr (fun j => fi _ _ (by omega) (by omega)) (fun j => rfl) ⟨fa _ _ (by omega) (by omega), fa _ _ (by omega) (by omega), fa _ _ (by omega) (by omega), fa _ _ (by omega) (by omega)⟩ (fun j => rfl)
  · intro j hj5
    rw [fi _ _ (by omega) (by omega), fa _ _ (by omega) (by omega)]
    exact hr j hj5
  · exact ⟨⟨(fa _ _ (by omega) (by omega)).trans ht.1.1, by rw [f2 _ _ (by omega) (by omega), h26]⟩, ⟨(fa _ _ (by omega) (by omega)).trans ht.2.1.1, (fa _ _ (by omega) (by omega)).trans ht.2.1.2⟩, (f2 _ _ (by omega) (by omega)).trans h80.1, (f2 _ _ (by omega) (by omega)).trans h80.2⟩
theorem s_backT (h : Rel t I J A B) (h11 : ¬ I 0 11 = 0) : Sim t J B (f_X8_back I) (f_X9_back_15 A) := by
  obtain ⟨V, Z, ⟨hx, hm, hW⟩, ⟨k1, k2⟩, ⟨⟨L, l1, l2, l3⟩, l4⟩, hs, hr, ht⟩ := id h
  obtain ⟨k2, V', Z', y1, y2, y3⟩ := k2.resolve_left h11
  obtain ⟨I1, e1, x1, f1⟩ := x_become 1 9 (by decide) y1
  obtain ⟨A1, e2, x2, f2⟩ := m_take 0 80 (by decide) y2
  unfold f_X8_back f_X9_back_15
  rw [if_neg h11, gd_t (show ¬ A 0 26 = 0 by rw [k1]; exact h11), e1, e2, bd_s, bd_s]
  have hn := hW.n
  have hn' := y3.n
  have loop : ∀ f k, k ≤ 8 → 8 - k < f → ∀ I2 A2 : qI, (∀ a j, ¬ (28 ≤ a ∧ a ≤ 42 ∧ j = 1) → I2 a j = I1 a j) → (∀ a j, ¬ (a = 1 ∧ j < 8) → A2 a j = A1 a j) → (∀ s, s < 8 → (s < k → RH (V' 7 0) I2 J A2 B s) ∧ (k ≤ s → RH (V 7 0) I2 J A2 B s)) → Sim t J B (f_X8_back_28 f (nI k) I2) (f_X9_back_25 f (nI k) A2) := by
    intro f
    induction f with
    | zero => intro k _ h; omega
    | succ f ih =>
      intro k hk hf I2 A2 fi fa hR
      have x1' : XV I2 1 V' Z' := x1.fr fun k j g1 g2 => fi k j (by omega)
      have x2' : MV A2 0 V' Z' := x2.fr fun k j g => fa k j (by omega)
      rw [f_X8_back_28, f_X9_back_25, show (8 : Int32) = nI 8 from rfl, stopN' hk (by decide), stopN' hk (by decide)]
      by_cases q : k = 8
      · rw [if_pos q, if_pos q]
        refine ⟨_, _, _, rfl, rfl, V', Z', ⟨x1', x2', y3⟩, ⟨?_, Or.inr ⟨?_, V', Z', ?_, ?_, y3⟩⟩, ⟨⟨L, l1, ?_, ?_⟩, ?_⟩, fun s hs8 => (hR s hs8).1 (by omega), ?_, ?_⟩
        · rw [fa _ _ (by omega), f2 _ _ (by omega) (by omega), fi _ _ (by omega), f1 _ _ (by omega)]; exact k1
        · rw [fi _ _ (by omega), f1 _ _ (by omega)]; exact k2
        · exact y1.fr fun k j g1 g2 => by rw [fi k j (by omega), f1 k j (by omega)]
        · exact y2.fr fun k j g => by rw [fa k j (by omega), f2 k j (by omega) (by omega)]
        · rw [fi _ _ (by omega), f1 _ _ (by omega)]; exact l2
        · rw [fa _ _ (by omega), f2 _ _ (by omega) (by omega)]; exact l3
        · intro j hj
          rw [fi _ _ (by omega), f1 _ _ (by omega), fa _ _ (by omega), f2 _ _ (by omega) (by omega)]
          exact l4 j hj
        · intro j hj5
          rw [fi _ _ (by omega), f1 _ _ (by omega), fa _ _ (by omega), f2 _ _ (by omega) (by omega)]
          exact hr j hj5
        · exact ht.fr (by rw [fa _ _ (by omega), f2 _ _ (by omega) (by omega)]) (by rw [fa _ _ (by omega), f2 _ _ (by omega) (by omega)]) fun k j h1 h2 => by rw [fa _ _ (by omega), f2 _ _ (by omega) (by omega)]
      · have k8 : k < 8 := by omega
        have i1 : 8 - (k + 1) < f := by omega
        have g8 := qin_n k8 (by decide)
        have c8 := clampI (show k < 2 ^ 31 by omega)
        have rk := (hR k k8).2 (Nat.le_refl _)
        obtain ⟨c, hc, a1, -, p2, r1, r2, r0⟩ := shelf_st rk hn
        have c31 : c < 2 ^ 31 := by rcases hc with rfl | rfl | rfl <;> decide
        have rest : ∀ I3 A3 : qI, (∀ a j, ¬ (a = 28 + 2 * k ∧ j = 1) → I3 a j = I2 a j) → (∀ a j, ¬ (a = 1 ∧ j = k) → A3 a j = A2 a j) → RH (V' 7 0) I3 J A3 B k → Sim t J B (f_X8_back_28 f (nI k + 1) I3) (f_X9_back_25 f (nI k + 1) A3) := by
          intro I3 A3 g1 g2 hk'
          rw [nI_1]
          refine ih (k + 1) k8 i1 I3 A3 (fun a j z => by rw [g1 a j (by omega)]; exact fi a j z) (fun a j z => by rw [g2 a j (by omega)]; exact fa a j z) (fun s hs8 => ?_)
          by_cases e : s = k
          · subst e
            exact ⟨fun _ => hk', fun z => by omega⟩
          · have fr : ∀ n, RH n I2 J A2 B s → RH n I3 J A3 B s := fun n z => z.fr (fun j => g1 _ _ (by omega)) (fun j => rfl) ⟨g2 _ _ (by omega), g2 _ _ (by omega), g2 _ _ (by omega), g2 _ _ (by omega)⟩ (fun j => rfl)
            exact ⟨fun z => fr _ ((hR s hs8).1 (by omega)), fun z => fr _ ((hR s hs8).2 (by omega))⟩
        rw [if_neg q, if_neg q]
        simp only [gd_t g8, c8]
        rw [p2, bd_b, if_b, a1, if_d (show nI c = (2 : Int32) ↔ c = 2 from nI_inj (b := 2) c31 (by decide))]
        by_cases c2 : c = 2
        · obtain ⟨p, hp, i1, i2⟩ := r2 c2
          unfold f_X6_partyNumber f_X6_takeParty f_X6_takeParty_14
          rw [decide_eq_true c2, if_pos rfl, if_pos c2, i1, i2, bd_s, show (10 : Int32) = nI 10 from rfl, subI (by omega), Nat.add_sub_cancel_left, x_pty x1', bd_b, if_b, x2'.2.2.1.1, if_d (nlt_i (show p < 2 ^ 31 by omega) (show V' 7 0 < 2 ^ 31 by omega)), if_pos rfl, lt_e, bd_s, lt_e]
          obtain ⟨hj, ⟨m, hm', q1, q2⟩, -⟩ := rk
          by_cases pl : p < V' 7 0
          · rw [decide_eq_true (show (0 : Int32) ≤ nI p ∧ nI p ≤ nI (V' 7 0) - 1 from ⟨nI_pos' (by omega), by rw [sub1_nI (by omega), nle_i (by omega) (by omega)]; omega⟩), if_pos rfl, if_pos pl]
            exact rest I2 A2 (fun _ _ _ => rfl) (fun _ _ _ => rfl) ⟨hj, ⟨m, hm', q1, q2⟩, Or.inr (Or.inr ⟨p, pl, i1, by rw [a1, c2]; rfl, i2⟩)⟩
          · rw [decide_eq_false (show ¬ ((0 : Int32) ≤ nI p ∧ nI p ≤ nI (V' 7 0) - 1) from fun z => by
              obtain ⟨j, hj, e⟩ := sub1_pty _ hn' _ z
              have := (nI_inj (show p < 2 ^ 31 by omega) (show j < 2 ^ 31 by omega)).mp e
              omega), if_neg (by decide), if_neg pl]
            refine rest _ _ (fun a j z => qu_o z) (fun a j z => qu_o z) ⟨hj, ⟨m, hm', ?_, ?_⟩, Or.inl ⟨qu_s, qu_s⟩⟩
            · rw [qu_i (by decide)]; exact q1
            · rw [qu_k (by decide)]; exact q2
        · rw [decide_eq_false c2, if_neg (by decide), if_neg c2]
          refine rest I2 A2 (fun _ _ _ => rfl) (fun _ _ _ => rfl) ?_
          obtain ⟨hj, hm', h3⟩ := rk
          refine ⟨hj, hm', ?_⟩
          rcases h3 with h3 | h3 | ⟨p, hp, w1, w2, w3⟩
          · exact Or.inl h3
          · exact Or.inr (Or.inl h3)
          · exfalso
            rw [a1] at w2
            exact c2 ((nI_inj (b := 2) c31 (by decide)).mp w2)
  refine loop 1000 0 (by decide) (by decide) I1 A1 (fun _ _ _ => rfl) (fun _ _ _ => rfl) (fun s hs8 => ⟨fun z => by omega, fun _ => (hs s hs8).fr (fun j => f1 _ _ (by omega)) (fun j => rfl) ⟨f2 _ _ (by omega) (by omega), f2 _ _ (by omega) (by omega), f2 _ _ (by omega) (by omega), f2 _ _ (by omega) (by omega)⟩ (fun j => rfl)⟩)
theorem s_back0 (h : Rel t I J A B) (h11 : I 0 11 = 0) : Sim t J B (f_X8_back I) (bd2 (f_X9_refuse (-1005 : Int32) A) fun v I => some (v, I)) := by
  unfold f_X8_back
  rw [if_pos h11]
  exact sim_stuck h
end BK
