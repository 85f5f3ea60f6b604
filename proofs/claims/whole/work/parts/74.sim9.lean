/-! Pure: copy, the tape, status. -/
section S9
variable {t : qF} {I : qI} {J : qJ} {A : qI} {B : qJ} {V : qV} {Z : qW}
theorem Rel.tape {I' A' : qI} (h : Rel t I J A B) (hI : ∀ k j, ¬ (k = 26 ∨ (k = 25 ∧ j = 1)) → I' k j = I k j) (hA : ∀ k j, ¬ (k = 15 ∨ (k = 0 ∧ j = 7)) → A' k j = A k j) (hT : RT I' A') : Rel t I' J A' B := by
  obtain ⟨V, Z, ⟨h1, h2, h3⟩, ⟨k1, k2⟩, -, hS, hR, ht⟩ := h
  refine ⟨V, Z, ⟨h1.fr fun k j g1 g2 => hI k j (by omega), ?_, h3⟩, ⟨?_, ?_⟩, hT, ?_, ?_, ?_⟩
  · refine MV.mk2 (fun i j hi hj => ?_) (fun j hj => ?_) ?_ ?_ ?_
    · rw [hA _ _ (by omega)]; exact h2.a hi hj
    · rw [hA _ _ (by omega)]; exact h2.2.1 j hj
    · rw [hA _ _ (by omega)]; exact h2.2.2.1.1
    · rw [hA _ _ (by omega)]; exact h2.2.2.1.2
    · rw [hA _ _ (by omega), hA _ _ (by omega), hA _ _ (by omega), hA _ _ (by omega)]; exact h2.2.2.2
  · rw [hA 0 26 (by omega), hI 0 11 (by omega)]; exact k1
  · rw [hI 0 11 (by omega)]
    rcases k2 with k2 | ⟨k2, V', Z', g1, g2, g3⟩
    · exact Or.inl k2
    · exact Or.inr ⟨k2, V', Z', g1.fr fun k j g1 g2 => hI k j (by omega), g2.fr fun k j g => hA k j (by omega), g3⟩
  · intro s hs
    exact (hS s hs).fr (fun j => hI _ j (by omega)) (fun j => rfl) ⟨hA _ _ (by omega), hA _ _ (by omega), hA _ _ (by omega), hA _ _ (by omega)⟩ (fun j => rfl)
  · intro j hj5
    rw [hI 44 j (by omega), hA 16 (j + 2) (by omega)]
    exact hR j hj5
  · exact ht.fr (hA 0 27 (by omega)) (hA 0 26 (by omega)) fun k j h1 h2 => hA k j (by omega)
theorem s_wipe (h : Rel t I J A B) : Sim t J B (f_X8_wipe I) (f_X9_wipe A) := by
  obtain ⟨V, Z, -, -, ⟨⟨L, l1, l2, l3⟩, l4⟩, -⟩ := id h
  unfold f_X8_wipe f_X9_wipe
  rw [lt_e, lt_e, l2, l3]
  refine ⟨_, _, _, rfl, rfl, h.tape (fun k j z => ?_) (fun k j z => ?_) ⟨⟨0, by decide, qu_s, qu_s⟩, fun j hj => ?_⟩⟩
  · rw [qu_at]
    by_cases e : k = 25
    · rw [if_pos e, if_neg (by omega), e]
    · rw [if_neg e]
  · rw [qu_at]
    by_cases e : k = 0
    · rw [if_pos e, if_neg (by omega), e]
    · rw [if_neg e]
  · rw [qu_k (by decide), qu_k (by decide)]; exact l4 j hj
theorem s_feed (h : Rel t I J A B) (p : Int32) : Sim t J B (f_X8_feed p I) (f_X9_feed p A) := by
  obtain ⟨V, Z, -, -, ⟨⟨L, l1, l2, l3⟩, l4⟩, -⟩ := id h
  refine sim_in p 0 255 (a := 0) (b := 255) rfl rfl (by decide) (by decide) rfl rfl (fun v _ hv e => ?_) (sim_bad h)
  subst e
  unfold f_X7_append
  rw [l2, l3, within_s, bd_b, if_b, if_d (show nI L = (250 : Int32) ↔ L = 250 from nI_inj (b := 250) (by omega) (by decide))]
  by_cases c : L = 250
  · rw [if_pos c, decide_eq_false (show ¬ ((0 : Int32) ≤ nI L ∧ nI L ≤ 249) from fun z => by
      have := (nle_i (b := 249) (by omega) (by decide)).mp z.2
      omega), if_neg (by decide), bd2_s, if_pos rfl]
    exact sim_full h
  · have ql := qin_n (show L < 250 by omega) (by decide)
    rw [if_neg c, decide_eq_true (show (0 : Int32) ≤ nI L ∧ nI L ≤ 249 from ⟨nI_pos' (by omega), (nle_i (b := 249) (by omega) (by decide)).mpr (by omega)⟩), if_pos rfl]
    simp only [gd_t ql, clampI (show L < 2 ^ 31 by omega), lt_e, bd2_s, e10, if_false]
    rw [nI_1]
    have e1 : qu I 26 L (nI v) 25 1 + 1 = nI (L + 1) := by rw [qu_k (by decide), l2, nI_1]
    rw [e1]
    refine ⟨nI (L + 1), _, _, ?_, ?_, h.tape (I' := qu (qu I 26 L (nI v)) 25 1 (nI (L + 1))) (A' := qu (qu A 0 7 (nI (L + 1))) 15 L (nI v)) (fun k j z => ?_) (fun k j z => ?_) ⟨⟨L + 1, by omega, qu_s, ?_⟩, fun j hj => ?_⟩⟩
    · rw [qu_s]
    · rw [qu_k (by decide), qu_s]
    · rw [qu_at]
      by_cases e : k = 25
      · rw [if_pos e, if_neg (by omega), qu_k (by decide), e]
      · rw [if_neg e, qu_k (by omega)]
    · rw [qu_k (by omega), qu_at]
      by_cases e : k = 0
      · rw [if_pos e, if_neg (by omega), e]
      · rw [if_neg e]
    · rw [qu_k (by decide), qu_s]
    · rw [qu_k (by decide), qu_at, qu_at, if_pos rfl, if_pos rfl, qu_k (show (15 : Nat) ≠ 0 by decide)]
      by_cases e : j = L
      · rw [if_pos e, if_pos e]; exact ⟨v, by omega, rfl, rfl⟩
      · rw [if_neg e, if_neg e]; exact l4 j hj
theorem s_status (h : Rel t I J A B) (p : Int32) : ∃ r, f_X8_status p I = some r ∧ f_X9_status p A = some r := by
  obtain ⟨V, Z, ⟨hx, hm, hW⟩, -, ⟨⟨L, l1, l2, l3⟩, l4⟩, hS, hR, -⟩ := id h
  by_cases d : (0 : Int32) ≤ p ∧ p ≤ 17
  · obtain ⟨s, -, hs, rfl⟩ := nI_btw (a := 0) (b := 17) (by decide) d (by decide)
    have told : ∀ j, j < 5 → ∃ r, some (I (1 + 7) j) = some r ∧ some (A 0 (9 + j)) = some r := fun j hj => ⟨_, rfl, by rw [hx.2.1 j hj, hm.2.1 j hj]⟩
    have ref : ∀ j, j < 5 → ∃ r, some (I 44 j) = some r ∧ some (A 16 (j + 2)) = some r := fun j hj => ⟨_, rfl, by rw [hR j hj]⟩
    have lp : ∃ r, (bd (f_X8_shelvesInUse I) fun v => some v) = some r ∧ f_X9_status_152 A 1000 (0 : Int32) (0 : Int32) = some r := by
      have loop : ∀ f k, k ≤ 8 → 8 - k < f → ∀ c : Int32, ∃ r, f_X8_shelvesInUse_4 I f c (nI k) = some r ∧ f_X9_status_152 A f c (nI k) = some r := by
        intro f
        induction f with
        | zero => intro k _ h; omega
        | succ f ih =>
          intro k hk hf c
          rw [f_X8_shelvesInUse_4, f_X9_status_152, show (8 : Int32) = nI 8 from rfl, stopN' hk (by decide), stopN' hk (by decide)]
          by_cases q : k = 8
          · rw [if_pos q, if_pos q]; exact ⟨_, rfl, rfl⟩
          · have ih := ih (k + 1) (by omega) (by omega)
            have k8 : k < 8 := by omega
            have qk := qin_n k8 (by decide)
            have e : I (28 + 2 * k) 1 = -1 ↔ A 1 k = 0 := by
              obtain ⟨-, -, ⟨h1, h2⟩ | ⟨k', hk', h1, h2, h3⟩ | ⟨p, hp, h1, h2, h3⟩⟩ := hS k k8
              · exact ⟨fun _ => h2, fun _ => h1⟩
              · exact ⟨fun z => absurd (h1.symm.trans z) (nI_ne_m1 (by omega)), fun z => absurd (h2.symm.trans z) (by decide)⟩
              · have := hW.n
                exact ⟨fun z => absurd (h1.symm.trans z) (nI_ne_m1 (by omega)), fun z => absurd (h2.symm.trans z) (by decide)⟩
            rw [if_neg q, if_neg q, gd_t qk, gd_t qk, clampI (by omega), if_d e, nI_1, Int32.add_zero]
            split
            · exact ih _
            · exact ih _
      obtain ⟨r, h1, h2⟩ := loop 1000 0 (by decide) (by decide) 0
      exact ⟨r, by rw [show f_X8_shelvesInUse I = some r from h1]; rfl, h2⟩
    have tt : ∀ j, j < 18 → (nI s = nI j) = (s = j) := fun j hj => propext (nI_inj (by omega) (by omega))
    have w1 : decide ((1 : Int32) ≤ nI s ∧ nI s ≤ 5) = decide (1 ≤ s ∧ s ≤ 5) := decide_eq_decide.mpr (and_congr (nle_i (a := 1) (by decide) (by omega)) (nle_i (b := 5) (by omega) (by decide)))
    have w2 : decide ((12 : Int32) ≤ nI s ∧ nI s ≤ 16) = decide (12 ≤ s ∧ s ≤ 16) := decide_eq_decide.mpr (and_congr (nle_i (a := 12) (by decide) (by omega)) (nle_i (b := 16) (by omega) (by decide)))
    have t0 : (nI s = 0) = (s = 0) := tt 0 (by decide)
    have t1 : (nI s = 1) = (s = 1) := tt 1 (by decide)
    have t2 : (nI s = 2) = (s = 2) := tt 2 (by decide)
    have t3 : (nI s = 3) = (s = 3) := tt 3 (by decide)
    have t4 : (nI s = 4) = (s = 4) := tt 4 (by decide)
    have t5 : (nI s = 5) = (s = 5) := tt 5 (by decide)
    have t6 : (nI s = 6) = (s = 6) := tt 6 (by decide)
    have t7 : (nI s = 7) = (s = 7) := tt 7 (by decide)
    have t8 : (nI s = 8) = (s = 8) := tt 8 (by decide)
    have t9 : (nI s = 9) = (s = 9) := tt 9 (by decide)
    have t10 : (nI s = 10) = (s = 10) := tt 10 (by decide)
    have t11 : (nI s = 11) = (s = 11) := tt 11 (by decide)
    have t12 : (nI s = 12) = (s = 12) := tt 12 (by decide)
    have t13 : (nI s = 13) = (s = 13) := tt 13 (by decide)
    have t14 : (nI s = 14) = (s = 14) := tt 14 (by decide)
    have t15 : (nI s = 15) = (s = 15) := tt 15 (by decide)
    have t16 : (nI s = 16) = (s = 16) := tt 16 (by decide)
    have t17 : (nI s = 17) = (s = 17) := tt 17 (by decide)
    unfold f_X8_status f_X9_status f_X9_status_183
    rw [within_s, within_s, in_i (b := 12) (B := 12) (c := 16) (C := 16) rfl rfl, w1, w2]
    simp only [t0, t1, t2, t3, t4, t5, t6, t7, t8, t9, t10, t11, t12, t13, t14, t15, t16, t17, bd_b, if_b]
    rcases (show s = 0 ∨ (1 ≤ s ∧ s ≤ 5) ∨ (6 ≤ s ∧ s ≤ 11) ∨ (12 ≤ s ∧ s ≤ 16) ∨ s = 17 by omega) with e | e | e | e | e
    · subst e
      exact ⟨_, rfl, by show some (A 0 17) = some (I 1 7); rw [hx.2.2.1.1, hm.2.2.1.1]⟩
    · rw [decide_eq_true e, if_pos rfl]
      have e1 : nI s - (1 : Int32) = nI (s - 1) := sub1_nI e.1
      rw [e1, gd_t (qin_n (show s - 1 < 5 by omega) (by decide)), clampI (by omega)]
      rcases (show s = 1 ∨ s = 2 ∨ s = 3 ∨ s = 4 ∨ s = 5 by omega) with rfl | rfl | rfl | rfl | rfl
      · exact told 0 (by decide)
      · exact told 1 (by decide)
      · exact told 2 (by decide)
      · exact told 3 (by decide)
      · exact told 4 (by decide)
    · rw [decide_eq_false (show ¬ (1 ≤ s ∧ s ≤ 5) by omega), decide_eq_false (show ¬ (12 ≤ s ∧ s ≤ 16) by omega)]
      rcases (show s = 6 ∨ s = 7 ∨ s = 8 ∨ s = 9 ∨ s = 10 ∨ s = 11 by omega) with rfl | rfl | rfl | rfl | rfl | rfl
      · exact ⟨_, rfl, by show some (A 0 14) = some (I 1 9); rw [hx.2.2.2.1, hm.2.2.2.1]⟩
      · exact ⟨_, rfl, by show some (A 0 15) = some (I 1 10); rw [hx.2.2.2.2.1, hm.2.2.2.2.1]⟩
      · exact ⟨_, rfl, by show some (A 0 16) = some (I 1 11); rw [hx.2.2.2.2.2.1, hm.2.2.2.2.2.1]⟩
      · exact ⟨_, rfl, by show some (A 0 18) = some (I 1 8); rw [hx.2.2.1.2, hm.2.2.1.2]⟩
      · exact ⟨_, rfl, by show some (A 0 7) = some (I 25 1); rw [l2, l3]⟩
      · exact ⟨_, rfl, by show some (A 0 25) = some (I 1 12); rw [hx.2.2.2.2.2.2, hm.2.2.2.2.2.2]⟩
    · have q1 : nI s - (12 : Int32) = nI (s - 12) := by
        rw [show nI s = nI (s - 12) + nI 12 by rw [add_nI, Nat.sub_add_cancel e.1]]
        exact Int32.add_sub_cancel _ _
      have q2 : nI s - (10 : Int32) = nI (s - 12 + 2) := by
        rw [show nI s = nI (s - 12 + 2) + nI 10 by rw [add_nI]; congr 1; omega]
        exact Int32.add_sub_cancel _ _
      rw [decide_eq_false (show ¬ (1 ≤ s ∧ s ≤ 5) by omega), decide_eq_true e, if_neg (by decide), if_pos rfl, q1, q2, gd_t (qin_n (show s - 12 < 5 by omega) (by decide)), clampI (by omega), gd_t (qin_n (show s - 12 + 2 < 8 by omega) (by decide)), clampI (by omega)]
      rcases (show s = 12 ∨ s = 13 ∨ s = 14 ∨ s = 15 ∨ s = 16 by omega) with rfl | rfl | rfl | rfl | rfl
      · exact ref 0 (by decide)
      · exact ref 1 (by decide)
      · exact ref 2 (by decide)
      · exact ref 3 (by decide)
      · exact ref 4 (by decide)
    · subst e
      exact lp
  · have ne : ∀ j : Nat, j ≤ 17 → ¬ p = nI j := fun j hj z => d ⟨by rw [z]; exact nI_pos' (by omega), by rw [z]; exact (nle_i (b := 17) (by omega) (by decide)).mpr hj⟩
    have n1 : ¬ ((1 : Int32) ≤ p ∧ p ≤ 5) := fun z => by
      obtain ⟨j, hj, hj2, e⟩ := nI_btw (a := 1) (b := 5) (by decide) z (by decide)
      exact ne j (by omega) e
    have n2 : ¬ ((12 : Int32) ≤ p ∧ p ≤ 16) := fun z => by
      obtain ⟨j, hj, hj2, e⟩ := nI_btw (a := 12) (b := 16) (by decide) z (by decide)
      exact ne j (by omega) e
    have t0 : ¬ p = 0 := ne 0 (by decide)
    have t1 : ¬ p = 1 := ne 1 (by decide)
    have t2 : ¬ p = 2 := ne 2 (by decide)
    have t3 : ¬ p = 3 := ne 3 (by decide)
    have t4 : ¬ p = 4 := ne 4 (by decide)
    have t5 : ¬ p = 5 := ne 5 (by decide)
    have t6 : ¬ p = 6 := ne 6 (by decide)
    have t7 : ¬ p = 7 := ne 7 (by decide)
    have t8 : ¬ p = 8 := ne 8 (by decide)
    have t9 : ¬ p = 9 := ne 9 (by decide)
    have t10 : ¬ p = 10 := ne 10 (by decide)
    have t11 : ¬ p = 11 := ne 11 (by decide)
    have t12 : ¬ p = 12 := ne 12 (by decide)
    have t13 : ¬ p = 13 := ne 13 (by decide)
    have t14 : ¬ p = 14 := ne 14 (by decide)
    have t15 : ¬ p = 15 := ne 15 (by decide)
    have t16 : ¬ p = 16 := ne 16 (by decide)
    have t17 : ¬ p = 17 := ne 17 (by decide)
    unfold f_X8_status f_X9_status f_X9_status_183
    rw [within_s, within_s, in_i (b := 12) (B := 12) (c := 16) (C := 16) rfl rfl, decide_eq_false n1, decide_eq_false n2]
    simp only [t0, t1, t2, t3, t4, t5, t6, t7, t8, t9, t10, t11, t12, t13, t14, t15, t16, t17, if_false, b2i_f, bd_s, eq_self, if_true]
    exact ⟨_, rfl, rfl⟩
/-- n longs moved -/
theorem mv_step {B0 : qJ} {k d n p : Nat} {g : Nat → Int64} (hp : p = d + n) (f : Nat → qJ) (hf : ∀ n, f n = fun a j => if a = k ∧ d ≤ j ∧ j < d + n then g (j - d) else B0 a j) : quL (f n) k p (g n) = f (n + 1) := by
  subst hp
  rw [hf, hf]
  funext a j
  rw [quL_at]
  by_cases e : a = k
  · subst e
    rw [if_pos rfl]
    by_cases h : j = d + n
    · subst h; rw [if_pos rfl, if_pos ⟨rfl, by omega, by omega⟩, Nat.add_sub_cancel_left]
    · rw [if_neg h]
      by_cases l : d ≤ j ∧ j < d + n
      · rw [if_pos ⟨rfl, l⟩, if_pos ⟨rfl, l.1, by omega⟩]
      · rw [if_neg (fun z => l z.2), if_neg (fun z => l ⟨z.2.1, by omega⟩)]
  · rw [if_neg e, if_neg (fun z => e z.1), if_neg (fun z => e z.1)]
/-- the reference's two walks -/
theorem m_move {s d x y n : Nat} (hs : s < 8) (hd : d < 8) (hx : x + n ≤ 40) (hy : y + n ≤ 40) (A : qI) (B : qJ) : ∃ B', f_X9_copy_195 1000 (nI s) (nI d) (nI x) (nI y) (nI n) (nI 0) A B = some (nI n, A, B') ∧ (∀ j, B' (5 + d) j = if y ≤ j ∧ j < y + n then B (5 + s) (x + (j - y)) else B (5 + d) j) ∧ (∀ k j, k ≠ 5 + d → k ≠ 13 → B' k j = B k j) := by
  have qs := qin_n hs (by decide)
  have qd := qin_n hd (by decide)
  have cs := clampI (show s < 2 ^ 31 by omega)
  have cd := clampI (show d < 2 ^ 31 by omega)
  have l2 : ∀ (B1 : qJ) f i, i ≤ n → n - i < f → f_X9_copy_229 f (nI d) (nI y) (nI n) (nI i) A (fun a j => if a = 5 + d ∧ y ≤ j ∧ j < y + i then B1 13 (j - y) else B1 a j) = some (nI n, A, fun a j => if a = 5 + d ∧ y ≤ j ∧ j < y + n then B1 13 (j - y) else B1 a j) := by
    intro B1 f
    induction f with
    | zero => intro i _ h; omega
    | succ f ih =>
      intro i hi hf
      rw [f_X9_copy_229, stopN' hi (by omega)]
      by_cases q : i = n
      · subst q; rw [if_pos rfl]
      · have e13 : (if 13 = 5 + d ∧ y ≤ i ∧ i < y + i then B1 13 (i - y) else B1 13 i) = B1 13 i := if_neg (fun z => by omega)
        rw [if_neg q, gd_t qd, gd_t (qin_n (show i < 40 by omega) (by decide)), add_nI, gd_t (qin_n (show y + i < 40 by omega) (by decide)), lt_e, cd, clampI (by omega), clampI (by omega), nI_1, e13, mv_step (g := fun j => B1 13 j) rfl (fun i a j => if a = 5 + d ∧ y ≤ j ∧ j < y + i then B1 13 (j - y) else B1 a j) (fun _ => rfl)]
        exact ih (i + 1) (by omega) (by omega)
  have l1 : ∀ f i, i ≤ n → n - i < f → f_X9_copy_195 f (nI s) (nI d) (nI x) (nI y) (nI n) (nI i) A (fun a j => if a = 13 ∧ 0 ≤ j ∧ j < 0 + i then B (5 + s) (x + (j - 0)) else B a j) = f_X9_copy_229 1000 (nI d) (nI y) (nI n) (nI 0) A (fun a j => if a = 13 ∧ 0 ≤ j ∧ j < 0 + n then B (5 + s) (x + (j - 0)) else B a j) := by
    intro f
    induction f with
    | zero => intro i _ h; omega
    | succ f ih =>
      intro i hi hf
      rw [f_X9_copy_195, stopN' hi (by omega)]
      by_cases q : i = n
      · subst q; rw [if_pos rfl]; rfl
      · have e5 : (if 5 + s = 13 ∧ 0 ≤ x + i ∧ x + i < 0 + i then B (5 + s) (x + (x + i - 0)) else B (5 + s) (x + i)) = B (5 + s) (x + i) := if_neg (fun z => by omega)
        have e6 := mv_step (B0 := B) (k := 13) (d := 0) (n := i) (p := i) (g := fun j => B (5 + s) (x + j)) (by omega) (fun i a j => if a = 13 ∧ 0 ≤ j ∧ j < 0 + i then B (5 + s) (x + (j - 0)) else B a j) (fun _ => rfl)
        rw [if_neg q, gd_t qs, add_nI, gd_t (qin_n (show x + i < 40 by omega) (by decide)), gd_t (qin_n (show i < 40 by omega) (by decide)), lt_e, cs, clampI (by omega), clampI (by omega), nI_1, e5, e6]
        exact ih (i + 1) (by omega) (by omega)
  have e0 : B = fun a j => if a = 13 ∧ 0 ≤ j ∧ j < 0 + 0 then B (5 + s) (x + (j - 0)) else B a j := by
    funext a j
    rw [if_neg (fun z => by omega)]
  have r1 := l1 1000 0 (by omega) (by omega)
  rw [← e0] at r1
  have r2 := l2 (fun a j => if a = 13 ∧ 0 ≤ j ∧ j < 0 + n then B (5 + s) (x + (j - 0)) else B a j) 1000 0 (by omega) (by omega)
  have e1 : (fun a j => if a = 5 + d ∧ y ≤ j ∧ j < y + 0 then (fun a j => if a = 13 ∧ 0 ≤ j ∧ j < 0 + n then B (5 + s) (x + (j - 0)) else B a j) 13 (j - y) else (fun a j => if a = 13 ∧ 0 ≤ j ∧ j < 0 + n then B (5 + s) (x + (j - 0)) else B a j) a j) = fun a j => if a = 13 ∧ 0 ≤ j ∧ j < 0 + n then B (5 + s) (x + (j - 0)) else B a j := by
    funext a j
    rw [if_neg (fun z => by omega)]
  rw [e1] at r2
  rw [r1, r2]
  refine ⟨_, rfl, fun j => ?_, fun k j h1 h2 => ?_⟩
  · by_cases l : y ≤ j ∧ j < y + n
    · show (if 5 + d = 5 + d ∧ y ≤ j ∧ j < y + n then (if 13 = 13 ∧ 0 ≤ j - y ∧ j - y < 0 + n then B (5 + s) (x + (j - y - 0)) else _) else _) = _
      rw [if_pos ⟨rfl, l⟩, if_pos ⟨rfl, by omega, by omega⟩, if_pos l, Nat.sub_zero]
    · show (if 5 + d = 5 + d ∧ y ≤ j ∧ j < y + n then _ else (if 5 + d = 13 ∧ 0 ≤ j ∧ j < 0 + n then _ else B (5 + d) j)) = _
      rw [if_neg (fun z => l z.2), if_neg (fun z => by omega), if_neg l]
  · show (if k = 5 + d ∧ y ≤ j ∧ j < y + n then _ else (if k = 13 ∧ 0 ≤ j ∧ j < 0 + n then _ else B k j)) = _
    rw [if_neg (fun z => h1 z.1), if_neg (fun z => h2 z.1)]
end S9
