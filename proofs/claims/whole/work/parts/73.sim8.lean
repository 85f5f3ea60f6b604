/-! Pure: shelves and the tape, side by side (2). -/
section S8
variable {t : qF} {I : qI} {J : qJ} {A : qI} {B : qJ} {V : qV} {Z : qW}
theorem sub1_m {n : Nat} (hn : n < 2 ^ 31) {p : Int32} (h : 0 ≤ p ∧ p ≤ nI n - 1) : ∃ k, k < n ∧ p = nI k := by
  cases n with
  | zero =>
    exfalso
    have h1 : (0 : Int32) ≤ nI 0 - 1 := Int32.le_trans h.1 h.2
    exact absurd h1 (by decide)
  | succ n =>
    rw [sub1_nI (by omega)] at h
    obtain ⟨k, -, hk, rfl⟩ := nI_btw (a := 0) (by omega) h (by decide)
    exact ⟨k, by omega, rfl⟩
theorem trouble (h : Rel t I J A B) (p : Int32) :
    (∃ s k m, s < 8 ∧ k < 5 ∧ m ≤ 40 ∧ p = nI s ∧ f_X8_rowTrouble p I = some 0 ∧ f_X9_noRow p A = some (0, A) ∧ I (28 + 2 * s) 1 = nI k ∧ A 1 s = 1 ∧ A 2 s = nI k ∧ I (28 + 2 * s) 2 = nI m ∧ A 3 s = nI m ∧ (∀ j, j < 40 → J (29 + 2 * s) j = B (5 + s) j)) ∨
    (∃ c, ∃ w : Int32, c < 5 ∧ w = -1002 - nI c ∧ ¬ w = 0 ∧ f_X8_rowTrouble p I = some w ∧ f_X9_noRow p A = some (w, qu A 16 (c + 2) (A 16 (c + 2) + 1))) := by
  unfold f_X8_rowTrouble f_X9_noRow
  rw [isShelf_s, within_s, in_i (b := 0) (B := 0) (c := 7) (C := 7) rfl rfl, bd_b, bd_b, if_b, if_b]
  by_cases d : (0 : Int32) ≤ p ∧ p ≤ 7
  · rw [decide_eq_true d, if_pos rfl, if_pos rfl]
    obtain ⟨s, -, hs, rfl⟩ := nI_btw (a := 0) (b := 7) (by decide) d (by decide)
    have hs8 : s < 8 := by omega
    have q8 := qin_n hs8 (by decide)
    have c8 := clampI (show s < 2 ^ 31 by omega)
    obtain ⟨n, hn, -, hr⟩ := h.sh hs8
    obtain ⟨c, hc, a1, x1, x2, r1, -, -⟩ := shelf_st hr hn
    obtain ⟨hj, ⟨m, hm, l1, l2⟩, -⟩ := hr
    simp only [gd_t q8, c8, x1, x2, a1, bd_s]
    rcases hc with rfl | rfl | rfl
    · refine Or.inr ⟨2, -1004, by decide, by decide, by decide, rfl, ?_⟩
      show (bd2 (f_X9_refuse (-1004) A) fun v I => some (v, I)) = _
      rw [show (-1004 : Int32) = -1002 - nI 2 from by decide, m_refuse A 2 (by decide)]
      rfl
    · obtain ⟨k, hk, e1, e2⟩ := r1 rfl
      exact Or.inl ⟨s, k, m, hs8, hk, hm, rfl, rfl, rfl, e1, a1, e2, l1, l2, hj⟩
    · refine Or.inr ⟨1, -1003, by decide, by decide, by decide, rfl, ?_⟩
      show (bd2 (f_X9_refuse (-1003) A) fun v I => some (v, I)) = _
      rw [show (-1003 : Int32) = -1002 - nI 1 from by decide, m_refuse A 1 (by decide)]
      rfl
  · rw [decide_eq_false d, if_neg (by decide), if_neg (by decide)]
    refine Or.inr ⟨0, -1002, by decide, by decide, by decide, rfl, ?_⟩
    rw [show (-1002 : Int32) = -1002 - nI 0 from by decide, m_refuse A 0 (by decide)]
    rfl
theorem places {s k m : Nat} (hk : k < 5) (e1 : I (28 + 2 * s) 1 = nI k) (e2 : I (28 + 2 * s) 2 = nI m) (x y : Int32) : f_X6_hasPlaces (28 + 2 * s) x y I = some (b2i (decide (0 ≤ y ∧ y ≤ nI m) && decide (0 ≤ x ∧ x ≤ nI m - y))) := by
  unfold f_X6_hasPlaces f_X6_hasRow
  rw [within_s, within_s, within_s, e1, e2, bd_s, gd_b, bd_b, bd_b, bd_b, if_b, if_b, if_b, decide_eq_true (show (0 : Int32) ≤ nI k ∧ nI k ≤ 4 from ⟨nI_pos' (by omega), (nle_i (b := 4) (by omega) (by decide)).mpr (by omega)⟩), if_pos rfl]
  cases decide (0 ≤ y ∧ y ≤ nI m) <;> cases decide (0 ≤ x ∧ x ≤ nI m - y) <;> rfl
theorem places1 {s k m : Nat} (hk : k < 5) (hm : m ≤ 40) (e1 : I (28 + 2 * s) 1 = nI k) (e2 : I (28 + 2 * s) 2 = nI m) (x : Int32) : f_X6_hasPlaces (28 + 2 * s) x 1 I = some (b2i (decide (0 ≤ x ∧ x ≤ nI m - 1))) := by
  rw [places hk e1 e2]
  by_cases c : 1 ≤ m
  · rw [decide_eq_true (show (0 : Int32) ≤ 1 ∧ 1 ≤ nI m from ⟨by decide, (nle_i (a := 1) (by decide) (by omega)).mpr c⟩), Bool.true_and]
  · have e : m = 0 := by omega
    subst e
    rw [decide_eq_false (show ¬ ((0 : Int32) ≤ x ∧ x ≤ nI 0 - 1) from fun z => by
      obtain ⟨k, hk, -⟩ := sub1_m (n := 0) (by decide) z
      omega), Bool.and_false]
theorem fit_s {k : Nat} (hk : k < 5) {s : Nat} (e1 : I (28 + 2 * s) 1 = nI k) (x : Int64) : ∃ v, f_X6_narrowed (28 + 2 * s) x I = some v ∧ f_X9_fit (nI k) x = some v := by
  unfold f_X6_narrowed f_X9_fit
  rw [e1]
  rcases (show k = 0 ∨ k = 1 ∨ k = 2 ∨ k = 3 ∨ k = 4 by omega) with rfl | rfl | rfl | rfl | rfl
  · exact ⟨_, rfl, rfl⟩
  · exact ⟨_, rfl, rfl⟩
  · exact ⟨_, rfl, rfl⟩
  · exact ⟨_, rfl, rfl⟩
  · change ∃ v, (if lg_cmp x 0 = 0 then some (0 : Int64) else some (1 : Int64)) = some v ∧ (if lg_cmp x 0 = 0 then some (0 : Int64) else some (1 : Int64)) = some v
    split
    · exact ⟨_, rfl, rfl⟩
    · exact ⟨_, rfl, rfl⟩
theorem RH.row {n s k m : Nat} {J' : qJ} {B' : qJ} (hk : k < 5) (hm : m ≤ 40) (e1 : I (28 + 2 * s) 1 = nI k) (a1 : A 1 s = 1) (a2 : A 2 s = nI k) (l1 : I (28 + 2 * s) 2 = nI m) (l2 : A 3 s = nI m) (hj : ∀ j, j < 40 → J' (29 + 2 * s) j = B' (5 + s) j) : RH n I J' A B' s := ⟨hj, ⟨m, hm, l1, l2⟩, Or.inr (Or.inl ⟨k, hk, e1, a1, a2⟩)⟩
theorem s_set (h : Rel t I J A B) (p q : Int32) (r : Int64) : SimJ t (f_X8_set p q r I J) (f_X9_set p q r A B) := by
  unfold f_X8_set f_X9_set f_X8_set_31
  rcases trouble h p with ⟨s, k, m, hs8, hk, hm, rfl, t1, t2, e1, a1, a2, l1, l2, hj⟩ | ⟨c, w, hc, hw, w0, t1, t2⟩
  · have q8 := qin_n hs8 (by decide)
    have c8 := clampI (show s < 2 ^ 31 by omega)
    rw [t1, t2, bd_s, bd2_s]
    simp only [eq_self, if_true, gd_t q8, c8, places1 hk hm e1 l1, l2, a2, bd_b, if_b]
    rw [in_i (b := 0) (B := 0) (c := nI m - 1) rfl rfl, bd_b, if_b]
    by_cases d : (0 : Int32) ≤ q ∧ q ≤ nI m - 1
    · obtain ⟨j, hj2, rfl⟩ := sub1_m (by omega) d
      obtain ⟨v, v1, v2⟩ := fit_s hk e1 r
      have qj := qin_n (show j < 40 by omega) (by decide)
      unfold f_X6_put
      rw [decide_eq_true d, if_pos rfl, if_pos rfl, places1 hk hm e1 l1, decide_eq_true d, bd_b, if_b, if_pos rfl, v1, v2, bd_s, bd_s, gd_t qj, gd_t qj, clampI (by omega), lt_e, lt_e, bd_s]
      refine ⟨_, _, _, _, _, rfl, rfl, h.shelf hs8 (fun _ _ _ => rfl) (fun a i z => by rw [quL_at, if_neg (by omega)]) (fun _ _ _ => rfl) (fun a i z _ => by rw [quL_at, if_neg z]) (fun n _ _ _ => RH.row hk hm e1 a1 a2 l1 l2 fun i hi => ?_)⟩
      rw [quL_at, quL_at, if_pos (by omega), if_pos rfl]
      by_cases g : i = j
      · rw [if_pos g, if_pos g]
      · rw [if_neg g, if_neg g, show 28 + 2 * s + 1 = 29 + 2 * s by omega]; exact hj i hi
    · rw [decide_eq_false d, if_neg (by decide), if_neg (by decide), if_neg (by decide)]
      exact simJ_bad h
  · rw [t1, t2, bd_s, bd2_s, if_neg w0, if_neg w0, if_neg w0, hw, x_refuse I c hc]
    exact ⟨_, _, _, _, _, rfl, rfl, h.ref hc⟩
theorem s_element (h : Rel t I J A B) (p q : Int32) : ∃ r, f_X8_element p q I J = some r ∧ f_X9_element p q A B = some r := by
  unfold f_X8_element f_X9_element f_X6_at
  rw [isShelf_s, within_s, in_i (b := 0) (B := 0) (c := 7) (C := 7) rfl rfl, bd_b, bd_b, if_b, if_b]
  by_cases d : (0 : Int32) ≤ p ∧ p ≤ 7
  · rw [decide_eq_true d, if_pos rfl, if_pos rfl]
    obtain ⟨s, -, hs, rfl⟩ := nI_btw (a := 0) (b := 7) (by decide) d (by decide)
    have hs8 : s < 8 := by omega
    have q8 := qin_n hs8 (by decide)
    have c8 := clampI (show s < 2 ^ 31 by omega)
    obtain ⟨n, hn, -, hr⟩ := h.sh hs8
    obtain ⟨c, hc, a1, x1, x2, r1, -, -⟩ := shelf_st hr hn
    obtain ⟨hj, ⟨m, hm, l1, l2⟩, -⟩ := hr
    simp only [gd_t q8, c8, a1]
    by_cases c1 : c = 1
    · obtain ⟨k, hk, e1, e2⟩ := r1 c1
      subst c1
      rw [if_pos (show nI 1 = (1 : Int32) from rfl), places1 hk hm e1 l1, l2, in_i (b := 0) (B := 0) (c := nI m - 1) rfl rfl, bd_b, bd_b, if_b, if_b]
      by_cases d2 : (0 : Int32) ≤ q ∧ q ≤ nI m - 1
      · obtain ⟨j, hj2, rfl⟩ := sub1_m (by omega) d2
        have qj := qin_n (show j < 40 by omega) (by decide)
        rw [decide_eq_true d2, if_pos rfl, if_pos rfl, gd_t qj, gd_t qj, clampI (by omega), bd_s, show 28 + 2 * s + 1 = 29 + 2 * s by omega, hj j (by omega)]
        exact ⟨_, rfl, rfl⟩
      · rw [decide_eq_false d2, if_neg (by decide), if_neg (by decide)]
        exact ⟨_, rfl, rfl⟩
    · have e0 : f_X6_hasPlaces (28 + 2 * s) q 1 I = some 0 := by
        unfold f_X6_hasPlaces
        rw [x1, decide_eq_false c1]; rfl
      rw [e0, if_neg (show ¬ nI c = (1 : Int32) from fun z => c1 ((nI_inj (b := 1) (by omega) (by decide)).mp z))]
      exact ⟨_, rfl, rfl⟩
  · rw [decide_eq_false d, if_neg (by decide), if_neg (by decide)]
    exact ⟨_, rfl, rfl⟩
theorem s_holds (h : Rel t I J A B) (p : Int32) : ∃ r, f_X8_holds p I = some r ∧ f_X9_holds p A = some r := by
  unfold f_X8_holds f_X9_holds
  rw [isShelf_s, within_s, in_i (b := 0) (B := 0) (c := 7) (C := 7) rfl rfl, bd_b, bd_b, if_b, if_b]
  by_cases d : (0 : Int32) ≤ p ∧ p ≤ 7
  · rw [decide_eq_true d, if_pos rfl, if_pos rfl]
    obtain ⟨s, -, hs, rfl⟩ := nI_btw (a := 0) (b := 7) (by decide) d (by decide)
    have hs8 : s < 8 := by omega
    have q8 := qin_n hs8 (by decide)
    have c8 := clampI (show s < 2 ^ 31 by omega)
    obtain ⟨n, hn, -, hr⟩ := h.sh hs8
    obtain ⟨c, hc, a1, x1, x2, r1, r2, r0⟩ := shelf_st hr hn
    simp only [gd_t q8, c8, a1]
    rcases hc with rfl | rfl | rfl
    · rw [r0 rfl]; exact ⟨_, rfl, rfl⟩
    · obtain ⟨k, -, e1, e2⟩ := r1 rfl
      rw [e1, e2]; exact ⟨_, rfl, rfl⟩
    · obtain ⟨k, -, e1, e2⟩ := r2 rfl
      rw [e1, e2, show (10 : Int32) = nI 10 from rfl, add_nI]; exact ⟨_, rfl, rfl⟩
  · rw [decide_eq_false d, if_neg (by decide), if_neg (by decide)]
    exact ⟨_, rfl, rfl⟩
theorem s_show (h : Rel t I J A B) (p q : Int32) : Sim t J B (f_X8_show p q I) (f_X9_show p q A) := by
  unfold f_X8_show f_X9_show
  rw [isShelf_s]
  refine sim_in p 0 7 (a := 0) (b := 7) rfl rfl (by decide) (by decide) rfl rfl (fun s _ hs e => ?_) (sim_bad h)
  subst e
  have hs8 : s < 8 := by omega
  have q8 := qin_n hs8 (by decide)
  have c8 := clampI (show s < 2 ^ 31 by omega)
  unfold f_X8_show_31 f_X9_show_33 f_X9_show_48 f_X6_takeParty f_X6_takeParty_14
  have oA : ∀ (x y : Int32) (k j : Nat), ¬ ((k = 1 ∨ k = 2 ∨ k = 3 ∨ k = 14) ∧ j = s) → qu (qu A 1 s x) 14 s y k j = A k j := fun x y k j z => by
    rw [qu_at]
    by_cases e : k = 14
    · subst e; rw [if_pos rfl, if_neg (by omega), qu_k (by decide)]
    · rw [if_neg e, qu_at]
      by_cases e : k = 1
      · subst e; rw [if_pos rfl, if_neg (by omega)]
      · rw [if_neg e]
  by_cases c : q = -1
  · simp only [if_pos c, gd_t q8, c8, lt_e, bd_s]
    refine ⟨_, _, _, rfl, rfl, h.shelf hs8 (fun a j z => by rw [qu_k z]) (fun _ _ _ => rfl) (oA _ _) (fun _ _ _ _ => rfl) (fun n _ _ hr => ?_)⟩
    obtain ⟨hj, ⟨m, hm, l1, l2⟩, -⟩ := hr
    refine ⟨hj, ⟨m, hm, ?_, ?_⟩, Or.inl ⟨qu_s, ?_⟩⟩
    · rw [qu_i (by decide)]; exact l1
    · rw [qu_k (by decide), qu_k (by decide)]; exact l2
    · rw [qu_k (by decide), qu_s]
  · obtain ⟨V, Z, ⟨hx, hm, hW⟩, -⟩ := id h
    simp only [if_neg c, gd_t q8, c8, lt_e, bd_s]
    refine sim_pty hx hm hW q (fun k hk hk8 e => ?_) (sim_bad h)
    subst e
    refine ⟨_, _, _, rfl, rfl, h.shelf hs8 (fun a j z => by rw [qu_k z]) (fun _ _ _ => rfl) (oA _ _) (fun _ _ _ _ => rfl) (fun n hn8 hn hr => ?_)⟩
    have en : n = V 7 0 := (nI_inj (by omega) (by have := hW.n; omega)).mp (hn.symm.trans hx.2.2.1.1)
    obtain ⟨hj, ⟨m, hm, l1, l2⟩, -⟩ := hr
    refine ⟨hj, ⟨m, hm, ?_, ?_⟩, Or.inr (Or.inr ⟨k, by omega, ?_, ?_, ?_⟩)⟩
    · rw [qu_i (by decide)]; exact l1
    · rw [qu_k (by decide), qu_k (by decide)]; exact l2
    · rw [qu_s, show (10 : Int32) = nI 10 from rfl, add_nI]
    · rw [qu_k (by decide), qu_s]
    · rw [qu_s]
theorem iok_I (I : qI) : ∀ (n : Nat) (a b c : Int32), f_X8_isOfKind_4 I n a b c = f_X8_isOfKind_4 (fun _ _ => 0) n a b c := by
  intro n
  induction n with
  | zero => intro a b c; rfl
  | succ n ih => intro a b c; rw [f_X8_isOfKind_4, f_X8_isOfKind_4]; simp only [ih]
theorem iok_tab : ∀ k, k < 6 → ∀ q, q < 6 → f_X8_isOfKind (nI k) (nI q) (fun _ _ => 0) = f_X9_isUnder (nI k) (nI q) ∧ (f_X9_isUnder (nI k) (nI q) = some 0 ∨ f_X9_isUnder (nI k) (nI q) = some 1) := by decide +kernel
theorem iok {k q : Nat} (hk : k < 6) (hq : q < 6) : ∃ b, f_X8_isOfKind (nI k) (nI q) I = some (b2i b) ∧ f_X9_isUnder (nI k) (nI q) = some (b2i b) := by
  obtain ⟨h1, h2⟩ := iok_tab k hk q hq
  have e : f_X8_isOfKind (nI k) (nI q) I = f_X8_isOfKind (nI k) (nI q) (fun _ _ => 0) := iok_I I 1000 _ _ _
  rcases h2 with h2 | h2
  · exact ⟨false, by rw [e, h1, h2]; rfl, h2⟩
  · exact ⟨true, by rw [e, h1, h2]; rfl, h2⟩
theorem s_says (h : Rel t I J A B) (p q : Int32) : Sim t J B (f_X8_says p q I) (f_X9_says p q A) := by
  obtain ⟨V, Z, ⟨hx, hm, hW⟩, -⟩ := id h
  unfold f_X8_says f_X9_says
  rw [isShelf_s, isKind_s]
  refine sim_in p 0 7 (a := 0) (b := 7) rfl rfl (by decide) (by decide) rfl rfl (fun s _ hs e => ?_) (sim_bad h)
  subst e
  refine sim_in q 0 5 (a := 0) (b := 5) rfl rfl (by decide) (by decide) rfl rfl (fun g _ hg e => ?_) (sim_bad h)
  subst e
  have hs8 : s < 8 := by omega
  have q8 := qin_n hs8 (by decide)
  have c8 := clampI (show s < 2 ^ 31 by omega)
  obtain ⟨n, hn, hn7, hr⟩ := h.sh hs8
  have en : n = V 7 0 := (nI_inj (by omega) (by have := hW.n; omega)).mp (hn7.symm.trans hx.2.2.1.1)
  obtain ⟨c, hc, a1, x1, x2, r1, r2, r0⟩ := shelf_st hr hn
  unfold f_X9_says_78 f_X6_partyNumber
  simp only [gd_t q8, c8, a1, x1, x2, bd_b, if_b, bd_s]
  rcases hc with rfl | rfl | rfl
  · exact sim_nothing h
  · exact sim_other h
  · obtain ⟨k, hk, e1, e2⟩ := r2 rfl
    have hk8 : k < 8 := by omega
    have qk := qin_n hk8 (by decide)
    have ck := clampI (show k < 2 ^ 31 by omega)
    have k0 : A 17 k = nI (V 0 k) := hm.a (i := 0) (by decide) hk8
    have k3 : A 20 k = nI (V 3 k) := hm.a (i := 3) (by decide) hk8
    have x0 : I (1 + 1) k = nI (V 0 k) := hx.a (i := 0) (by decide) hk8
    have x3 : I (1 + 4) k = nI (V 3 k) := hx.a (i := 3) (by decide) hk8
    have es : nI (10 + k) - (10 : Int32) = nI k := by
      rw [Nat.add_comm, ← add_nI]
      exact Int32.add_sub_cancel _ _
    obtain ⟨b, b1, b2⟩ := iok (I := I) (hW.2.2.1 k hk8).1 (show g < 6 by omega)
    rw [e1, es, e2]
    simp only [gd_t qk, ck, k0, k3, x0, x3, b1, b2, bd_b, if_b, x_pty hx, m_headsOf hm hW hk8, x_headsOf hx hW hk8, bd_s]
    rw [decide_eq_true (show (0 : Int32) ≤ nI k ∧ nI k ≤ nI (V 7 0) - 1 from ⟨nI_pos' (by omega), by rw [sub1_nI (by omega)]; exact (nle_i (by omega) (by omega)).mpr (by omega)⟩)]
    cases b
    · exact sim_other h
    · by_cases g0 : nI g = 0
      · simp only [if_pos g0]
        exact sim_same h _
      · simp only [if_neg g0]
        exact sim_same h _
end S8
