/-! Pure: single calls, side by side (4). -/
section S4
variable {t : qF} {I : qI} {J : qJ} {A : qI} {B : qJ} {V : qV} {Z : qW}
theorem s_next (h : Rel t I J A B) (p : Int32) : Sim t J B (f_X8_next p I) (f_X9_next p A) := by
  obtain ⟨V, Z, ⟨hx, hm, hW⟩, -⟩ := id h
  refine sim_in p 0 99 (a := 0) (b := 99) rfl rfl (by decide) (by decide) rfl rfl (fun g _ hg e => ?_) (sim_bad h)
  subst e
  have loop : ∀ f k, k ≤ 100 → 100 - k < f → Sim t J B (f_X8_next_20 f (nI k) I) (f_X9_next_22 f (nI k) A) := by
    intro f
    induction f with
    | zero => intro k _ h; omega
    | succ f ih =>
      intro k hk hf
      rw [f_X8_next_20, f_X9_next_22]
      unfold f_X9_next_43
      by_cases q : k = 100
      · subst q; exact sim_same h _
      · have ih := ih (k + 1) (by omega) (by omega)
        have hs : ¬ (99 : Int32) < nI k := nI_nlt (a := 99) (by omega) (by omega)
        rw [if_neg hs, if_neg hs, if_neg hs, x_lets hx hW (by omega), m_goes hm hW (by omega), bd_b, bd_b, if_b, if_b, nI_1]
        split
        · exact sim_same h _
        · exact ih
  exact loop 1000 g (by omega) (by omega)
theorem lets_0 {V : qV} : sLets V 0 = false := by
  unfold sLets
  rw [decide_eq_false (by omega), Bool.false_and]
theorem s_before (h : Rel t I J A B) (p : Int32) : Sim t J B (f_X8_before p I) (f_X9_before p A) := by
  obtain ⟨V, Z, ⟨hx, hm, hW⟩, -⟩ := id h
  refine sim_in p 0 99 (a := 0) (b := 99) rfl rfl (by decide) (by decide) rfl rfl (fun g _ hg e => ?_) (sim_bad h)
  subst e
  have loop : ∀ f k, k ≤ 99 → k + 1 < f → Sim t J B (f_X8_before_20 f (nI k) I) (f_X9_before_22 f (nI k) A) := by
    intro f
    induction f with
    | zero => intro k _ h; omega
    | succ f ih =>
      intro k hk hf
      rw [f_X8_before_20, f_X9_before_22]
      cases k with
      | zero =>
        obtain ⟨f, rfl⟩ : ∃ g, f = g + 1 := ⟨f - 1, by omega⟩
        rw [if_pos (by decide), if_neg (by decide), m_goes hm hW (by decide), lets_0, bd_b, b2i_f, if_pos rfl, f_X9_before_22, if_pos (by decide)]
        exact sim_same h _
      | succ k =>
        have ih := ih k (by omega) (by omega)
        rw [if_neg (show ¬ nI (k + 1) < (1 : Int32) from nI_nlt (b := 1) (by omega) (by omega)), if_neg (nI_pos (by omega)), x_lets hx hW (by omega), m_goes hm hW (by omega), bd_b, bd_b, if_b, if_b, pk_m1]
        split
        · exact sim_same h _
        · exact ih
  exact loop 1000 g (by omega) (by omega)
theorem s_fullest (h : Rel t I J A B) (p : Int32) : Sim t J B (f_X8_fullest p I) (f_X9_fullest p A) := by
  obtain ⟨V, Z, ⟨hx, hm, hW⟩, -⟩ := id h
  have hn := hW.n
  have ha := hW.all
  have h9 := hW.2.1.2.2.2.2.1
  refine sim_in p 0 1 (a := 0) (b := 1) rfl rfl (by decide) (by decide) rfl rfl (fun g _ hg e => ?_) (sim_bad h)
  subst e
  have loop : ∀ f k, k ≤ 2 ^ V 7 0 → 2 ^ V 7 0 - k < f → ∀ c d : Int32, (d = -1 ∨ ∃ m, m ≤ 400 ∧ d = nI m) → Sim t J B (f_X8_fullest_24 f (nI g) c d (nI k) I) (f_X9_fullest_25 f (nI g) c d (nI k) A) := by
    intro f
    induction f with
    | zero => intro k _ h; omega
    | succ f ih =>
      intro k hk hf c d hd
      rw [f_X8_fullest_24, f_X9_fullest_25, x_every hx hW, bd_s, hm.2.2.1.1, stopX hn hk, stopM hn hk]
      by_cases q : k = 2 ^ V 7 0
      · rw [if_pos q, if_pos q]
        split
        · exact sim_same h _
        · exact sim_same h _
      · have ih := ih (k + 1) (by omega) (by omega)
        rw [if_neg q, if_neg q, x_hireNow hx hW (by omega), m_hireOf hm hW (by omega), bd_s, bd_s, x_HT hx hW (by omega), m_HT hm hW (by omega), bd_s, bd_s, bd_s]
        unfold f_X9_fullest_56 f_X9_fullest_70
        rw [nI_1]
        by_cases q2 : oI (sHire V k (V 8 0) (V 6 3)) = -1
        · have e : (-1 : Int32) ≤ d := by
            rcases hd with rfl | ⟨m, hm4, rfl⟩
            · decide
            · exact Int32.le_trans (show (-1 : Int32) ≤ 0 by decide) (nI_pos' (by omega))
          rw [if_pos q2, if_pos q2, if_pos e, if_pos e]
          exact ih _ _ hd
        · rw [if_neg q2, if_neg q2]
          by_cases q3 : nI (sHT V k) ≤ d
          · rw [if_pos q3, if_pos q3, if_pos q3]
            exact ih _ _ hd
          · rw [if_neg q3, if_neg q3, if_neg q3]
            exact ih _ _ (Or.inr ⟨_, sHT_le hW k, rfl⟩)
  exact loop 1000 1 Nat.one_le_two_pow (by omega) _ _ (Or.inl rfl)
theorem nI_ne_m1 {k : Nat} (hk : k < 2 ^ 31) : ¬ nI k = -1 := fun q => by
  have := nI_pos hk
  rw [q] at this
  exact this (by decide)
theorem s_along (h : Rel t I J A B) (p : Int32) : Sim t J B (f_X8_along p I) (f_X9_along p A) := by
  obtain ⟨V, Z, ⟨hx, hm, hW⟩, -⟩ := id h
  have hn := hW.n
  refine sim_wait (m2 := fun I2 => f_X9_along_20 1000 p (-1 : Int32) (0 : Int32) (0 : Int32) I2) h hx hm hW p (fun a ha ha8 e _ => ?_)
  subst e
  have loop : ∀ f k, k ≤ V 7 0 → V 7 0 - k < f → ∀ c d d' : Int32, (c = -1 ∨ d = d') → Sim t J B (f_X8_along_24 f (nI a) c d (nI k) I) (f_X9_along_20 f (nI a) c d' (nI k) A) := by
    intro f
    induction f with
    | zero => intro k _ h; omega
    | succ f ih =>
      intro k hk hf c d d' hd
      rw [f_X8_along_24, f_X9_along_20, hx.2.2.1.1, hm.2.2.1.1, stopN hn hk, stopN hn hk]
      by_cases q : k = V 7 0
      · rw [if_pos q, if_pos q]; exact sim_same h _
      · have ih := ih (k + 1) (by omega) (by omega)
        have key : ∀ x : Int32, Sim t J B (f_X8_along_61 (f_X8_along_24 f) (nI a) c d (nI k) x I) (f_X9_along_51 (f_X9_along_20 f) (nI a) c d' (nI k) x A) := by
          intro x
          unfold f_X8_along_61 f_X9_along_51 f_X8_along_81 f_X9_along_75 f_X9_along_71 f_X9_along_76 f_X9_along_89
          rw [nI_1, if_pos rfl, if_pos rfl, if_neg (show ¬ (1 : Int32) = 0 by decide), if_neg (show ¬ (1 : Int32) = 0 by decide)]
          by_cases q1 : x = -1
          · rw [if_pos q1, if_pos q1]; exact ih _ _ _ hd
          · rw [if_neg q1, if_neg q1]
            by_cases q2 : c = -1
            · rw [if_pos q2, if_pos q2]; exact ih _ _ _ (Or.inr rfl)
            · rw [if_neg q2, if_neg q2]
              have e : d = d' := hd.resolve_left q2
              subst e
              split
              · exact ih _ _ _ (Or.inr rfl)
              · exact ih _ _ _ (Or.inr rfl)
        rw [if_neg q, if_neg q, one_shl (by omega), one_shl (by omega), or_nI, x_hireNow hx hW (two_lt (by omega) (by omega)), m_hireOf hm hW (two_lt (by omega) (by omega)), bd_s, bd_s]
        split
        · exact key _
        · exact key _
  exact loop 1000 0 (Nat.zero_le _) (by omega) _ _ _ (Or.inl rfl)
theorem s_cheapest (h : Rel t I J A B) (p : Int32) : Sim t J B (f_X8_cheapest p I) (f_X9_cheapest p A) := by
  obtain ⟨V, Z, ⟨hx, hm, hW⟩, -⟩ := id h
  have hn := hW.n
  have hall := hW.all
  refine sim_wait (m2 := fun I2 => f_X9_cheapest_20 1000 p (-1 : Int32) (0 : Int32) (1 : Int32) I2) h hx hm hW p (fun a ha ha8 e _ => ?_)
  subst e
  have loop : ∀ f k, k ≤ 2 ^ V 7 0 → 2 ^ V 7 0 - k < f → ∀ c d d' : Int32, (c = -1 ∨ d = d') → Sim t J B (f_X8_cheapest_24 f (nI a) c d (nI k) I) (f_X9_cheapest_20 f (nI a) c d' (nI k) A) := by
    intro f
    induction f with
    | zero => intro k _ h; omega
    | succ f ih =>
      intro k hk hf c d d' hd
      rw [f_X8_cheapest_24, f_X9_cheapest_20, x_every hx hW, bd_s, hm.2.2.1.1, stopX hn hk, stopM hn hk]
      by_cases q : k = 2 ^ V 7 0
      · rw [if_pos q, if_pos q]; exact sim_same h _
      · have ih := ih (k + 1) (by omega) (by omega)
        have key : ∀ x : Int32, Sim t J B (f_X8_cheapest_58 (f_X8_cheapest_24 f) (nI a) c d (nI k) x I) (f_X9_cheapest_51 (f_X9_cheapest_20 f) (nI a) c d' (nI k) x A) := by
          intro x
          unfold f_X8_cheapest_58 f_X9_cheapest_51 f_X8_cheapest_78 f_X9_cheapest_75 f_X9_cheapest_71 f_X9_cheapest_76 f_X9_cheapest_89
          rw [nI_1, if_pos rfl, if_pos rfl, if_neg (show ¬ (1 : Int32) = 0 by decide), if_neg (show ¬ (1 : Int32) = 0 by decide)]
          by_cases q1 : x = -1
          · rw [if_pos q1, if_pos q1]; exact ih _ _ _ hd
          · rw [if_neg q1, if_neg q1]
            by_cases q2 : c = -1
            · rw [if_pos q2, if_pos q2]; exact ih _ _ _ (Or.inr rfl)
            · rw [if_neg q2, if_neg q2]
              have e : d = d' := hd.resolve_left q2
              subst e
              split
              · exact ih _ _ _ (Or.inr rfl)
              · exact ih _ _ _ (Or.inr rfl)
        rw [if_neg q, if_neg q, f_has (by omega) (by omega), bd_b, if_b, if_d (has_nI (by omega) (by omega)), x_hireNow hx hW (by omega), m_hireOf hm hW (by omega), bd_s, bd_s]
        split
        · exact key _
        · exact key _
  exact loop 1000 1 Nat.one_le_two_pow (by omega) _ _ _ (Or.inl rfl)
end S4
