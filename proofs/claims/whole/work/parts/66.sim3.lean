/-! Pure: single calls, side by side (3). -/
section S3
variable {t : qF} {I : qI} {J : qJ} {A : qI} {B : qJ} {V : qV} {Z : qW}
theorem oI_0 {o : Option Nat} (h : ∀ k, o = some k → k < 2 ^ 31) : oI o = 0 ↔ o = some 0 := by
  cases o with
  | none => exact ⟨fun q => absurd q (by decide), fun q => by cases q⟩
  | some k =>
    have hk := h k rfl
    refine ⟨fun q => ?_, fun q => by cases q; rfl⟩
    rw [(nI_z hk).mp q]
theorem sLH_0 {V : qV} {hd j : Nat} : sLH V hd (j + 1) 0 = some 0 ↔ sLets V hd = true := by
  unfold sLH
  by_cases c : sLets V (hd + 0) = true
  · rw [if_pos c]; exact ⟨fun _ => c, fun _ => rfl⟩
  · rw [if_neg c]
    refine ⟨fun q => ?_, fun q => absurd q c⟩
    have := sLH_le q
    omega
theorem sHire_0 {V : qV} {g ov m : Nat} : sHire V g ov m = some 0 ↔ sAg V g ov = true ∧ sLets V (sHT V g) = true := by
  unfold sHire
  by_cases c : sAg V g ov = true
  · rw [if_pos c, sLH_0]; exact ⟨fun q => ⟨c, q⟩, fun q => q.2⟩
  · rw [if_neg c]; exact ⟨fun q => absurd q (fun z => by cases z), fun q => absurd q.1 c⟩
theorem s_alone (h : Rel t I J A B) : ∃ r, f_X8_alone I = some r ∧ f_X9_alone A = some r := by
  obtain ⟨V, Z, ⟨hx, hm, hW⟩, -⟩ := id h
  have hn := hW.n
  have ho := ov_lt hW
  have h9 := hW.2.1.2.2.2.2.1
  have loop : ∀ f k, k ≤ V 7 0 → V 7 0 - k < f → ∀ c : Int32, ∃ r, f_X8_alone_4 I f c (nI k) = some r ∧ f_X9_alone_4 A f c (nI k) = some r := by
    intro f
    induction f with
    | zero => intro k _ h; omega
    | succ f ih =>
      intro k hk hf c
      rw [f_X8_alone_4, f_X9_alone_4, hx.2.2.1.1, hm.2.2.1.1, stopN hn hk, stopN hn hk]
      by_cases q : k = V 7 0
      · rw [if_pos q, if_pos q]; exact ⟨_, rfl, rfl⟩
      · have hp : 2 ^ k < 2 ^ 31 := Nat.pow_lt_pow_right (by decide) (by omega)
        have ih := ih (k + 1) (by omega) (by omega)
        rw [if_neg q, if_neg q, one_shl (by omega), x_hireNow hx hW hp, show (0 : Int32) = nI 0 from rfl, m_hireUpTo hm hW hp (by omega) hm.2.2.1.2 (by omega), bd_s, bd_s, nI_1, lt_e, lt_e]
        have e1 : oI (sHire V (2 ^ k) (V 8 0) (V 6 3)) = nI 0 ↔ sAg V (2 ^ k) (V 8 0) = true ∧ sLets V (sHT V (2 ^ k)) = true := (oI_0 fun j hj => by have := sHire_le hj; omega).trans sHire_0
        have e2 : oI (sHire V (2 ^ k) (V 8 0) 0) = nI 0 ↔ sAg V (2 ^ k) (V 8 0) = true ∧ sLets V (sHT V (2 ^ k)) = true := (oI_0 fun j hj => by have := sHire_le hj; omega).trans sHire_0
        by_cases c1 : sAg V (2 ^ k) (V 8 0) = true ∧ sLets V (sHT V (2 ^ k)) = true
        · rw [if_pos (e1.mpr c1), if_pos (e2.mpr c1)]; exact ih _
        · rw [if_neg (fun z => c1 (e1.mp z)), if_neg (fun z => c1 (e2.mp z)), show c ||| nI 0 = c from Int32.or_zero]; exact ih _
  exact loop 1000 0 (Nat.zero_le _) (by omega) 0
theorem s_purses (h : Rel t I J A B) (p : Int32) : Sim t J B (f_X8_purses p I) (f_X9_purses p A) := by
  obtain ⟨V, Z, ⟨hx, hm, hW⟩, -⟩ := id h
  have hn := hW.n
  refine sim_grp hx hm hW p (fun g hg hg2 e => ?_) (sim_bad h)
  subst e
  have loop : ∀ f k, k ≤ V 7 0 → V 7 0 - k < f → ∀ c : Int32, Sim t J B (f_X8_purses_23 f (nI g) c (nI k) I) (f_X9_purses_21 f (nI g) c (nI k) A) := by
    intro f
    induction f with
    | zero => intro k _ h; omega
    | succ f ih =>
      intro k hk hf c
      rw [f_X8_purses_23, f_X9_purses_21, hx.2.2.1.1, hm.2.2.1.1, stopN hn hk, stopN hn hk]
      by_cases q : k = V 7 0
      · rw [if_pos q, if_pos q]; exact sim_same h _
      · have ih := ih (k + 1) (by omega) (by omega)
        have k3 : A 20 k = nI (V 3 k) := hm.1.2.2.2.1 k (by omega)
        rw [if_neg q, if_neg q, f_has (by omega) (by omega), bd_b, if_b, if_d (has_nI (by omega) (by omega)), gd_t (qin_n (by omega) (by decide)), gd_t (qin_n (by omega) (by decide)), nI_clamp (by omega), hx.1.2.2.2.1 k (by omega), k3, nI_1, Int32.add_zero]
        split
        · exact ih _
        · exact ih _
  exact loop 1000 0 (Nat.zero_le _) (by omega) 0
theorem isKind_s (p : Int32) : f_X8_isKind p = f_X8_within p 0 5 := by
  unfold f_X8_isKind
  rw [within_s, bd_s, gd_b]
theorem isShelf_s (p : Int32) : f_X8_isShelf p = f_X8_within p 0 7 := by
  unfold f_X8_isShelf
  rw [within_s, bd_s, gd_b]
theorem s_ofKind (h : Rel t I J A B) (p : Int32) : Sim t J B (f_X8_ofKind p I) (f_X9_ofKind p A) := by
  obtain ⟨V, Z, ⟨hx, hm, hW⟩, -⟩ := id h
  have hn := hW.n
  unfold f_X8_ofKind f_X9_ofKind
  rw [isKind_s]
  refine sim_in p 0 5 (a := 0) (b := 5) rfl rfl (by decide) (by decide) rfl rfl (fun g _ hg e => ?_) (sim_bad h)
  subst e
  have loop : ∀ f k, k ≤ V 7 0 → V 7 0 - k < f → ∀ c : Int32, Sim t J B (f_X8_ofKind_19 f (nI g) c (nI k) I) (f_X9_ofKind_24 f (nI g) c (nI k) A) := by
    intro f
    induction f with
    | zero => intro k _ h; omega
    | succ f ih =>
      intro k hk hf c
      rw [f_X8_ofKind_19, f_X9_ofKind_24, hx.2.2.1.1, hm.2.2.1.1, stopN hn hk, stopN hn hk]
      by_cases q : k = V 7 0
      · rw [if_pos q, if_pos q]; exact sim_same h _
      · have ih := ih (k + 1) (by omega) (by omega)
        have k3 : A 17 k = nI (V 0 k) := hm.1.1 k (by omega)
        rw [if_neg q, if_neg q, gd_t (qin_n (by omega) (by decide)), gd_t (qin_n (by omega) (by decide)), nI_clamp (by omega), hx.1.1 k (by omega), k3, nI_1, Int32.add_zero]
        split
        · exact ih _
        · exact ih _
  exact loop 1000 0 (Nat.zero_le _) (by omega) 0
theorem s_numbers (h : Rel t I J A B) : ∃ r, f_X8_numbers I = some r ∧ f_X9_numbers A = some r := by
  obtain ⟨V, Z, ⟨hx, hm, hW⟩, -⟩ := id h
  have loop : ∀ f k, k ≤ 100 → 100 - k < f → ∀ c : Int32, ∃ r, f_X8_numbers_4 I f c (nI k) = some r ∧ f_X9_numbers_4 A f c (nI k) = some r := by
    intro f
    induction f with
    | zero => intro k _ h; omega
    | succ f ih =>
      intro k hk hf c
      rw [f_X8_numbers_4, f_X9_numbers_4]
      by_cases q : k = 100
      · subst q; exact ⟨_, rfl, rfl⟩
      · have ih := ih (k + 1) (by omega) (by omega)
        have hs : ¬ (99 : Int32) < nI k := nI_nlt (a := 99) (by omega) (by omega)
        rw [if_neg hs, if_neg hs, x_lets hx hW (by omega), m_goes hm hW (by omega), bd_b, bd_b, if_b, if_b, nI_1, Int32.add_zero]
        split
        · exact ih _
        · exact ih _
  exact loop 1000 1 (by decide) (by omega) 0
end S3
