/-! Pure: plans used. -/
theorem PM_ex {V : qV} (hW : WF V) : ∃ PM, PMc V PM := by
  have hm : MV (fun k j => if k = 0 then (if j = 17 then nI (V 7 0) else if j = 18 then nI (V 8 0) else if 9 ≤ j ∧ j ≤ 13 then nI (V 6 (j - 9)) else 0) else nI (V (k - 17) j)) 0 V (fun _ => 0) := by
    refine MV.mk2 (fun i j hi hj => ?_) (fun j hj => ?_) rfl rfl ⟨rfl, rfl, rfl, rfl⟩
    · show (if 0 + 17 + i = 0 then _ else nI (V (0 + 17 + i - 17) j)) = _
      rw [if_neg (by omega), show 0 + 17 + i - 17 = i by omega]
    · show (if 0 = 0 then (if 9 + j = 17 then _ else if 9 + j = 18 then _ else if 9 ≤ 9 + j ∧ 9 + j ≤ 13 then nI (V 6 (9 + j - 9)) else 0) else _) = _
      rw [if_pos rfl, if_neg (by omega), if_neg (by omega), if_pos (by omega), show 9 + j - 9 = j by omega]
  obtain ⟨-, PM, -, -, h, -⟩ := m_findPlan hm hW
  exact ⟨PM, h⟩
theorem sPl_le {V : qV} (hW : WF V) {z : Nat} (h : sPl V = some z) : z ≤ 8072 := by
  obtain ⟨PM, hP⟩ := PM_ex hW
  rw [← sPl_e hW hP] at h
  have := PM_le hW hP _ _ (Nat.lt_succ_self _) (Nat.and_self _) z h
  have := pc_le (sAll V) 8
  omega
def oC : Option Nat → Int32
  | none => -1
  | some z => nI (z / 1000)
def oM : Option Nat → Int32
  | none => -1
  | some z => nI (z % 1000)
def oN (o : Option Nat) : Nat := o.getD 1000000
/-- what a reckoned plan says -/
def PL (V : qV) (I' : qI) : Prop := f_X5_price I' = some (nI (oN (sPl V))) ∧ f_X5_found I' = some (b2i (sPl V).isSome) ∧ f_X5_crossings I' = some (oC (sPl V)) ∧ f_X5_hermits I' = some (oM (sPl V))
section US
variable {t : qF} {I : qI} {J : qJ} {A : qI} {B : qJ} {V : qV} {Z : qW}
theorem x_plan (b : Nat) (hb : b + 8 ≤ 45) (hx : XV I b V Z) (hW : WF V) : ∃ I', f_X5_reckon b I = some I' ∧ (∀ k j, k ≠ 45 → k ≠ 46 → k ≠ 47 → I' k j = I k j) ∧ PL V I' := by
  obtain ⟨I', P, h1, h2, h3, h4, h5, -⟩ := x_reckon b hb hx hW
  obtain ⟨PM, hP⟩ := PM_ex hW
  have hA := sAll_lt hW
  have e : P (sAll V) = oN (sPl V) := by
    rw [PX_PM hW h4 hP _ _ (Nat.lt_succ_self _) (Nat.and_self _), sPl_e hW hP]
    rfl
  have e47 : I' 47 (sAll V) = nI (oN (sPl V)) := by rw [(h5 _ (Nat.le_refl _)).1, e]
  have q := qin_n hA (by decide)
  have c := clampI (show sAll V < 2 ^ 31 by omega)
  have hf : f_X5_found I' = some (b2i (sPl V).isSome) := by
    unfold f_X5_found
    rw [h3, gd_t q, c, e47]
    cases hs : sPl V with
    | none => rfl
    | some z =>
      have := sPl_le hW hs
      rw [show oN (some z) = z from rfl, if_neg (show ¬ (1000000 : Int32) ≤ nI z from fun w => by
        have := (nle_i (a := 1000000) (by decide) (show z < 2 ^ 31 by omega)).mp w
        omega)]
      rfl
  refine ⟨I', h1, h2, ?_, hf, ?_, ?_⟩
  · unfold f_X5_price
    rw [h3, gd_t q, c, e47]
  · unfold f_X5_crossings
    rw [hf, bd_b, if_b, h3, gd_t q, c, e47]
    cases hs : sPl V with
    | none => rfl
    | some z =>
      have := sPl_le hW hs
      rw [show (some z).isSome = true from rfl, if_pos rfl, show oN (some z) = z from rfl, show (1000 : Int32) = nI 1000 from rfl, pk_div (by omega) (by decide) (by decide)]
      rfl
  · unfold f_X5_hermits
    rw [hf, bd_b, if_b, h3, gd_t q, c, e47]
    cases hs : sPl V with
    | none => rfl
    | some z =>
      have := sPl_le hW hs
      rw [show (some z).isSome = true from rfl, if_pos rfl, show oN (some z) = z from rfl, show (1000 : Int32) = nI 1000 from rfl, rem_nI (by omega) (by decide) (by decide)]
      rfl
theorem m_plan (hm : MV A 0 V Z) (hW : WF V) : ∃ A', f_X9_findPlan A = some (oI (sPl V), A') ∧ (∀ k j, k ≠ 25 → k ≠ 26 → A' k j = A k j) := by
  obtain ⟨A', PM, h1, h2, h3, -⟩ := m_findPlan hm hW
  exact ⟨A', by rw [h1, sPl_e hW h3], h2⟩
theorem s_time (h : Rel t I J A B) : Sim t J B (f_X8_time I) (f_X9_time A) := by
  obtain ⟨V, Z, ⟨hx, hm, hW⟩, -⟩ := id h
  obtain ⟨I', e1, f1, -, p2, p3, -⟩ := x_plan 1 (by decide) hx hW
  obtain ⟨A', e2, f2⟩ := m_plan hm hW
  have r : Rel t I' J A' B := h.fr (fun k j g => f1 k j (by omega) (by omega) (by omega)) (fun k j g => f2 k j (by omega) (by omega)) FJ.rf
  unfold f_X8_time f_X9_time
  rw [e1, e2, bd_s, bd2_s, p2, p3, bd_b, if_b, bd_s]
  cases hs : sPl V with
  | none => exact sim_same r _
  | some z =>
    have := sPl_le hW hs
    rw [show oI (some z) = nI z from rfl, if_neg (nI_ne_m1 (by omega)), show (1000 : Int32) = nI 1000 from rfl, pk_div (by omega) (by decide) (by decide)]
    exact sim_same r _
/-- a bank copied -/
theorem bc_step {I0 I1 : qI} {b c n m : Nat} (hd : c + 8 ≤ b ∨ b + 8 ≤ c) (hn : n < 7) (hm : (n = 6 ∧ m = 5) ∨ (n < 6 ∧ m = 8)) (H : (∀ i, 1 ≤ i → i ≤ n → ∀ j, j < (if i = 7 then 5 else 8) → I1 (b + i) j = I0 (c + i) j) ∧ (∀ a, (a < b + 1 ∨ b + n < a) → I1 a = I0 a)) : (∀ i, 1 ≤ i → i ≤ n + 1 → ∀ j, j < (if i = 7 then 5 else 8) → quR I1 (b + (n + 1)) (va_cpy (I1 (c + (n + 1))) (I1 (b + (n + 1))) 0 0 m) (b + i) j = I0 (c + i) j) ∧ (∀ a, (a < b + 1 ∨ b + (n + 1) < a) → quR I1 (b + (n + 1)) (va_cpy (I1 (c + (n + 1))) (I1 (b + (n + 1))) 0 0 m) a = I0 a) := by
  obtain ⟨H1, H2⟩ := H
  refine ⟨fun i h1 h2 j hj => ?_, fun a ha => ?_⟩
  · unfold quR
    by_cases e : i = n + 1
    · subst e
      have : j < m := by split at hj <;> omega
      rw [if_pos rfl, sb_cpy0 this, H2 _ (by omega)]
    · rw [if_neg (by omega)]
      exact H1 i h1 (by omega) j hj
  · unfold quR
    rw [if_neg (by omega)]
    exact H2 a (by omega)
theorem x_become (b c : Nat) (hd : c + 8 ≤ b ∨ b + 8 ≤ c) (hx : XV I c V Z) : ∃ I', f_X2_become b c I = some I' ∧ XV I' b V Z ∧ (∀ k j, (k < b ∨ b + 8 ≤ k) → I' k j = I k j) := by
  have s0 : (∀ i, 1 ≤ i → i ≤ 0 → ∀ j, j < (if i = 7 then 5 else 8) → I (b + i) j = I (c + i) j) ∧ (∀ a, (a < b + 1 ∨ b + 0 < a) → I a = I a) := ⟨fun i h1 h2 => by omega, fun _ _ => rfl⟩
  have s1 := bc_step (m := 8) hd (by decide) (by omega) s0
  have s2 := bc_step (m := 8) hd (by decide) (by omega) s1
  have s3 := bc_step (m := 8) hd (by decide) (by omega) s2
  have s4 := bc_step (m := 8) hd (by decide) (by omega) s3
  have s5 := bc_step (m := 8) hd (by decide) (by omega) s4
  have s6 := bc_step (m := 8) hd (by decide) (by omega) s5
  have s7 := bc_step (m := 5) hd (by decide) (by omega) s6
  have go : ∀ I7 : qI, ((∀ i, 1 ≤ i → i ≤ 7 → ∀ j, j < (if i = 7 then 5 else 8) → I7 (b + i) j = I (c + i) j) ∧ (∀ a, (a < b + 1 ∨ b + 7 < a) → I7 a = I a)) → ∀ I' : qI, I' = qu (qu (qu (qu (qu (qu I7 b 7 (I7 c 7)) b 8 (qu I7 b 7 (I7 c 7) c 8)) b 9 (qu (qu I7 b 7 (I7 c 7)) b 8 (qu I7 b 7 (I7 c 7) c 8) c 9)) b 10 (I c 10)) b 11 (I c 11)) b 12 (I c 12) → XV I' b V Z ∧ (∀ k j, (k < b ∨ b + 8 ≤ k) → I' k j = I k j) := by
    rintro I7 ⟨H1, H2⟩ I' rfl
    have hc : I7 c = I c := H2 c (by omega)
    have cb : c ≠ b := by omega
    rw [qu_k cb, qu_k cb, qu_k cb, hc]
    refine ⟨XV.mk2 (fun i j hi hj => ?_) (fun j hj => ?_) ?_ ?_ (fun k h1 h2 => ?_), fun k j hk => ?_⟩
    · rw [qu_k (by omega), qu_k (by omega), qu_k (by omega), qu_k (by omega), qu_k (by omega), qu_k (by omega), show b + 1 + i = b + (i + 1) by omega, H1 (i + 1) (by omega) (by omega) j (by split <;> omega), ← hx.a hi hj, show c + (i + 1) = c + 1 + i by omega]
    · rw [qu_k (by omega), qu_k (by omega), qu_k (by omega), qu_k (by omega), qu_k (by omega), qu_k (by omega), H1 7 (by omega) (by omega) j hj]
      exact hx.2.1 j hj
    · rw [qu_i (by decide), qu_i (by decide), qu_i (by decide), qu_i (by decide), qu_i (by decide), qu_s]; exact hx.2.2.1.1
    · rw [qu_i (by decide), qu_i (by decide), qu_i (by decide), qu_i (by decide), qu_s]; exact hx.2.2.1.2
    · rw [← hx.z h1 h2]
      rcases (show k = 9 ∨ k = 10 ∨ k = 11 ∨ k = 12 by omega) with rfl | rfl | rfl | rfl
      · rw [qu_i (by decide), qu_i (by decide), qu_i (by decide), qu_s]
      · rw [qu_i (by decide), qu_i (by decide), qu_s]
      · rw [qu_i (by decide), qu_s]
      · rw [qu_s]
    · rw [qu_k (by omega), qu_k (by omega), qu_k (by omega), qu_k (by omega), qu_k (by omega), qu_k (by omega), H2 k (by omega)]
  refine ⟨_, rfl, go _ s7 _ ?_⟩
  have cb : c ≠ b := by omega
  have hc := s7.2 c (by omega)
  congr 1
  · congr 1
    · congr 1
      rw [qu_k cb, qu_k cb, qu_k cb]
      exact congrFun hc 10
    · rw [qu_k cb, qu_k cb, qu_k cb, qu_k cb]
      exact congrFun hc 11
  · rw [qu_k cb, qu_k cb, qu_k cb, qu_k cb, qu_k cb]
    exact congrFun hc 12
end US
