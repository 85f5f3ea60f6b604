/-! Pure: single calls, side by side (2): loops over groups, parties, numbers. -/
section S2
variable {t : qF} {I : qI} {J : qJ} {A : qI} {B : qJ} {V : qV} {Z : qW}
theorem ovbit (hW : WF V) : V 8 0 < 2 ^ 31 := by have := ov_lt hW; omega
theorem x_isOver (hx : XV I 1 V Z) (hW : WF V) {k : Nat} (hk : k < 8) : f_X2_isOver 1 (nI k) I = some (b2i ((V 8 0).testBit k)) := by
  unfold f_X2_isOver
  rw [hx.2.2.1.2, f_has (ovbit hW) (by omega), bd_s, gd_b]
theorem m_isOver (hm : MV A 0 V Z) (hW : WF V) {k : Nat} (hk : k < 8) : f_X9_isOver (nI k) A = some (b2i ((V 8 0).testBit k)) := by
  unfold f_X9_isOver
  rw [hm.2.2.1.2, if_d (has_nI (ovbit hW) (by omega)), if_bb, Bool.decide_eq_true]
/-- one that waits -/
theorem sim_wait (h : Rel t I J A B) (hx : XV I 1 V Z) (hm : MV A 0 V Z) (hW : WF V) (p : Int32) {x2 : Option (Int32 × qI)} {m2 : qI → Option (Int32 × qI)} (h2 : ∀ k, k < V 7 0 → k < 8 → p = nI k → (V 8 0).testBit k = false → Sim t J B x2 (m2 A)) :
    Sim t J B (bd (f_X8_waiterTrouble p I) fun v1 => if v1 = 0 then x2 else (bd2 (f_X8_refuse v1 I) fun v I => some (v, I))) (bd2 (f_X9_noWaiting p A) fun v1 I2 => if v1 = 0 then m2 I2 else some (v1, I2)) := by
  unfold f_X8_waiterTrouble f_X9_noWaiting
  rw [x_pty hx, m_pty hm, bd_b, bd_b, if_b, if_b]
  by_cases c : 0 ≤ p ∧ p ≤ nI (V 7 0) - 1
  · rw [decide_eq_true c, if_pos rfl, if_pos rfl]
    obtain ⟨k, hk, hk8, rfl⟩ := pty_of hW c
    rw [x_isOver hx hW hk8, m_isOver hm hW hk8, bd_b, bd_b, if_b, if_b]
    cases o : (V 8 0).testBit k
    · exact h2 k hk hk8 rfl o
    · exact sim_stuck h
  · rw [decide_eq_false c, if_neg (by decide), if_neg (by decide)]
    exact sim_bad h
theorem stopX {n k : Nat} (hn : n ≤ 8) (hk : k ≤ 2 ^ n) {α : Type} (x y : α) : (if nI (2 ^ n - 1) < nI k then x else y) = if k = 2 ^ n then x else y := by
  have := pow8 hn
  have h1 : 1 ≤ 2 ^ n := Nat.one_le_two_pow
  refine if_d ?_ x y
  rw [nlt_i (by omega) (by omega)]
  omega
theorem stopM {n k : Nat} (hn : n ≤ 8) (hk : k ≤ 2 ^ n) {α : Type} (x y : α) : (if (1 : Int32) <<< (nI n &&& (31 : Int32)) ≤ nI k then x else y) = if k = 2 ^ n then x else y := by
  have := pow8 hn
  rw [one_shl (by omega)]
  refine if_d ?_ x y
  rw [nle_i (by omega) (by omega)]
  omega
theorem stopN {n k : Nat} (hn : n ≤ 8) (hk : k ≤ n) {α : Type} (x y : α) : (if nI n ≤ nI k then x else y) = if k = n then x else y := by
  refine if_d ?_ x y
  rw [nle_i (by omega) (by omega)]
  omega
theorem s_many (h : Rel t I J A B) : ∃ r, f_X8_many I = some r ∧ f_X9_many A = some r := by
  obtain ⟨V, Z, ⟨hx, hm, hW⟩, -⟩ := id h
  have hn := hW.n
  have ha := hW.all
  have loop : ∀ f k, k ≤ 2 ^ V 7 0 → 2 ^ V 7 0 - k < f → ∀ c : Int32, ∃ r, f_X8_many_4 I f c (nI k) = some r ∧ f_X9_many_4 A f c (nI k) = some r := by
    intro f
    induction f with
    | zero => intro k _ h; omega
    | succ f ih =>
      intro k hk hf c
      rw [f_X8_many_4, f_X9_many_4, x_every hx hW, bd_s, hm.2.2.1.1, stopX hn hk, stopM hn hk]
      by_cases q : k = 2 ^ V 7 0
      · rw [if_pos q, if_pos q]; exact ⟨_, rfl, rfl⟩
      · rw [if_neg q, if_neg q, x_hireNow hx hW (by omega), m_hireOf hm hW (by omega), bd_s, bd_s, nI_1, Int32.add_zero]
        split
        · exact ih (k + 1) (by omega) (by omega) _
        · exact ih (k + 1) (by omega) (by omega) _
  exact loop 1000 1 Nat.one_le_two_pow (by omega) 0
theorem andnot (x y z : Int32) : (x &&& (y ^^^ (-1 : Int32))) &&& (z ^^^ (-1 : Int32)) = x &&& ((y ||| z) ^^^ (-1 : Int32)) := by
  apply Int32.toBitVec_inj.mp
  show (x.toBitVec &&& (y.toBitVec ^^^ BitVec.allOnes 32)) &&& (z.toBitVec ^^^ BitVec.allOnes 32) = x.toBitVec &&& ((y.toBitVec ||| z.toBitVec) ^^^ BitVec.allOnes 32)
  rw [BitVec.xor_allOnes, BitVec.xor_allOnes, BitVec.xor_allOnes, BitVec.not_or, BitVec.and_assoc]
theorem s_stranded (h : Rel t I J A B) : ∃ r, f_X8_stranded I = some r ∧ f_X9_stranded A = some r := by
  obtain ⟨V, Z, ⟨hx, hm, hW⟩, -⟩ := id h
  have hn := hW.n
  have ha := hW.all
  have loop : ∀ f k, k ≤ 2 ^ V 7 0 → 2 ^ V 7 0 - k < f → ∀ c : Int32, ∃ r, f_X8_stranded_4 I f c (nI k) = some r ∧ f_X9_stranded_18 A f ((nI (2 ^ V 7 0 - 1) &&& (nI (V 8 0) ^^^ (-1 : Int32))) &&& (c ^^^ (-1 : Int32))) (nI k) = some r := by
    intro f
    induction f with
    | zero => intro k _ h; omega
    | succ f ih =>
      intro k hk hf c
      rw [f_X8_stranded_4, f_X9_stranded_18, x_every hx hW, bd_s, hm.2.2.1.1, stopX hn hk, stopM hn hk]
      by_cases q : k = 2 ^ V 7 0
      · rw [if_pos q, if_pos q, f_X2_here, x_every hx hW, bd_s, bd_s, hx.2.2.1.2]; exact ⟨_, rfl, rfl⟩
      · rw [if_neg q, if_neg q, x_hireNow hx hW (by omega), m_hireOf hm hW (by omega), bd_s, bd_s, nI_1, Int32.and_self]
        split
        · exact ih (k + 1) (by omega) (by omega) _
        · rw [andnot (nI (2 ^ V 7 0 - 1) &&& (nI (V 8 0) ^^^ (-1 : Int32))) c (nI k)]
          exact ih (k + 1) (by omega) (by omega) _
  have r := loop 1000 1 Nat.one_le_two_pow (by omega) 0
  unfold f_X8_stranded f_X9_stranded
  rw [lt_e, hm.2.2.1.1, hm.2.2.1.2, pow_sub hn]
  have e : ∀ y : Int32, y &&& ((0 : Int32) ^^^ (-1 : Int32)) = y := fun y => by
    rw [show ((0 : Int32) ^^^ (-1 : Int32)) = -1 from rfl, Int32.and_neg_one]
  rw [e] at r
  exact r
theorem bit2 {g a b : Nat} : g &&& (2 ^ a ||| 2 ^ b) = 2 ^ a ||| 2 ^ b ↔ g.testBit a = true ∧ g.testBit b = true := by
  constructor
  · intro h
    have h1 := fun i => congrArg (fun z => Nat.testBit z i) h
    simp only [Nat.testBit_and, Nat.testBit_or, Nat.testBit_two_pow] at h1
    refine ⟨?_, ?_⟩
    · have := h1 a; simp at this; exact this
    · have := h1 b; simp at this; exact this
  · rintro ⟨h1, h2⟩
    apply Nat.eq_of_testBit_eq
    intro i
    simp only [Nat.testBit_and, Nat.testBit_or, Nat.testBit_two_pow]
    by_cases c1 : a = i
    · subst c1; simp [h1]
    · by_cases c2 : b = i
      · subst c2; simp [h2]
      · simp [c1, c2]
theorem two_lt {a b : Nat} (ha : a < 8) (hb : b < 8) : 2 ^ a ||| 2 ^ b < 2 ^ 31 :=
  Nat.or_lt_two_pow (Nat.pow_lt_pow_right (by decide) (by omega)) (Nat.pow_lt_pow_right (by decide) (by omega))
theorem x_twoB (hx : XV I 1 V Z) (p o : Int32) : f_X2_hasTwo 1 p o I = some (b2i (decide (0 ≤ p ∧ p ≤ nI (V 7 0) - 1) && (decide (0 ≤ o ∧ o ≤ nI (V 7 0) - 1) && !decide (p = o)))) := by
  unfold f_X2_hasTwo
  rw [x_pty hx, x_pty hx]
  generalize decide (0 ≤ p ∧ p ≤ nI (V 7 0) - 1) = u
  generalize decide (0 ≤ o ∧ o ≤ nI (V 7 0) - 1) = v
  by_cases e : p = o
  · rw [decide_eq_true e]
    simp only [if_pos e]
    cases u <;> cases v <;> rfl
  · rw [decide_eq_false e]
    simp only [if_neg e]
    cases u <;> cases v <;> rfl
/-- two parties -/
theorem sim_two (h : Rel t I J A B) (hx : XV I 1 V Z) (hm : MV A 0 V Z) (hW : WF V) (p o : Int32) {x2 m2 x1 m1 : Option (Int32 × qI)} (h1 : Sim t J B x1 m1) (h2 : ∀ a b, a < V 7 0 → a < 8 → b < V 7 0 → b < 8 → a ≠ b → p = nI a → o = nI b → Sim t J B x2 m2) :
    Sim t J B (bd (f_X2_hasTwo 1 p o I) fun v1 => if v1 = 0 then x1 else x2) (bd (f_X9_isParty p A) fun v1 => if v1 = 0 then m1 else (bd (f_X9_isParty o A) fun v3 => if v3 = 0 then m1 else (if p = o then m1 else m2))) := by
  rw [x_twoB hx, m_pty hm, m_pty hm, bd_b, if_b]
  by_cases c : 0 ≤ p ∧ p ≤ nI (V 7 0) - 1
  · rw [decide_eq_true c, Bool.true_and, bd_b, if_b, if_pos rfl]
    by_cases d : 0 ≤ o ∧ o ≤ nI (V 7 0) - 1
    · rw [decide_eq_true d, Bool.true_and, bd_b, if_b, if_pos rfl]
      by_cases q : p = o
      · rw [if_pos q, decide_eq_true q, if_neg (by decide)]; exact h1
      · rw [if_neg q, decide_eq_false q, if_pos (by decide)]
        obtain ⟨a, ha, ha8, e1⟩ := pty_of hW c
        obtain ⟨b, hb, hb8, e2⟩ := pty_of hW d
        exact h2 a b ha ha8 hb hb8 (fun z => q (by rw [e1, e2, z])) e1 e2
    · rw [decide_eq_false d, Bool.false_and, if_neg (by decide), bd_b, if_b, if_neg (by decide)]; exact h1
  · rw [decide_eq_false c, Bool.false_and, if_neg (by decide), bd_b, if_b, if_neg (by decide)]; exact h1
theorem s_together (h : Rel t I J A B) (p o : Int32) : Sim t J B (f_X8_together p o I) (f_X9_together p o A) := by
  obtain ⟨V, Z, ⟨hx, hm, hW⟩, -⟩ := id h
  have hn := hW.n
  have ha := hW.all
  refine sim_two h hx hm hW p o (sim_bad h) (fun a b _ ha8 _ hb8 _ ea eb => ?_)
  subst ea
  subst eb
  have loop : ∀ f k, k ≤ 2 ^ V 7 0 → 2 ^ V 7 0 - k < f → ∀ c : Int32, Sim t J B (f_X8_together_25 f (nI a) (nI b) c (nI k) I) (f_X9_together_43 f (nI (2 ^ a ||| 2 ^ b)) c (nI k) A) := by
    intro f
    induction f with
    | zero => intro k _ h; omega
    | succ f ih =>
      intro k hk hf c
      rw [f_X8_together_25, f_X9_together_43, x_every hx hW, bd_s, hm.2.2.1.1, stopX hn hk, stopM hn hk]
      by_cases q : k = 2 ^ V 7 0
      · rw [if_pos q, if_pos q]; exact sim_same h _
      · have ih := ih (k + 1) (by omega) (by omega)
        rw [if_neg q, if_neg q, f_has (by omega) (by omega), f_has (by omega) (by omega), bd_b, if_b, bd_b, if_b, and_nI, if_d (nI_inj (Nat.lt_of_le_of_lt Nat.and_le_left (by omega)) (two_lt ha8 hb8)), if_d bit2, x_hireNow hx hW (by omega), m_hireOf hm hW (by omega), bd_s, bd_s, nI_1]
        unfold f_X9_together_78
        rw [Int32.add_zero, nI_1]
        by_cases c1 : k.testBit a = true
        · by_cases c2 : k.testBit b = true
          · rw [if_pos c1, if_pos c2, if_pos (And.intro c1 c2)]
            split
            · exact ih _
            · exact ih _
          · rw [if_pos c1, if_neg c2, if_neg (fun z => c2 z.2)]; exact ih _
        · rw [if_neg c1, if_neg (fun z => c1 z.1)]; exact ih _
  rw [one_shl (by omega), one_shl (by omega), or_nI, lt_e]
  exact loop 1000 1 Nat.one_le_two_pow (by omega) 0
end S2
