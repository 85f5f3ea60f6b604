/-! Pure: the reference's words of a bank are the same numbers. -/
section MB
variable {A : qI} {V : qV} {Z : qW}
theorem m_goes (hV : MV A 0 V Z) (hW : WF V) {x : Nat} (hx : x < 2 ^ 31) : f_X9_goesNow (nI x).toInt64 A = some (b2i (sLets V x)) := by
  obtain ⟨-, hT, -⟩ := hV
  have e0 : A 0 9 = nI (V 6 0) := hT 0 (by decide)
  have e1 : A 0 10 = nI (V 6 1) := hT 1 (by decide)
  obtain ⟨-, ⟨h1, h2, h3, -⟩, -⟩ := hW
  unfold f_X9_goesNow sLets
  rw [in_i (b := 1) (B := 1) (c := A 0 9) rfl rfl, bd_b, if_b, e0, e1, i2l_l2i]
  by_cases hc : 1 ≤ x ∧ x ≤ V 6 0
  · have hd := (one_le hx (show V 6 0 < 2 ^ 31 by omega)).mpr hc
    rw [decide_eq_true hd, if_pos rfl, decide_eq_true hc, Bool.true_and]
    have x99 : x < 100 := by omega
    rcases (show V 6 1 = 0 ∨ V 6 1 = 1 ∨ V 6 1 = 2 ∨ V 6 1 = 3 by omega) with e | e | e | e
    · rw [e]
      change (bd (f_X9_isPrime (nI x)) fun v => gd (v = 0 ∨ v = 1) (some v)) = some (b2i (sPr x))
      rw [(pr_tab x x99).2, bd_s, gd_b]
    · rw [e]
      change (if (nI x - nI x / (2 : Int32) * (2 : Int32)) = 0 then some (1 : Int32) else some (0 : Int32)) = some (b2i (decide (x % 2 = 0)))
      rw [if_d (par_0 hx), if_bb]
    · rw [e]
      change (if (nI x - nI x / (2 : Int32) * (2 : Int32)) = (1 : Int32) then some (1 : Int32) else some (0 : Int32)) = some (b2i (decide (x % 2 = 1)))
      rw [if_d (par_1 hx), if_bb]
    · rw [e]
      change (bd (f_X9_isSquare (nI x)) fun v => gd (v = 0 ∨ v = 1) (some v)) = some (b2i (sSq x))
      rw [(sq_tab x x99 hc.1).2, bd_s, gd_b]
  · have hd : ¬ ((1 : Int32) ≤ nI x ∧ nI x ≤ nI (V 6 0)) := fun h => hc ((one_le hx (by omega)).mp h)
    rw [decide_eq_false hd, if_neg (by decide), decide_eq_false hc, Bool.false_and]
    rfl
theorem m_headsOf (hV : MV A 0 V Z) (hW : WF V) {p : Nat} (hp : p < 8) : f_X9_headsOf (nI p) A = some (nI (sHeads V p)) := by
  obtain ⟨⟨k0, k1, k2, -⟩, hT, -⟩ := hV
  have e2 : A 0 11 = nI (V 6 2) := hT 2 (by decide)
  have hr := hW.2.1.2.2.2.1
  obtain ⟨g0, g1, g2, -⟩ := hW.2.2.1 p hp
  have hq := qin_n hp (by decide)
  have hcl := nI_clamp (n := p) (by omega)
  have i1 := propext (rule1m _ hr)
  have i2 := propext (rule2m _ hr)
  have k0' : A 17 p = nI (V 0 p) := k0 p hp
  have k1' : A 18 p = nI (V 1 p) := k1 p hp
  have k2' : A 19 p = nI (V 2 p) := k2 p hp
  unfold f_X9_headsOf f_X9_headsOf_26 f_X9_headsOf_53 sHeads sHeadsIf
  simp only [gd_t hq, hcl, e2, k0', k1', k2', i1, i2, kind_if g0]
  have hh : ∀ z, z ≤ 2000 → (nI z + (1 : Int32)) / (2 : Int32) = nI ((z + 1) / 2) := fun z hz => by
    rw [nI_1, half_nI (by omega)]
  have key : ∀ fam flo : Nat, fam ≤ 2000 → (if V 0 p = 1 then some (nI fam) else if V 0 p = 2 then some (nI flo) else if V 0 p = 3 then some ((nI fam + (1 : Int32)) / (2 : Int32)) else if V 0 p = 4 then some (nI flo + (1 : Int32)) else if V 0 p = 5 then some (nI (V 2 p + V 1 p)) else some (nI (V 2 p))) = some (nI (if V 0 p = 1 then fam else if V 0 p = 2 then flo else if V 0 p = 3 then (fam + 1) / 2 else if V 0 p = 4 then flo + 1 else if V 0 p = 5 then V 2 p + V 1 p else V 2 p)) := by
    intro fam flo hf
    rw [hh fam hf, nI_1]
    rcases (show V 0 p = 0 ∨ V 0 p = 1 ∨ V 0 p = 2 ∨ V 0 p = 3 ∨ V 0 p = 4 ∨ V 0 p = 5 by omega) with e | e | e | e | e | e <;> rw [e] <;> rfl
  by_cases c1 : V 6 2 % 2 = 0 <;> by_cases c2 : V 6 2 / 2 % 2 = 0 <;> simp only [c1, c2, not_true, not_false_iff, if_true, if_false, Int32.add_zero, add_nI]
  · exact key (V 2 p) (V 1 p) (by omega)
  · exact key (V 2 p) (V 2 p) (by omega)
  · exact key (V 2 p + V 1 p) (V 1 p) (by omega)
  · exact key (V 2 p + V 1 p) (V 2 p) (by omega)
theorem m_HT (hV : MV A 0 V Z) (hW : WF V) {g : Nat} (hg : g < 2 ^ 31) : f_X9_headsTogether (nI g) A = some (nI (sHT V g)) := by
  have hn := hW.n
  have e7 : A 0 17 = nI (V 7 0) := hV.2.2.1.1
  have loop : ∀ fuel k, k ≤ V 7 0 → V 7 0 - k < fuel → f_X9_headsTogether_4 A fuel (nI g) (nI (sSum (sHeads V) g k)) (nI k) = some (nI (sHT V g)) := by
    intro fuel
    induction fuel with
    | zero => intro k _ h; omega
    | succ f ih =>
      intro k hk hf
      rw [f_X9_headsTogether_4, e7]
      by_cases h : V 7 0 = k
      · subst h
        rw [if_pos (nI_le (Nat.le_refl _) (by omega))]
        rfl
      · rw [if_neg (nI_ge (by omega) (by omega)), if_d (has_nI hg (show k < 32 by omega)), nI_1]
        have r := ih (k + 1) (by omega) (by omega)
        rw [sSum] at r
        by_cases c : g.testBit k = true
        · rw [if_pos c] at r ⊢
          rw [m_headsOf hV hW (by omega), bd_s, add_nI]
          exact r
        · rw [if_neg c] at r ⊢
          rw [Int32.add_zero]
          exact r
  exact loop 1000 0 (Nat.zero_le _) (by omega)
theorem nand2_nI {t g ov : Nat} (ht : t < 2 ^ 31) (hg : g < 2 ^ 31) (ho : ov < 2 ^ 31) : ((nI t &&& (nI g ^^^ (-1 : Int32))) &&& (nI ov ^^^ (-1 : Int32))) = 0 ↔ t &&& (g ||| ov) = t := by
  rw [m1_nI, xor_nI, xor_nI, and_nI, and_nI, nI_z (Nat.lt_of_le_of_lt Nat.and_le_left (Nat.lt_of_le_of_lt Nat.and_le_left ht))]
  constructor
  · intro h
    apply Nat.eq_of_testBit_eq
    intro i
    have h1 := congrArg (fun z => Nat.testBit z i) h
    simp only [Nat.testBit_and, Nat.testBit_or, Nat.testBit_xor, Nat.testBit_two_pow_sub_one, Nat.zero_testBit] at h1 ⊢
    by_cases hi : i < 32
    · simp [hi] at h1
      cases h2 : t.testBit i <;> cases h3 : g.testBit i <;> simp_all
    · have : t.testBit i = false := Nat.testBit_lt_two_pow (Nat.lt_of_lt_of_le ht (Nat.pow_le_pow_right (by decide) (by omega)))
      simp [this]
  · intro h
    apply Nat.eq_of_testBit_eq
    intro i
    have h1 := congrArg (fun z => Nat.testBit z i) h
    simp only [Nat.testBit_and, Nat.testBit_or, Nat.testBit_xor, Nat.testBit_two_pow_sub_one, Nat.zero_testBit] at h1 ⊢
    by_cases hi : i < 32
    · simp [hi]
      cases h2 : t.testBit i <;> cases h3 : g.testBit i <;> simp_all
    · have : t.testBit i = false := Nat.testBit_lt_two_pow (Nat.lt_of_lt_of_le ht (Nat.pow_le_pow_right (by decide) (by omega)))
      simp [this]
theorem m_sit (hV : MV A 0 V Z) (hW : WF V) {g : Nat} (hg : g < 2 ^ 31) {ov : Nat} (hov : A 0 18 = nI ov) (ho : ov < 2 ^ 31) : f_X9_maySit (nI g) A = some (b2i (sAg V g ov)) := by
  have hn := hW.n
  have e7 : A 0 17 = nI (V 7 0) := hV.2.2.1.1
  have loop : ∀ fuel k, k ≤ V 7 0 → V 7 0 - k < fuel → sAgF V g ov k = true → f_X9_maySit_17 A fuel (nI g) (nI k) = some (b2i (sAgF V g ov (V 7 0))) := by
    intro fuel
    induction fuel with
    | zero => intro k _ h; omega
    | succ f ih =>
      intro k hk hf hs
      rw [f_X9_maySit_17, e7]
      by_cases h : V 7 0 = k
      · subst h
        rw [if_pos (nI_le (Nat.le_refl _) (by omega)), hs]
        rfl
      · have hk8 : k < 8 := by omega
        have hb4 := (hW.2.2.1 k hk8).2.2.2.2.1
        have hb5 := (hW.2.2.1 k hk8).2.2.2.2.2
        have hall := hW.all
        have k4 : A 21 k = nI (V 4 k) := hV.1.2.2.2.2.1 k hk8
        have k5 : A 22 k = nI (V 5 k) := hV.1.2.2.2.2.2 k hk8
        have stop : sAgF V g ov (k + 1) = false → sAgF V g ov (V 7 0) = false := by
          have : ∀ d, sAgF V g ov (k + 1) = false → sAgF V g ov (k + 1 + d) = false := by
            intro d
            induction d with
            | zero => exact id
            | succ d ihd => intro z; rw [Nat.add_succ, sAgF, ihd z]; rfl
          intro z
          have := this (V 7 0 - (k + 1)) z
          rwa [show k + 1 + (V 7 0 - (k + 1)) = V 7 0 by omega] at this
        rw [if_neg (nI_ge (by omega) (by omega)), if_d (has_nI hg (show k < 32 by omega))]
        unfold f_X9_maySit_39
        have r := ih (k + 1) (by omega) (by omega)
        rw [sAgF, hs, Bool.true_and] at r stop
        by_cases c : g.testBit k = true
        · rw [if_pos c, if_neg (by decide), gd_t (qin_n hk8 (by decide)), gd_t (qin_n hk8 (by decide)), nI_clamp (by omega), k4, k5, and_nI, hov, nI_1]
          rw [c, Bool.not_true, Bool.false_or] at r stop
          by_cases c5 : V 5 k &&& g = 0
          · rw [if_pos ((nI_z (Nat.lt_of_le_of_lt Nat.and_le_left (by omega))).mpr c5)]
            rw [decide_eq_true c5, Bool.true_and] at r stop
            by_cases c4 : V 4 k &&& (g ||| ov) = V 4 k
            · rw [if_pos ((nand2_nI (by omega) hg ho).mpr c4)]
              exact r (decide_eq_true c4)
            · rw [if_neg (fun z => c4 ((nand2_nI (by omega) hg ho).mp z)), stop (decide_eq_false c4)]
              rfl
          · rw [if_neg (fun z => c5 ((nI_z (Nat.lt_of_le_of_lt Nat.and_le_left (by omega))).mp z)), stop (by rw [decide_eq_false c5]; rfl)]
            rfl
        · rw [if_neg c, if_pos rfl, nI_1]
          exact r (by rw [Bool.eq_false_iff.mpr c]; rfl)
  unfold f_X9_maySit sAg
  by_cases c : g = 0
  · rw [if_pos (by rw [c]; rfl), decide_eq_true c]; rfl
  · rw [if_neg (fun z => c ((nI_z hg).mp z)), decide_eq_false c, hov, and_nI]
    by_cases c2 : g &&& ov = 0
    · rw [if_pos (by rw [c2]; rfl), decide_eq_true c2]
      exact loop 1000 0 (Nat.zero_le _) (by omega) rfl
    · rw [if_neg (fun z => c2 ((nI_z (Nat.lt_of_le_of_lt Nat.and_le_left hg)).mp z)), decide_eq_false c2]; rfl
theorem m_hireUpTo (hV : MV A 0 V Z) (hW : WF V) {g m ov : Nat} (hg : g < 2 ^ 31) (hm : m ≤ 100) (hov : A 0 18 = nI ov) (ho : ov < 2 ^ 31) : f_X9_hireUpTo (nI g) (nI m) A = some (oI (sHire V g ov m)) := by
  have hl := sHT_le hW g
  have loop : ∀ j fuel k, j + k = m + 1 → j < fuel → f_X9_hireUpTo_19 A fuel (nI m) (nI (sHT V g)) (nI k) = some (oI (sLH V (sHT V g) j k)) := by
    intro j
    induction j with
    | zero =>
      intro fuel k hk hf
      obtain ⟨f, rfl⟩ : ∃ f, fuel = f + 1 := ⟨fuel - 1, by omega⟩
      rw [f_X9_hireUpTo_19, if_pos (nI_lt (by omega) (by omega))]
      rfl
    | succ j ih =>
      intro fuel k hk hf
      obtain ⟨f, rfl⟩ : ∃ f, fuel = f + 1 := ⟨fuel - 1, by omega⟩
      rw [f_X9_hireUpTo_19, if_neg (nI_nlt (by omega) (by omega)), add_nI, m_goes hV hW (by omega), bd_b, if_b, sLH]
      by_cases c : sLets V (sHT V g + k) = true
      · rw [if_pos c, if_pos c]
        rfl
      · rw [if_neg c, if_neg c, nI_1]
        exact ih f (k + 1) (by omega) (by omega)
  unfold f_X9_hireUpTo sHire
  rw [m_sit hV hW hg hov ho, bd_b, if_b]
  by_cases c : sAg V g ov = true
  · rw [if_pos c, if_pos c, m_HT hV hW hg, bd_s]
    exact loop (m + 1) 1000 0 (by omega) (by omega)
  · rw [if_neg c, if_neg c]; rfl
theorem m_hireOf (hV : MV A 0 V Z) (hW : WF V) {g : Nat} (hg : g < 2 ^ 31) : f_X9_hireOf (nI g) A = some (oI (sHire V g (V 8 0) (V 6 3))) := by
  have h3 : A 0 12 = nI (V 6 3) := hV.2.1 3 (by decide)
  have hm := hW.2.1.2.2.2.2.1
  have ho := ov_lt hW
  unfold f_X9_hireOf
  rw [h3, m_hireUpTo hV hW hg (by omega) hV.2.2.1.2 (by omega)]
  rfl
end MB
