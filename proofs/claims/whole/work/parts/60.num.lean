/-! Pure: numbers, bits, conditions. -/
def b2i (b : Bool) : Int32 := if b then 1 else 0
theorem b2i_t : b2i true = 1 := rfl
theorem b2i_f : b2i false = 0 := rfl
theorem b2i_0 {b : Bool} : b2i b = 0 ↔ b = false := by cases b <;> decide
theorem b2i_01 (b : Bool) : b2i b = 0 ∨ b2i b = 1 := by cases b <;> decide
theorem gd_t {α : Type} {c : Prop} [Decidable c] {x : Option α} (h : c) : gd c x = x := if_pos h
theorem bd_s {α β : Type} (a : α) (f : α → Option β) : bd (some a) f = f a := rfl
theorem bd2_s {α β γ : Type} (a : α) (b : β) (f : α → β → Option γ) : bd2 (some (a, b)) f = f a b := rfl
theorem bd3_s {α β γ δ : Type} (a : α) (b : β) (c : γ) (f : α → β → γ → Option δ) : bd3 (some (a, b, c)) f = f a b c := rfl
theorem lt_e {α β : Type} (x : α) (f : α → β) : lt x f = f x := rfl
theorem bd_b {α : Type} (b : Bool) (f : Int32 → Option α) : bd (some (b2i b)) f = f (b2i b) := rfl
theorem if_b {α : Type} (b : Bool) (x y : α) : (if b2i b = 0 then x else y) = if b = true then y else x := by cases b <;> rfl
theorem gd_b {α : Type} (b : Bool) (x : Option α) : gd (b2i b = 0 ∨ b2i b = 1) x = x := gd_t (b2i_01 b)
theorem qin_n {k n : Nat} (h : k < n) (hn : n < 2 ^ 31) : qin (nI k) n := nI_in h hn
theorem i0 : (0 : Int32) = nI 0 := rfl
theorem nI_inj {a b : Nat} (ha : a < 2 ^ 31) (hb : b < 2 ^ 31) : nI a = nI b ↔ a = b := nI_eq ha hb
theorem nI_z {a : Nat} (ha : a < 2 ^ 31) : nI a = 0 ↔ a = 0 := nI_eq ha (by decide)
theorem nle_i {a b : Nat} (ha : a < 2 ^ 31) (hb : b < 2 ^ 31) : nI a ≤ nI b ↔ a ≤ b := nI_leI ha hb
theorem nlt_i {a b : Nat} (ha : a < 2 ^ 31) (hb : b < 2 ^ 31) : nI a < nI b ↔ a < b := nI_ltI ha hb
/-- an int between two small numbers is a small number -/
theorem nI_btw {x : Int32} {a b : Nat} (hb : b < 2 ^ 31) (h : nI a ≤ x ∧ x ≤ nI b) (ha : a < 2 ^ 31) : ∃ k, a ≤ k ∧ k ≤ b ∧ x = nI k := by
  have h0 : ¬ x < 0 := by
    rw [Int32.not_lt]
    exact Int32.le_trans (nI_pos' ha) h.1
  obtain ⟨k, hk, rfl⟩ := nI_of h0
  exact ⟨k, (nle_i ha hk).mp h.1, (nle_i hk hb).mp h.2, rfl⟩
theorem within_s (a b c : Int32) : f_X8_within a b c = some (b2i (decide (b ≤ a ∧ a ≤ c))) := by
  unfold f_X8_within
  by_cases h1 : a < b
  · have h : ¬ (b ≤ a ∧ a ≤ c) := fun h => absurd h1 (Int32.not_lt.mpr h.1)
    rw [if_pos h1, decide_eq_false h]; rfl
  · by_cases h2 : c < a
    · have h : ¬ (b ≤ a ∧ a ≤ c) := fun h => absurd h2 (Int32.not_lt.mpr h.2)
      rw [if_neg h1, if_pos h2, decide_eq_false h]; rfl
    · have h : b ≤ a ∧ a ≤ c := ⟨Int32.not_lt.mp h1, Int32.not_lt.mp h2⟩
      rw [if_neg h1, if_neg h2, decide_eq_true h]; rfl
theorem in_s (a b c : Int64) : f_X9_in a b c = some (b2i (decide (b ≤ a ∧ a ≤ c))) := by
  unfold f_X9_in
  by_cases h1 : a < b
  · have h : ¬ (b ≤ a ∧ a ≤ c) := fun h => absurd h1 (Int64.not_lt.mpr h.1)
    rw [if_pos ((lg_cmp_lt a b).mpr h1), decide_eq_false h]; rfl
  · rw [if_neg (fun h => h1 ((lg_cmp_lt a b).mp h))]
    by_cases h2 : c < a
    · have h : ¬ (b ≤ a ∧ a ≤ c) := fun h => absurd h2 (Int64.not_lt.mpr h.2)
      rw [if_pos ((lg_cmp_gt a c).mpr h2), decide_eq_false h]; rfl
    · have h : b ≤ a ∧ a ≤ c := ⟨Int64.not_lt.mp h1, Int64.not_lt.mp h2⟩
      rw [if_neg (fun h => h2 ((lg_cmp_gt a c).mp h)), decide_eq_true h]; rfl
theorem le_i2l (x y : Int32) : x.toInt64 ≤ y.toInt64 ↔ x ≤ y := by
  rw [Int64.le_iff_toInt_le, Int32.le_iff_toInt_le, Int32.toInt_toInt64, Int32.toInt_toInt64]
/-- the reference's 'in' of ints is the class's 'within' -/
theorem in_i {a b c : Int32} {B C : Int64} (hB : B = b.toInt64) (hC : C = c.toInt64) : f_X9_in a.toInt64 B C = some (b2i (decide (b ≤ a ∧ a ≤ c))) := by
  subst hB
  subst hC
  rw [in_s]
  congr 2
  exact decide_eq_decide.mpr (by rw [le_i2l, le_i2l])
theorem i2l_l2i (x : Int32) : x.toInt64.toInt32 = x := Int32.toInt32_toInt64 x
/-- bits -/
theorem bit_tn {n : Nat} (h : n < 2 ^ 32) : (nI n).toBitVec.toNat = n := pk_tn h
theorem and_nI (a b : Nat) : nI a &&& nI b = nI (a &&& b) := by
  apply Int32.toBitVec_inj.mp
  show (BitVec.ofNat 32 a) &&& (BitVec.ofNat 32 b) = BitVec.ofNat 32 (a &&& b)
  rw [BitVec.ofNat_and]
theorem or_nI (a b : Nat) : nI a ||| nI b = nI (a ||| b) := by
  apply Int32.toBitVec_inj.mp
  show (BitVec.ofNat 32 a) ||| (BitVec.ofNat 32 b) = BitVec.ofNat 32 (a ||| b)
  rw [BitVec.ofNat_or]
theorem xor_nI (a b : Nat) : nI a ^^^ nI b = nI (a ^^^ b) := by
  apply Int32.toBitVec_inj.mp
  show (BitVec.ofNat 32 a) ^^^ (BitVec.ofNat 32 b) = BitVec.ofNat 32 (a ^^^ b)
  rw [BitVec.ofNat_xor]
theorem m1_nI : (-1 : Int32) = nI (2 ^ 32 - 1) := by decide
theorem sh_amt : ∀ k, k < 32 → (((nI k) &&& (31 : Int32)).toBitVec.smod 32).toNat = k := by decide
theorem shr_nI {a k : Nat} (ha : a < 2 ^ 31) (hk : k < 32) : nI a >>> (nI k &&& (31 : Int32)) = nI (a / 2 ^ k) := pk_shrN ha _ k (sh_amt k hk)
theorem shl_nI {a k : Nat} (hk : k < 32) (h : a * 2 ^ k < 2 ^ 32) : nI a <<< (nI k &&& (31 : Int32)) = nI (a * 2 ^ k) := pk_shlN _ k (sh_amt k hk) h
theorem one_shl {k : Nat} (hk : k < 32) : (1 : Int32) <<< (nI k &&& (31 : Int32)) = nI (2 ^ k) := by
  have h := shl_nI (a := 1) hk (by rw [Nat.one_mul]; exact Nat.pow_lt_pow_right (by decide) hk)
  rw [Nat.one_mul] at h
  exact h
/-- a set's bit, as both write it -/
theorem has_nI {g p : Nat} (hg : g < 2 ^ 31) (hp : p < 32) : ((nI g >>> (nI p &&& (31 : Int32))) &&& (1 : Int32)) = (1 : Int32) ↔ g.testBit p = true := by
  rw [shr_nI hg hp, show (1 : Int32) = nI 1 from rfl, and_nI, nI_inj (Nat.lt_of_le_of_lt Nat.and_le_right (by decide)) (by decide), Nat.and_one_is_mod, Nat.testBit_eq_decide_div_mod_eq]
  simp
theorem f_has {g p : Nat} (hg : g < 2 ^ 31) (hp : p < 32) : f_X8_has (nI g) (nI p) = some (b2i (g.testBit p)) := by
  unfold f_X8_has
  by_cases h : g.testBit p = true
  · rw [if_pos ((has_nI hg hp).mpr h), h]; rfl
  · rw [if_neg (fun q => h ((has_nI hg hp).mp q)), Bool.eq_false_iff.mpr h]; rfl
theorem nand_nI {t m : Nat} (ht : t < 2 ^ 31) (hm : m < 2 ^ 31) : (nI t &&& (nI m ^^^ (-1 : Int32))) = 0 ↔ t &&& m = t := by
  rw [m1_nI, xor_nI, and_nI, nI_z (Nat.lt_of_le_of_lt Nat.and_le_left ht)]
  constructor
  · intro h
    apply Nat.eq_of_testBit_eq
    intro i
    have h1 := congrArg (fun z => Nat.testBit z i) h
    simp only [Nat.testBit_and, Nat.testBit_xor, Nat.testBit_two_pow_sub_one, Nat.zero_testBit] at h1 ⊢
    by_cases hi : i < 32
    · simp [hi] at h1
      cases h2 : t.testBit i <;> simp_all
    · have : t.testBit i = false := Nat.testBit_lt_two_pow (Nat.lt_of_lt_of_le ht (Nat.pow_le_pow_right (by decide) (by omega)))
      simp [this]
  · intro h
    apply Nat.eq_of_testBit_eq
    intro i
    have h1 := congrArg (fun z => Nat.testBit z i) h
    simp only [Nat.testBit_and, Nat.testBit_xor, Nat.testBit_two_pow_sub_one, Nat.zero_testBit] at h1 ⊢
    by_cases hi : i < 32
    · simp [hi]
      cases h2 : t.testBit i <;> simp_all
    · have : t.testBit i = false := Nat.testBit_lt_two_pow (Nat.lt_of_lt_of_le ht (Nat.pow_le_pow_right (by decide) (by omega)))
      simp [this]
theorem add_nI (a b : Nat) : nI a + nI b = nI (a + b) := nI_add a b
theorem one_nI : (1 : Int32) = nI 1 := rfl
theorem sub1_nI {a : Nat} (h : 1 ≤ a) : nI a - (1 : Int32) = nI (a - 1) := pk_sub h
theorem rem_nI {a d : Nat} (ha : a < 2 ^ 31) (h0 : 0 < d) (hd : d < 2 ^ 31) : nI a - nI a / nI d * nI d = nI (a % d) := pk_rem ha h0 hd
theorem qu_s {I : qI} {k i : Nat} {v : Int32} : qu I k i v k i = v := by simp [qu, upd]
theorem qu_k {I : qI} {k i a : Nat} {v : Int32} (h : a ≠ k) : qu I k i v a = I a := by simp [qu, h]
theorem qu_i {I : qI} {k i j : Nat} {v : Int32} (h : j ≠ i) : qu I k i v k j = I k j := by simp [qu, upd, h]
theorem qu_at (I : qI) (k i : Nat) (v : Int32) (a j : Nat) : qu I k i v a j = if a = k then (if j = i then v else I k j) else I a j := by
  unfold qu upd
  by_cases h : a = k
  · subst h; simp
  · simp [h]
theorem quL_at (J : qJ) (k i : Nat) (v : Int64) (a j : Nat) : quL J k i v a j = if a = k then (if j = i then v else J k j) else J a j := by
  unfold quL vp_updL
  by_cases h : a = k
  · subst h; simp
  · simp [h]
theorem par_t {x : Nat} (hx : x < 2 ^ 31) (r : Nat) (hr : r < 2) : (nI x - nI x / (2 : Int32) * (2 : Int32)) = nI r ↔ x % 2 = r := by
  rw [show (2 : Int32) = nI 2 from rfl, rem_nI hx (by decide) (by decide), nI_inj (by omega) (by omega)]
theorem par_0 {x : Nat} (hx : x < 2 ^ 31) : (nI x - nI x / (2 : Int32) * (2 : Int32)) = 0 ↔ x % 2 = 0 := par_t hx 0 (by decide)
theorem par_1 {x : Nat} (hx : x < 2 ^ 31) : (nI x - nI x / (2 : Int32) * (2 : Int32)) = (1 : Int32) ↔ x % 2 = 1 := par_t hx 1 (by decide)
theorem if_d {α : Type} {c d : Prop} [Decidable c] [Decidable d] (h : c ↔ d) (x y : α) : (if c then x else y) = (if d then x else y) := by
  by_cases q : d
  · rw [if_pos q, if_pos (h.mpr q)]
  · rw [if_neg q, if_neg (fun z => q (h.mp z))]
theorem if_bb {c : Prop} [Decidable c] : (if c then some (1 : Int32) else some (0 : Int32)) = some (b2i (decide c)) := by
  by_cases q : c
  · rw [if_pos q, decide_eq_true q]; rfl
  · rw [if_neg q, decide_eq_false q]; rfl
theorem one_le {x n : Nat} (hx : x < 2 ^ 31) (hn : n < 2 ^ 31) : ((1 : Int32) ≤ nI x ∧ nI x ≤ nI n) ↔ (1 ≤ x ∧ x ≤ n) := by
  rw [show (1 : Int32) = nI 1 from rfl, nle_i (by decide) hx, nle_i hx hn]
