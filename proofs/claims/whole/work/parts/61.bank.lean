/-! Pure: a bank as numbers (V i p: i 0 kinds, 1 extras, 2 sizes, 3 purses, 4 ties, 5 shuns; V 6 j what is told; V 7 0 how many; V 8 0 who is over), W: minutes 9, paid 10, crossings 11, seed 12. -/
abbrev qV : Type := Nat → Nat → Nat
abbrev qW : Type := Nat → Int32
/-- the memory's cells at b hold the bank, as the class keeps it -/
def XV (I : qI) (b : Nat) (V : qV) (Z : qW) : Prop :=
  ((∀ j, j < 8 → I (b + 1) j = nI (V 0 j)) ∧ (∀ j, j < 8 → I (b + 2) j = nI (V 1 j)) ∧ (∀ j, j < 8 → I (b + 3) j = nI (V 2 j)) ∧ (∀ j, j < 8 → I (b + 4) j = nI (V 3 j)) ∧ (∀ j, j < 8 → I (b + 5) j = nI (V 4 j)) ∧ (∀ j, j < 8 → I (b + 6) j = nI (V 5 j))) ∧
  (∀ j, j < 5 → I (b + 7) j = nI (V 6 j)) ∧ (I b 7 = nI (V 7 0) ∧ I b 8 = nI (V 8 0)) ∧ (I b 9 = Z 9 ∧ I b 10 = Z 10 ∧ I b 11 = Z 11 ∧ I b 12 = Z 12)
/-- the same, as the reference keeps it (m 0, or 80 for what is kept) -/
def MV (A : qI) (m : Nat) (V : qV) (Z : qW) : Prop :=
  ((∀ j, j < 8 → A (m + 17) j = nI (V 0 j)) ∧ (∀ j, j < 8 → A (m + 18) j = nI (V 1 j)) ∧ (∀ j, j < 8 → A (m + 19) j = nI (V 2 j)) ∧ (∀ j, j < 8 → A (m + 20) j = nI (V 3 j)) ∧ (∀ j, j < 8 → A (m + 21) j = nI (V 4 j)) ∧ (∀ j, j < 8 → A (m + 22) j = nI (V 5 j))) ∧
  (∀ j, j < 5 → A m (9 + j) = nI (V 6 j)) ∧ (A m 17 = nI (V 7 0) ∧ A m 18 = nI (V 8 0)) ∧ (A m 14 = Z 9 ∧ A m 15 = Z 10 ∧ A m 16 = Z 11 ∧ A m 25 = Z 12)
/-- what a bank may be -/
def WF (V : qV) : Prop :=
  (V 7 0 ≤ 8 ∧ V 8 0 < 2 ^ V 7 0) ∧ (1 ≤ V 6 0 ∧ V 6 0 ≤ 99 ∧ V 6 1 < 4 ∧ V 6 2 < 4 ∧ V 6 3 ≤ 9 ∧ V 6 4 ≤ 9) ∧
  (∀ p, p < 8 → V 0 p < 6 ∧ V 1 p ≤ 9 ∧ V 2 p ≤ 40 ∧ V 3 p ≤ 99 ∧ V 4 p < 2 ^ V 7 0 ∧ V 5 p < 2 ^ V 7 0) ∧
  (∀ p, V 7 0 ≤ p → p < 8 → V 4 p = 0 ∧ V 5 p = 0) ∧
  (∀ p q, p < V 7 0 → q < V 7 0 → (V 4 p).testBit q = (V 4 q).testBit p ∧ (V 5 p).testBit q = (V 5 q).testBit p) ∧
  (∀ p q, p < V 7 0 → ((V 4 p).testBit q && (V 5 p).testBit q) = false) ∧ (∀ p, p < V 7 0 → (V 4 p).testBit p = false ∧ (V 5 p).testBit p = false)
theorem WF.n {V : qV} (h : WF V) : V 7 0 ≤ 8 := h.1.1
theorem pow8 {n : Nat} (h : n ≤ 8) : 2 ^ n ≤ 256 := Nat.le_trans (Nat.pow_le_pow_right (by decide) h) (by decide)
theorem WF.all {V : qV} (h : WF V) : 2 ^ V 7 0 ≤ 256 := pow8 h.n
/-- HEADS -/
def sHeadsIf (V : qV) (p c : Nat) : Nat :=
  if V 0 p = 1 then (if V 6 2 % 2 = 0 then c else c + V 1 p) else if V 0 p = 2 then (if V 6 2 / 2 % 2 = 0 then V 1 p else c)
  else if V 0 p = 3 then ((if V 6 2 % 2 = 0 then c else c + V 1 p) + 1) / 2 else if V 0 p = 4 then (if V 6 2 / 2 % 2 = 0 then V 1 p else c) + 1 else if V 0 p = 5 then c + V 1 p else c
def sHeads (V : qV) (p : Nat) : Nat := sHeadsIf V p (V 2 p)
def sSum (f : Nat → Nat) (g : Nat) : Nat → Nat
  | 0 => 0
  | k + 1 => sSum f g k + (if g.testBit k then f k else 0)
def sHT (V : qV) (g : Nat) : Nat := sSum (sHeads V) g (V 7 0)
/-- GOES -/
def sPr (x : Nat) : Bool := decide (f_X2_isPrime (nI x) = some 1)
def sSq (x : Nat) : Bool := decide (f_X2_isSquare (nI x) = some 1)
def sLets (V : qV) (x : Nat) : Bool := decide (1 ≤ x ∧ x ≤ V 6 0) && (if V 6 1 = 1 then decide (x % 2 = 0) else if V 6 1 = 2 then decide (x % 2 = 1) else if V 6 1 = 3 then sSq x else sPr x)
/-- whether nobody minds -/
def sAgF (V : qV) (g ov : Nat) : Nat → Bool
  | 0 => true
  | k + 1 => sAgF V g ov k && (!g.testBit k || (decide (V 5 k &&& g = 0) && decide (V 4 k &&& (g ||| ov) = V 4 k)))
def sAg (V : qV) (g ov : Nat) : Bool := !decide (g = 0) && decide (g &&& ov = 0) && sAgF V g ov (V 7 0)
/-- the least hermits, at most j - 1 more than k -/
def sLH (V : qV) (hd : Nat) : Nat → Nat → Option Nat
  | 0, _ => none
  | j + 1, k => if sLets V (hd + k) then some k else sLH V hd j (k + 1)
def oI : Option Nat → Int32
  | none => -1
  | some k => nI k
def sHire (V : qV) (g ov m : Nat) : Option Nat := if sAg V g ov then sLH V (sHT V g) (m + 1) 0 else none
theorem pr_tab : ∀ x, x < 100 → f_X2_isPrime (nI x) = some (b2i (sPr x)) ∧ f_X9_isPrime (nI x) = some (b2i (sPr x)) := by decide +kernel
theorem sq_tab : ∀ x, x < 100 → 1 ≤ x → f_X2_isSquare (nI x) = some (b2i (sSq x)) ∧ f_X9_isSquare (nI x) = some (b2i (sSq x)) := by decide +kernel
section XB
variable {I : qI} {b : Nat} {V : qV} {Z : qW}
theorem x_lets (hV : XV I b V Z) (hW : WF V) {x : Nat} (hx : x < 2 ^ 31) : f_X2_lets b (nI x) I = some (b2i (sLets V x)) := by
  obtain ⟨-, hT, -⟩ := hV
  have e0 := hT 0 (by decide)
  have e1 := hT 1 (by decide)
  obtain ⟨-, ⟨h1, h2, h3, -⟩, -⟩ := hW
  unfold f_X2_lets sLets
  rw [within_s, bd_b, if_b, e0, e1]
  by_cases hc : 1 ≤ x ∧ x ≤ V 6 0
  · have hd := (one_le hx (show V 6 0 < 2 ^ 31 by omega)).mpr hc
    rw [decide_eq_true hd, if_pos rfl, decide_eq_true hc, Bool.true_and]
    have x99 : x < 100 := by omega
    rcases (show V 6 1 = 0 ∨ V 6 1 = 1 ∨ V 6 1 = 2 ∨ V 6 1 = 3 by omega) with e | e | e | e
    · rw [e]
      change (bd (f_X2_isPrime (nI x)) fun v => gd (v = 0 ∨ v = 1) (some v)) = some (b2i (sPr x))
      rw [(pr_tab x x99).1, bd_s, gd_b]
    · rw [e]
      change (if (nI x - nI x / (2 : Int32) * (2 : Int32)) = 0 then some (1 : Int32) else some (0 : Int32)) = some (b2i (decide (x % 2 = 0)))
      rw [if_d (par_0 hx), if_bb]
    · rw [e]
      change (if (nI x - nI x / (2 : Int32) * (2 : Int32)) = (1 : Int32) then some (1 : Int32) else some (0 : Int32)) = some (b2i (decide (x % 2 = 1)))
      rw [if_d (par_1 hx), if_bb]
    · rw [e]
      change (bd (f_X2_isSquare (nI x)) fun v => gd (v = 0 ∨ v = 1) (some v)) = some (b2i (sSq x))
      rw [(sq_tab x x99 hc.1).1, bd_s, gd_b]
  · have hd : ¬ ((1 : Int32) ≤ nI x ∧ nI x ≤ nI (V 6 0)) := fun h => hc ((one_le hx (by omega)).mp h)
    rw [decide_eq_false hd, if_neg (by decide), decide_eq_false hc, Bool.false_and]
    rfl
end XB
theorem rule1 : ∀ r, r < 4 → ((nI r &&& (1 : Int32)) = 0 ↔ r % 2 = 0) := by decide
theorem rule2 : ∀ r, r < 4 → ((nI r &&& (2 : Int32)) = 0 ↔ r / 2 % 2 = 0) := by decide
theorem rule1m : ∀ r, r < 4 → ((nI r &&& (1 : Int32)) = (1 : Int32) ↔ ¬ r % 2 = 0) := by decide
theorem rule2m : ∀ r, r < 4 → ((nI r &&& (2 : Int32)) = (2 : Int32) ↔ ¬ r / 2 % 2 = 0) := by decide
theorem kind_if {α : Type} {k : Nat} (hk : k < 6) (a1 a2 a3 a4 a5 a0 : α) : (if nI k = (1 : Int32) then a1 else if nI k = (2 : Int32) then a2 else if nI k = (3 : Int32) then a3 else if nI k = (4 : Int32) then a4 else if nI k = (5 : Int32) then a5 else a0) = (if k = 1 then a1 else if k = 2 then a2 else if k = 3 then a3 else if k = 4 then a4 else if k = 5 then a5 else a0) := by
  have e : ∀ j, j < 6 → ((nI k = nI j) ↔ k = j) := fun j hj => nI_inj (by omega) (by omega)
  have t := fun j hj => propext (e j hj)
  rw [show (1 : Int32) = nI 1 from rfl, show (2 : Int32) = nI 2 from rfl, show (3 : Int32) = nI 3 from rfl, show (4 : Int32) = nI 4 from rfl, show (5 : Int32) = nI 5 from rfl]
  simp only [t 1 (by decide), t 2 (by decide), t 3 (by decide), t 4 (by decide), t 5 (by decide)]
theorem half_nI {a : Nat} (ha : a < 2 ^ 31) : nI a / (2 : Int32) = nI (a / 2) := pk_div (d := 2) ha (by decide) (by decide)
section XB
variable {I : qI} {b : Nat} {V : qV} {Z : qW}
theorem sHeadsIf_le {V : qV} (hW : WF V) {p c : Nat} (hp : p < 8) : sHeadsIf V p c ≤ c + 10 := by
  have h := (hW.2.2.1 p hp).2.1
  unfold sHeadsIf
  split <;> (try split) <;> (try split) <;> (try split) <;> (try split) <;> (try split) <;> omega
theorem sHeads_le {V : qV} (hW : WF V) {p : Nat} (hp : p < 8) : sHeads V p ≤ 50 := by
  have h := (hW.2.2.1 p hp).2.2.1
  have := sHeadsIf_le hW (c := V 2 p) hp
  unfold sHeads
  omega
theorem x_headsIf (hV : XV I b V Z) (hW : WF V) {p c : Nat} (hp : p < 8) (hc : c ≤ 1000) : f_X2_headsIf b (nI p) (nI c) I = some (nI (sHeadsIf V p c)) := by
  obtain ⟨⟨k0, k1, -⟩, hT, -⟩ := hV
  have e2 := hT 2 (by decide)
  have hr := hW.2.1.2.2.2.1
  obtain ⟨g0, g1, -⟩ := hW.2.2.1 p hp
  have hq := qin_n hp (by decide)
  have hcl := nI_clamp (n := p) (by omega)
  have i1 := propext (rule1 _ hr)
  have i2 := propext (rule2 _ hr)
  unfold f_X2_headsIf f_X2_headsIf_25 f_X2_headsIf_43 sHeadsIf
  simp only [gd_t hq, hcl, e2, k0 p hp, k1 p hp, i1, i2, kind_if g0]
  have hh : ∀ z, z ≤ 2000 → (nI z + (1 : Int32)) / (2 : Int32) = nI ((z + 1) / 2) := fun z hz => by
    rw [nI_1, half_nI (by omega)]
  have key : ∀ fam flo : Nat, fam ≤ 2000 → (if V 0 p = 1 then some (nI fam) else if V 0 p = 2 then some (nI flo) else if V 0 p = 3 then some ((nI fam + (1 : Int32)) / (2 : Int32)) else if V 0 p = 4 then some (nI flo + (1 : Int32)) else if V 0 p = 5 then some (nI (c + V 1 p)) else some (nI c)) = some (nI (if V 0 p = 1 then fam else if V 0 p = 2 then flo else if V 0 p = 3 then (fam + 1) / 2 else if V 0 p = 4 then flo + 1 else if V 0 p = 5 then c + V 1 p else c)) := by
    intro fam flo hf
    rw [hh fam hf, nI_1]
    rcases (show V 0 p = 0 ∨ V 0 p = 1 ∨ V 0 p = 2 ∨ V 0 p = 3 ∨ V 0 p = 4 ∨ V 0 p = 5 by omega) with e | e | e | e | e | e <;> rw [e] <;> rfl
  have g1' : c + V 1 p ≤ 2000 := by omega
  by_cases c1 : V 6 2 % 2 = 0 <;> by_cases c2 : V 6 2 / 2 % 2 = 0 <;> simp only [c1, c2, if_true, if_false, add_nI]
  · exact key c (V 1 p) (by omega)
  · exact key c c (by omega)
  · exact key (c + V 1 p) (V 1 p) (by omega)
  · exact key (c + V 1 p) c (by omega)
theorem x_headsOf (hV : XV I b V Z) (hW : WF V) {p : Nat} (hp : p < 8) : f_X2_headsOf b (nI p) I = some (nI (sHeads V p)) := by
  have h2 := (hW.2.2.1 p hp).2.2.1
  unfold f_X2_headsOf
  rw [gd_t (qin_n hp (by decide)), nI_clamp (by omega), hV.1.2.2.1 p hp, x_headsIf hV hW hp (by omega)]
  rfl
theorem sSum_le {f : Nat → Nat} {g c : Nat} : ∀ {n : Nat}, (∀ k, k < n → f k ≤ c) → sSum f g n ≤ n * c
  | 0, _ => by simp [sSum]
  | n + 1, h => by
    have h1 := sSum_le (f := f) (g := g) (n := n) (fun k hk => h k (by omega))
    have h2 := h n (by omega)
    have e : (n + 1) * c = n * c + c := Nat.succ_mul n c
    unfold sSum
    split <;> omega
theorem sHT_le (hW : WF V) (g : Nat) : sHT V g ≤ 400 := by
  have h := sSum_le (f := sHeads V) (g := g) (c := 50) (n := V 7 0) (fun k hk => sHeads_le hW (by have := hW.n; omega))
  have := hW.n
  unfold sHT
  have : V 7 0 * 50 ≤ 8 * 50 := Nat.mul_le_mul_right 50 this
  omega
theorem x_HT (hV : XV I b V Z) (hW : WF V) {g : Nat} (hg : g < 2 ^ 31) : f_X2_headsTogether b (nI g) I = some (nI (sHT V g)) := by
  have hn := hW.n
  have e7 : I b 7 = nI (V 7 0) := hV.2.2.1.1
  have loop : ∀ fuel k, k ≤ V 7 0 → V 7 0 - k < fuel → f_X2_headsTogether_4 b I fuel (nI g) (nI (sSum (sHeads V) g k)) (nI k) = some (nI (sHT V g)) := by
    intro fuel
    induction fuel with
    | zero => intro k _ h; omega
    | succ f ih =>
      intro k hk hf
      rw [f_X2_headsTogether_4, e7]
      by_cases h : V 7 0 = k
      · subst h
        rw [if_pos (nI_le (Nat.le_refl _) (by omega))]
        rfl
      · rw [if_neg (nI_ge (by omega) (by omega)), f_has hg (by omega), bd_b, if_b, nI_1]
        have r := ih (k + 1) (by omega) (by omega)
        rw [sSum] at r
        by_cases c : g.testBit k = true
        · rw [if_pos c] at r ⊢
          rw [x_headsOf hV hW (by omega), bd_s, add_nI]
          exact r
        · rw [if_neg c] at r ⊢
          exact r
  exact loop 1000 0 (Nat.zero_le _) (by omega)
theorem x_LH (hV : XV I b V Z) (hW : WF V) {hd m : Nat} (hh : hd ≤ 1000) (hm : m ≤ 100) : f_X2_leastHermits b (nI hd) (nI m) I = some (oI (sLH V hd (m + 1) 0)) := by
  have loop : ∀ j fuel k, j + k = m + 1 → j < fuel → f_X2_leastHermits_2 b I fuel (nI hd) (nI m) (nI k) = some (oI (sLH V hd j k)) := by
    intro j
    induction j with
    | zero =>
      intro fuel k hk hf
      obtain ⟨f, rfl⟩ : ∃ f, fuel = f + 1 := ⟨fuel - 1, by omega⟩
      rw [f_X2_leastHermits_2, if_pos (nI_lt (by omega) (by omega))]
      rfl
    | succ j ih =>
      intro fuel k hk hf
      obtain ⟨f, rfl⟩ : ∃ f, fuel = f + 1 := ⟨fuel - 1, by omega⟩
      rw [f_X2_leastHermits_2, if_neg (nI_nlt (by omega) (by omega)), add_nI, x_lets hV hW (by omega), bd_b, if_b, sLH]
      by_cases c : sLets V (hd + k) = true
      · rw [if_pos c, if_pos c]
        rfl
      · rw [if_neg c, if_neg c, nI_1]
        exact ih f (k + 1) (by omega) (by omega)
  exact loop (m + 1) 1000 0 (by omega) (by omega)
theorem x_ag (hV : XV I b V Z) (hW : WF V) {g ov : Nat} (hg : g < 2 ^ 31) (ho : ov < 2 ^ 31) : f_X2_agrees b (nI g) (nI ov) I = some (b2i (sAg V g ov)) := by
  have hn := hW.n
  have e7 : I b 7 = nI (V 7 0) := hV.2.2.1.1
  have hgo : g ||| ov < 2 ^ 31 := Nat.or_lt_two_pow hg ho
  have loop : ∀ fuel k, k ≤ V 7 0 → V 7 0 - k < fuel → sAgF V g ov k = true → f_X2_agrees_21 b I fuel (nI g) (nI (g ||| ov) ^^^ (-1 : Int32)) (nI k) = some (b2i (sAgF V g ov (V 7 0))) := by
    intro fuel
    induction fuel with
    | zero => intro k _ h; omega
    | succ f ih =>
      intro k hk hf hs
      rw [f_X2_agrees_21, e7]
      by_cases h : V 7 0 = k
      · subst h
        rw [if_pos (nI_le (Nat.le_refl _) (by omega)), hs]
        rfl
      · have hk8 : k < 8 := by omega
        have hb4 := (hW.2.2.1 k hk8).2.2.2.2.1
        have hb5 := (hW.2.2.1 k hk8).2.2.2.2.2
        have hall := hW.all
        have stop : sAgF V g ov (k + 1) = false → sAgF V g ov (V 7 0) = false := by
          have : ∀ d, sAgF V g ov (k + 1) = false → sAgF V g ov (k + 1 + d) = false := by
            intro d
            induction d with
            | zero => exact id
            | succ d ihd => intro z; rw [Nat.add_succ, sAgF, ihd z]; rfl
          intro z
          have := this (V 7 0 - (k + 1)) z
          rwa [show k + 1 + (V 7 0 - (k + 1)) = V 7 0 by omega] at this
        rw [if_neg (nI_ge (by omega) (by omega)), f_has hg (by omega), bd_b, if_b, nI_1]
        have r := ih (k + 1) (by omega) (by omega)
        rw [sAgF, hs, Bool.true_and] at r stop
        by_cases c : g.testBit k = true
        · rw [if_pos c, gd_t (qin_n hk8 (by decide)), gd_t (qin_n hk8 (by decide)), nI_clamp (by omega), hV.1.2.2.2.2.1 k hk8, hV.1.2.2.2.2.2 k hk8, and_nI]
          rw [c, Bool.not_true, Bool.false_or] at r stop
          by_cases c5 : V 5 k &&& g = 0
          · rw [if_pos ((nI_z (Nat.lt_of_le_of_lt Nat.and_le_left (by omega))).mpr c5)]
            rw [decide_eq_true c5, Bool.true_and] at r stop
            by_cases c4 : V 4 k &&& (g ||| ov) = V 4 k
            · rw [if_pos ((nand_nI (by omega) hgo).mpr c4)]
              exact r (decide_eq_true c4)
            · rw [if_neg (fun z => c4 ((nand_nI (by omega) hgo).mp z)), stop (decide_eq_false c4)]
              rfl
          · rw [if_neg (fun z => c5 ((nI_z (Nat.lt_of_le_of_lt Nat.and_le_left (by omega))).mp z)), stop (by rw [decide_eq_false c5]; rfl)]
            rfl
        · rw [if_neg c]
          exact r (by rw [Bool.eq_false_iff.mpr c]; rfl)
  unfold f_X2_agrees sAg
  by_cases c : g = 0
  · rw [if_pos (by rw [c]; rfl), decide_eq_true c]; rfl
  · rw [if_neg (fun z => c ((nI_z hg).mp z)), decide_eq_false c, and_nI]
    by_cases c2 : g &&& ov = 0
    · rw [if_pos (by rw [c2]; rfl), decide_eq_true c2, or_nI]
      exact loop 1000 0 (Nat.zero_le _) (by omega) rfl
    · rw [if_neg (fun z => c2 ((nI_z (Nat.lt_of_le_of_lt Nat.and_le_left hg)).mp z)), decide_eq_false c2]; rfl
theorem x_hireBy (hV : XV I b V Z) (hW : WF V) {g ov : Nat} (hg : g < 2 ^ 31) (ho : ov < 2 ^ 31) : f_X2_hireBy b (nI g) (nI ov) I = some (oI (sHire V g ov (V 6 3))) := by
  have h3 : I (b + 7) 3 = nI (V 6 3) := hV.2.1 3 (by decide)
  have hm := hW.2.1.2.2.2.2.1
  have hl := sHT_le hW g
  unfold f_X2_hireBy sHire
  rw [x_ag hV hW hg ho, bd_b, if_b]
  by_cases c : sAg V g ov = true
  · rw [if_pos c, if_pos c, x_HT hV hW hg, bd_s, h3, x_LH hV hW (by omega) (by omega)]
    rfl
  · rw [if_neg c, if_neg c]; rfl
theorem ov_lt (hW : WF V) : V 8 0 < 256 := by
  have := hW.1.2
  have := hW.all
  omega
theorem x_hireNow (hV : XV I b V Z) (hW : WF V) {g : Nat} (hg : g < 2 ^ 31) : f_X2_hireNow b (nI g) I = some (oI (sHire V g (V 8 0) (V 6 3))) := by
  have ho := ov_lt hW
  unfold f_X2_hireNow
  rw [hV.2.2.1.2, x_hireBy hV hW hg (by omega)]
  rfl
end XB
