/-! Pure: crossed (2). -/
theorem pI_s (k : Nat) : nI k - 1 = pI k := by
  cases k with
  | zero => decide
  | succ k => rw [sub1_nI (by omega), Nat.add_sub_cancel]; rfl
theorem wR_s {V : qV} {num : Nat → Int64} {n k : Nat} (hk : k < n) : wR V num n (n - k) = fun s => fS (sFa V (num k)) (wR V num n (n - (k + 1))) s (s + 1) := by
  have e : n - k = (n - (k + 1)) + 1 := by omega
  rw [e, wR, show n - 1 - (n - (k + 1)) = k by omega]
def ffN (V : qV) (num : Nat → Int64) (n : Nat) : Int32 := if n = 0 then -1 else ffV (sFa V (num 0)) (wR V num n (n - 1)) (sAll V) (sAll V) 1
section CS
variable {t : qF} {I : qI} {J : qJ} {A : qI} {B : qJ} {V : qV} {Z : qW}
theorem x_cross {s k m n : Nat} (hs : s < 8) (hk : k < 5) (hm' : m ≤ 40) (hn : n ≤ m) (h8 : n ≤ 8) (hx : XV I 1 V Z) (hW : WF V) (e1 : I (28 + 2 * s) 1 = nI k) (l1 : I (28 + 2 * s) 2 = nI m) :
    ∃ I', f_X0_waysToCross 1 (28 + 2 * s) (nI n) I J = some (wR V (J (28 + 2 * s + 1)) n n (sAll V), I') ∧ (∀ a j, a ≠ 54 → a ≠ 55 → a ≠ 56 → I' a j = I a j) ∧ I' 54 2 = ffN V (J (28 + 2 * s + 1)) n := by
  have hA := sAll_lt hW
  have hall : f_X2_here 1 I = some (nI (sAll V)) := by
    unfold f_X2_here f_X2_everybody
    rw [bd_s, hx.2.2.1.1, hx.2.2.1.2, pow_sub hW.n, m1_nI, xor_nI, and_nI]
    rfl
  have loop : ∀ f c, c ≤ n → c < f → ∀ I1 : qI, (∀ a j, a ≠ 54 → a ≠ 55 → a ≠ 56 → I1 a j = I a j) → (∀ z, z &&& sAll V = z → I1 56 z = wR V (J (28 + 2 * s + 1)) n (n - c) z) → I1 54 2 = (if c = 0 then ffN V (J (28 + 2 * s + 1)) n else -1) →
      ∃ I', f_X0_waysToCross_24 1 (28 + 2 * s) f (nI (sAll V)) (pI c) I1 J = some (wR V (J (28 + 2 * s + 1)) n n (sAll V), I') ∧ (∀ a j, a ≠ 54 → a ≠ 55 → a ≠ 56 → I' a j = I a j) ∧ I' 54 2 = ffN V (J (28 + 2 * s + 1)) n := by
    intro f
    induction f with
    | zero => intro c _ h; omega
    | succ f ih =>
      intro c hc hf I1 fr h56 h54
      rw [f_X0_waysToCross_24]
      cases c with
      | zero =>
        rw [show pI 0 = -1 from rfl, if_pos (by decide), gd_t (qin_n hA (by decide)), clampI (by omega), h56 _ (Nat.and_self _)]
        exact ⟨I1, rfl, fr, h54⟩
      | succ c =>
        have x1 : XV I1 1 V Z := hx.fr fun k j g1 g2 => fr k j (by omega) (by omega) (by omega)
        rw [show pI (c + 1) = nI c from rfl, if_neg (nI_pos (by omega)), x_at (J := J) hk hm' (by rw [fr _ _ (by omega) (by omega) (by omega)]; exact e1) (by rw [fr _ _ (by omega) (by omega) (by omega)]; exact l1) (show c < m by omega), bd_s]
        obtain ⟨I4, q1, q2, q3⟩ := x_fits x1 hW hA (J (28 + 2 * s + 1) c)
        have h55 : ∀ g, 1 ≤ g → g &&& sAll V = g → I4 55 g = b2i (sFa V (J (28 + 2 * s + 1) c) g) := fun g g1 g2 => by
          have : g &&& sAll V ≤ sAll V := Nat.and_le_right
          rw [q3 g g1 (by omega)]
          unfold sFa
          rw [decide_eq_true g2, Bool.true_and]
        have h56' : ∀ z, z &&& sAll V = z → I4 56 z = wR V (J (28 + 2 * s + 1)) n (n - (c + 1)) z := fun z hz => by rw [q2 _ _ (by decide)]; exact h56 z hz
        rw [q1, bd_s]
        have go : ∀ I5 : qI, (∀ a j, ¬ (a = 54 ∧ j = 2) → I5 a j = I4 a j) → I5 54 2 = (if c = 0 then ffN V (J (28 + 2 * s + 1)) n else -1) → ∃ I', f_X0_waysToCross_61 1 (28 + 2 * s) (f_X0_waysToCross_24 1 (28 + 2 * s) f) 1000 (nI (sAll V)) (nI c) (nI (sAll V)) I5 J = some (wR V (J (28 + 2 * s + 1)) n n (sAll V), I') ∧ (∀ a j, a ≠ 54 → a ≠ 55 → a ≠ 56 → I' a j = I a j) ∧ I' 54 2 = ffN V (J (28 + 2 * s + 1)) n := by
          intro I5 f5 h5
          obtain ⟨I6, u1, u2, u3⟩ := x_sets (J := J) (c1 := 28 + 2 * s) hA (sFa V (J (28 + 2 * s + 1) c)) (wR V (J (28 + 2 * s + 1)) n (n - (c + 1))) (f_X0_waysToCross_24 1 (28 + 2 * s) f) (nI c) I5 (fun g g1 g2 => by rw [f5 _ _ (by omega)]; exact h55 g g1 g2) 1000 (sAll V + 1) (Nat.le_refl _) (by omega) I5 (fun _ _ _ => rfl) (fun z hz => by
            have : z &&& sAll V ≤ sAll V := Nat.and_le_right
            rw [if_pos (by omega), f5 _ _ (by omega)]; exact h56' z hz)
          rw [show f_X0_waysToCross_61 1 (28 + 2 * s) (f_X0_waysToCross_24 1 (28 + 2 * s) f) 1000 (nI (sAll V)) (nI c) (nI (sAll V)) I5 J = _ from u1, pI_m]
          refine ih c (by omega) (by omega) I6 (fun a j a1 a2 a3 => ?_) (fun z hz => ?_) ?_
          · rw [u2 a j a3, f5 a j (by omega), q2 a j a2]; exact fr a j a1 a2 a3
          · rw [u3 z hz, wR_s (show c < n by omega)]
          · rw [u2 54 2 (by decide)]; exact h5
        by_cases c0 : c = 0
        · have e0 : nI c = 0 := by rw [c0]; rfl
          rw [if_pos e0]
          unfold f_X0_firstFit
          rw [show f_X0_firstFit_2 I4 1000 (nI (sAll V)) 1 = _ from x_ff hA (sFa V (J (28 + 2 * s + 1) c)) (wR V (J (28 + 2 * s + 1)) n (n - (c + 1))) h55 (fun g hg => h56' _ (by
            obtain ⟨⟨t1, t2, -⟩, -⟩ := sub_tab (sAll V) hA g (sub_lt hA hg) hg
            exact t2)) (sAll V) 1000 1 (Nat.le_refl _) (by omega) (by omega), bd_s, lt_e]
          refine go _ (fun a j hq => ?_) ?_
          · rw [qu_at]
            by_cases e : a = 54
            · rw [if_pos e, if_neg (fun z => hq ⟨e, z⟩), e]
            · rw [if_neg e]
          · rw [qu_s, if_pos c0]
            unfold ffN
            rw [if_neg (by omega), c0]
        · rw [if_neg (fun z => c0 ((nI_z (by omega)).mp z))]
          refine go I4 (fun _ _ _ => rfl) ?_
          rw [q2 54 2 (by decide), h54, if_neg (by omega), if_neg c0]
  unfold f_X0_waysToCross
  rw [hall, bd_s, lt_e, nofill1, bd_s, pI_s]
  refine loop 1000 n (Nat.le_refl _) (by omega) _ (fun a j a1 a2 a3 => ?_) (fun z hz => ?_) ?_
  · unfold quR
    rw [if_neg a3, qu_k a1]
  · have : z &&& sAll V ≤ sAll V := Nat.and_le_right
    unfold quR
    rw [if_pos rfl, if_pos (by omega), Nat.sub_self]
    rfl
  · unfold quR
    rw [if_neg (by decide), qu_s]
    by_cases c : n = 0
    · rw [if_pos c]
      unfold ffN
      rw [if_pos c]
    · rw [if_neg c]
theorem m_113 (k35 : Int32 → Int32 → Int32 → qI → qJ → Option qI) (k69 : Int32 → Int32 → Int32 → Int32 → qI → qJ → Option qI) (x1 : Int32) {c all g : Nat} (hc : c < 8) (ha : all < 256) (g1 : 1 ≤ g) (fit : Nat → Bool) (W : Nat → Int32) :
    ∀ f j, g ≤ j → j ≤ all + 1 → all + 1 - j < f → ∀ A1 : qI, (∀ z, z ≤ all → A1 (31 + c) z = if z < j then fS fit W z (g + 1) else fS fit W z g) → (∀ z, z ≤ all → A1 (31 + (c + 1)) z = W z) →
      ∃ A', f_X9_findCrossed_113 k35 k69 f x1 (nI all) (nI c) (nI g) (b2i (fit g)) (nI j) A1 B = k69 x1 (nI all) (nI c) (nI (g + 1)) A' B ∧ (∀ z, z ≤ all → A' (31 + c) z = fS fit W z (g + 1)) ∧ (∀ a j, a ≠ 31 + c → A' a j = A1 a j) := by
  intro f
  induction f with
  | zero => intro j _ _ h; omega
  | succ f ih =>
    intro j h1 hj hf A1 hs hW'
    rw [f_X9_findCrossed_113, if_d (nlt_i (show all < 2 ^ 31 by omega) (show j < 2 ^ 31 by omega)), nI_1]
    by_cases q : all < j
    · rw [if_pos q]
      exact ⟨A1, rfl, fun z hz => by rw [hs z hz, if_pos (by omega)], fun _ _ _ => rfl⟩
    · rw [if_neg q]
      cases fg : fit g with
      | false =>
        rw [if_pos (show b2i false = 0 from rfl)]
        refine ⟨A1, rfl, fun z hz => ?_, fun _ _ _ => rfl⟩
        rw [hs z hz, fS_no (fun y => by rw [fg] at y; cases y.2.2), ite_self]
      | true =>
        have j256 : j < 256 := by omega
        have qj := qin_n j256 (by decide)
        have cj := clampI (show j < 2 ^ 31 by omega)
        have cc := clampI (show c < 2 ^ 31 by omega)
        have jl : j &&& (g ^^^ 4294967295) < 256 := Nat.lt_of_le_of_lt Nat.and_le_left j256
        rw [if_neg (show ¬ b2i true = 0 by decide), gd_t (qin_n (show c < 9 by omega) (by decide)), gd_t qj, if_d (nand_nI (show g < 2 ^ 31 by omega) (show j < 2 ^ 31 by omega)), nI_1, gd_t (qin_n (show c + 1 < 9 by omega) (by decide)), nandI, gd_t (qin_n jl (by decide)), clampI (show c + 1 < 2 ^ 31 by omega), clampI (show j &&& (g ^^^ 4294967295) < 2 ^ 31 by omega), cc, cj, hs j (by omega), if_neg (Nat.lt_irrefl _)]
        rw [fg] at ih
        have go : ∀ v : Int32, fS fit W j g + v = fS fit W j (g + 1) → ∃ A', f_X9_findCrossed_166 k35 k69 (f_X9_findCrossed_113 k35 k69 f) x1 (nI all) (nI c) (nI g) (b2i true) (nI j) v (fS fit W j g) (nI j) (31 + c) A1 B = k69 x1 (nI all) (nI c) (nI (g + 1)) A' B ∧ (∀ z, z ≤ all → A' (31 + c) z = fS fit W z (g + 1)) ∧ (∀ a j, a ≠ 31 + c → A' a j = A1 a j) := by
          intro v hv
          unfold f_X9_findCrossed_166
          rw [gd_t qj, lt_e, cj, hv, nI_1]
          obtain ⟨A', r1, r2, r3⟩ := ih (j + 1) (by omega) (by omega) (by omega) (qu A1 (31 + c) j (fS fit W j (g + 1))) (fun z hz => by
            by_cases e : z = j
            · subst e; rw [qu_s, if_pos (Nat.lt_succ_self _)]
            · rw [qu_i e, hs z hz]
              by_cases l : z < j
              · rw [if_pos l, if_pos (by omega)]
              · rw [if_neg l, if_neg (by omega)]) (fun z hz => by rw [qu_k (by omega)]; exact hW' z hz)
          exact ⟨A', r1, r2, fun a j' h => by rw [r3 a j' h, qu_k h]⟩
        by_cases d : g &&& j = g
        · obtain ⟨⟨t1, t2, t3⟩, -⟩ := sub_tab j j256 g (sub_lt j256 d) d
          rw [if_pos d, t3, hW' _ (by omega)]
          exact go _ (by rw [fS, if_pos ⟨d, by omega, fg⟩])
        · rw [if_neg d]
          exact go 0 (by rw [fS_no (fun z => d z.1), Int32.add_zero])
theorem m_69 (k35 : Int32 → Int32 → Int32 → qI → qJ → Option qI) {s c : Nat} (hs8 : s < 8) (hc : c < 8) (hm : MV A 0 V Z) (hW : WF V) (W : Nat → Int32) :
    ∀ f g, 1 ≤ g → g ≤ sAll V + 1 → sAll V + 1 - g < f → ∀ A1 : qI, (∀ a j, ¬ (31 ≤ a ∧ a ≤ 39) → A1 a j = A a j) → (∀ z, z ≤ sAll V → A1 (31 + c) z = fS (sFa V (B (5 + s) c)) W z g) → (∀ z, z ≤ sAll V → A1 (31 + (c + 1)) z = W z) →
      ∃ A', f_X9_findCrossed_69 k35 f (nI s) (nI (sAll V)) (nI c) (nI g) A1 B = k35 (nI s) (nI (sAll V)) (pI c) A' B ∧ (∀ z, z ≤ sAll V → A' (31 + c) z = fS (sFa V (B (5 + s) c)) W z (z + 1)) ∧ (∀ a j, a ≠ 31 + c → A' a j = A1 a j) := by
  have hA := sAll_lt hW
  intro f
  induction f with
  | zero => intro g _ _ h; omega
  | succ f ih =>
    intro g h1 hg hf A1 fr hs hw
    rw [f_X9_findCrossed_69, if_d (nlt_i (show sAll V < 2 ^ 31 by omega) (show g < 2 ^ 31 by omega)), pI_m]
    by_cases q : sAll V < g
    · rw [if_pos q]
      refine ⟨A1, rfl, fun z hz => ?_, fun _ _ _ => rfl⟩
      rw [hs z hz, ← fS_end _ _ _ (g - (z + 1)), show z + 1 + (g - (z + 1)) = g by omega]
    · have m1 : MV A1 0 V Z := hm.fr fun k j g => fr k j (by omega)
      rw [if_neg q, if_d (nand_nI (show g < 2 ^ 31 by omega) (show sAll V < 2 ^ 31 by omega)), gd_t (qin_n hs8 (by decide)), gd_t (qin_n (show c < 40 by omega) (by decide)), clampI (show s < 2 ^ 31 by omega), clampI (show c < 2 ^ 31 by omega), m_ab m1 hW (show g < 256 by omega), bd_b, if_b]
      have key : (if g &&& sAll V = g then (if sFit V (B (5 + s) c) g = true then f_X9_findCrossed_113 k35 (f_X9_findCrossed_69 k35 f) 1000 (nI s) (nI (sAll V)) (nI c) (nI g) 1 (nI g) A1 B else f_X9_findCrossed_113 k35 (f_X9_findCrossed_69 k35 f) 1000 (nI s) (nI (sAll V)) (nI c) (nI g) 0 (nI g) A1 B) else f_X9_findCrossed_113 k35 (f_X9_findCrossed_69 k35 f) 1000 (nI s) (nI (sAll V)) (nI c) (nI g) 0 (nI g) A1 B) = f_X9_findCrossed_113 k35 (f_X9_findCrossed_69 k35 f) 1000 (nI s) (nI (sAll V)) (nI c) (nI g) (b2i (sFa V (B (5 + s) c) g)) (nI g) A1 B := by
        unfold sFa
        by_cases d : g &&& sAll V = g
        · rw [if_pos d, decide_eq_true d, Bool.true_and]
          cases sFit V (B (5 + s) c) g <;> rfl
        · rw [if_neg d, decide_eq_false d, Bool.false_and]; rfl
      rw [key]
      obtain ⟨A2, r1, r2, r3⟩ := m_113 (B := B) k35 (f_X9_findCrossed_69 k35 f) (nI s) hc hA h1 (sFa V (B (5 + s) c)) W 1000 g (Nat.le_refl _) hg (by omega) A1 (fun z hz => by
        rw [hs z hz]
        by_cases l : z < g
        · rw [if_pos l, fS_no (fun y => by
            have : g &&& z ≤ z := Nat.and_le_right
            omega)]
        · rw [if_neg l]) hw
      rw [r1]
      obtain ⟨A3, u1, u2, u3⟩ := ih (g + 1) (by omega) (by omega) (by omega) A2 (fun a j h => by rw [r3 a j (by omega)]; exact fr a j h) r2 (fun z hz => by rw [r3 _ _ (by omega)]; exact hw z hz)
      exact ⟨A3, u1, u2, fun a j h => by rw [u3 a j h, r3 a j h]⟩
theorem m_cross {s n : Nat} (hs8 : s < 8) (hn : n ≤ 8) (hm : MV A 0 V Z) (hW : WF V) : ∃ A', f_X9_findCrossed (nI s) (nI n) A B = some A' ∧ (∀ a j, ¬ (31 ≤ a ∧ a ≤ 39) → A' a j = A a j) ∧ (∀ c, c ≤ n → ∀ z, z ≤ sAll V → A' (31 + c) z = wR V (B (5 + s)) n (n - c) z) := by
  have hA := sAll_lt hW
  have hall : f_X9_waitingBits A = some (nI (sAll V)) := by
    unfold f_X9_waitingBits
    rw [hm.2.2.1.1, hm.2.2.1.2, pow_sub hW.n, m1_nI, xor_nI, and_nI]
    rfl
  have zero : ∀ (K : Int32 → Int32 → Int32 → qI → qJ → Option qI) c, c < 8 → ∀ f k, k ≤ sAll V + 1 → sAll V + 1 - k < f → ∀ A1 : qI, (∀ z, z < k → A1 (31 + c) z = 0) → ∃ A', f_X9_findCrossed_43 K f (nI s) (nI (sAll V)) (nI c) (nI k) A1 B = f_X9_findCrossed_69 K 1000 (nI s) (nI (sAll V)) (nI c) 1 A' B ∧ (∀ z, z ≤ sAll V → A' (31 + c) z = 0) ∧ (∀ a j, a ≠ 31 + c → A' a j = A1 a j) := by
    intro K c hc f
    induction f with
    | zero => intro k _ h; omega
    | succ f ih =>
      intro k hk hf A1 hz
      rw [f_X9_findCrossed_43, if_d (nlt_i (show sAll V < 2 ^ 31 by omega) (show k < 2 ^ 31 by omega))]
      by_cases q : sAll V < k
      · rw [if_pos q]
        exact ⟨A1, rfl, fun z h => hz z (by omega), fun _ _ _ => rfl⟩
      · rw [if_neg q, gd_t (qin_n (show c < 9 by omega) (by decide)), gd_t (qin_n (show k < 256 by omega) (by decide)), lt_e, clampI (show c < 2 ^ 31 by omega), clampI (show k < 2 ^ 31 by omega), nI_1]
        obtain ⟨A', r1, r2, r3⟩ := ih (k + 1) (by omega) (by omega) (qu A1 (31 + c) k 0) (fun z h => by
          by_cases e : z = k
          · subst e; exact qu_s
          · rw [qu_i e]; exact hz z (by omega))
        exact ⟨A', r1, r2, fun a j h => by rw [r3 a j h, qu_k h]⟩
  have loop : ∀ f c, c ≤ n → c < f → ∀ A1 : qI, (∀ a j, ¬ (31 ≤ a ∧ a ≤ 39) → A1 a j = A a j) → (∀ d, c ≤ d → d ≤ n → ∀ z, z ≤ sAll V → A1 (31 + d) z = wR V (B (5 + s)) n (n - d) z) → ∃ A', f_X9_findCrossed_35 f (nI s) (nI (sAll V)) (pI c) A1 B = some A' ∧ (∀ a j, ¬ (31 ≤ a ∧ a ≤ 39) → A' a j = A a j) ∧ (∀ d, d ≤ n → ∀ z, z ≤ sAll V → A' (31 + d) z = wR V (B (5 + s)) n (n - d) z) := by
    intro f
    induction f with
    | zero => intro c _ h; omega
    | succ f ih =>
      intro c hc hf A1 fr hR
      rw [f_X9_findCrossed_35]
      cases c with
      | zero =>
        rw [show pI 0 = -1 from rfl, if_pos (by decide)]
        exact ⟨A1, rfl, fr, fun d hd => hR d (Nat.zero_le _) hd⟩
      | succ c =>
        rw [show pI (c + 1) = nI c from rfl, if_neg (nI_pos (by omega))]
        obtain ⟨A2, r1, r2, r3⟩ := zero (f_X9_findCrossed_35 f) c (by omega) 1000 0 (Nat.zero_le _) (by omega) A1 (fun z h => by omega)
        rw [show f_X9_findCrossed_43 (f_X9_findCrossed_35 f) 1000 (nI s) (nI (sAll V)) (nI c) 0 A1 B = _ from r1]
        obtain ⟨A3, u1, u2, u3⟩ := m_69 (B := B) (f_X9_findCrossed_35 f) hs8 (show c < 8 by omega) hm hW (wR V (B (5 + s)) n (n - (c + 1))) 1000 1 (Nat.le_refl _) (by omega) (by omega) A2 (fun a j h => by rw [r3 a j (by omega)]; exact fr a j h) (fun z hz => by rw [r2 z hz, fS_one]) (fun z hz => by rw [r3 _ _ (by omega)]; exact hR (c + 1) (Nat.le_refl _) hc z hz)
        rw [show f_X9_findCrossed_69 (f_X9_findCrossed_35 f) 1000 (nI s) (nI (sAll V)) (nI c) 1 A2 B = _ from u1]
        refine ih c (by omega) (by omega) A3 (fun a j h => by rw [u3 a j (by omega), r3 a j (by omega)]; exact fr a j h) (fun d d1 d2 z hz => ?_)
        by_cases e : d = c
        · subst e
          rw [u2 z hz, wR_s (show d < n by omega)]
        · rw [u3 _ _ (by omega), r3 _ _ (by omega)]
          exact hR d (by omega) d2 z hz
  have ones : ∀ f k, k ≤ sAll V + 1 → sAll V + 1 - k < f → ∀ A1 : qI, (∀ z, z < k → A1 (31 + n) z = 1) → ∃ A', f_X9_findCrossed_8 f (nI s) (nI n) (nI (sAll V)) (nI k) A1 B = f_X9_findCrossed_35 1000 (nI s) (nI (sAll V)) (pI n) A' B ∧ (∀ z, z ≤ sAll V → A' (31 + n) z = 1) ∧ (∀ a j, a ≠ 31 + n → A' a j = A1 a j) := by
    intro f
    induction f with
    | zero => intro k _ h; omega
    | succ f ih =>
      intro k hk hf A1 hz
      rw [f_X9_findCrossed_8, if_d (nlt_i (show sAll V < 2 ^ 31 by omega) (show k < 2 ^ 31 by omega)), pI_s]
      by_cases q : sAll V < k
      · rw [if_pos q]
        exact ⟨A1, rfl, fun z h => hz z (by omega), fun _ _ _ => rfl⟩
      · rw [if_neg q, gd_t (qin_n (show n < 9 by omega) (by decide)), gd_t (qin_n (show k < 256 by omega) (by decide)), lt_e, clampI (show n < 2 ^ 31 by omega), clampI (show k < 2 ^ 31 by omega), nI_1]
        obtain ⟨A', r1, r2, r3⟩ := ih (k + 1) (by omega) (by omega) (qu A1 (31 + n) k 1) (fun z h => by
          by_cases e : z = k
          · subst e; exact qu_s
          · rw [qu_i e]; exact hz z (by omega))
        exact ⟨A', r1, r2, fun a j h => by rw [r3 a j h, qu_k h]⟩
  unfold f_X9_findCrossed
  rw [hall, bd_s]
  obtain ⟨A1, r1, r2, r3⟩ := ones 1000 0 (Nat.zero_le _) (by omega) A (fun z h => by omega)
  rw [show f_X9_findCrossed_8 1000 (nI s) (nI n) (nI (sAll V)) 0 A B = _ from r1]
  exact loop 1000 n (Nat.le_refl _) (by omega) A1 (fun a j h => r3 a j (by omega)) (fun d d1 d2 z hz => by
    have e : d = n := by omega
    subst e
    rw [r2 z hz, Nat.sub_self]; rfl)
theorem m_ff {s n : Nat} (hs8 : s < 8) (hn : n ≤ 8) (hm : MV A 0 V Z) (hW : WF V) (n0 : n ≠ 0) (W : Nat → Int32) (hw : ∀ z, z ≤ sAll V → A 32 z = W z) : ∀ j f k, 1 ≤ k → k + j = sAll V + 1 → j < f → f_X9_crossed_54 f (nI s) (nI n) (nI (sAll V)) (nI k) A B = some (ffV (sFa V (B (5 + s) 0)) W (sAll V) j k, A) := by
  have hA := sAll_lt hW
  intro j
  induction j with
  | zero =>
    intro f k h1 hk hf
    obtain ⟨f, rfl⟩ : ∃ g, f = g + 1 := ⟨f - 1, by omega⟩
    rw [f_X9_crossed_54, if_pos ((nlt_i (by omega) (by omega)).mpr (by omega))]
    rfl
  | succ j ih =>
    intro f k h1 hk hf
    obtain ⟨f, rfl⟩ : ∃ g, f = g + 1 := ⟨f - 1, by omega⟩
    have ih := ih f (k + 1) (by omega) (by omega) (by omega)
    have kl : sAll V &&& (k ^^^ 4294967295) < 256 := Nat.lt_of_le_of_lt Nat.and_le_left hA
    rw [f_X9_crossed_54, if_neg (fun z => by
      have := (nlt_i (show sAll V < 2 ^ 31 by omega) (show k < 2 ^ 31 by omega)).mp z
      omega), if_neg (fun z => by
      have := (nle_i (b := 0) (show n < 2 ^ 31 by omega) (by decide)).mp z
      omega), if_d (nand_nI (show k < 2 ^ 31 by omega) (show sAll V < 2 ^ 31 by omega)), gd_t (qin_n hs8 (by decide)), clampI (show s < 2 ^ 31 by omega), m_ab hm hW (show k < 256 by omega), bd_b, if_b, ffV]
    unfold f_X9_crossed_96 f_X9_crossed_97
    rw [if_pos (show (0 : Int32) = 0 from rfl), if_neg (show ¬ (1 : Int32) = 0 by decide), nandI, gd_t (qin_n kl (by decide)), clampI (show sAll V &&& (k ^^^ 4294967295) < 2 ^ 31 by omega), nI_1]
    by_cases c : k &&& sAll V = k
    · obtain ⟨⟨t1, t2, t3⟩, -⟩ := sub_tab (sAll V) hA k (by omega) c
      have ef : sFa V (B (5 + s) 0) k = sFit V (B (5 + s) 0) k := by
        unfold sFa
        rw [decide_eq_true c, Bool.true_and]
      rw [if_pos c, t3, show 31 + 1 = 32 from rfl, hw _ (by omega), ef]
      by_cases d : sFit V (B (5 + s) 0) k = true
      · rw [if_pos d]
        by_cases e : W (sAll V ^^^ k) ≤ 0
        · rw [if_pos e, if_neg (fun z => z.2.2 e)]; exact ih
        · rw [if_neg e, if_pos ⟨c, d, e⟩]
      · rw [if_neg d, if_neg (fun z => d z.2.1)]; exact ih
    · rw [if_neg c, if_neg (fun z => c z.1)]; exact ih
theorem wR_cg {num num' : Nat → Int64} {n : Nat} (h : ∀ c, c < n → num c = num' c) : ∀ r, r ≤ n → wR V num n r = wR V num' n r
  | 0, _ => rfl
  | r + 1, hr => by
    rw [wR, wR, wR_cg h r (by omega), h (n - 1 - r) (by omega)]
theorem s_crossed (h : Rel t I J A B) (p q w : Int32) : Sim t J B (f_X8_crossed p q w I J) (f_X9_crossed p q w A B) := by
  obtain ⟨V, Z, ⟨hx, hm, hW⟩, -⟩ := id h
  have hA := sAll_lt hW
  unfold f_X8_crossed f_X9_crossed
  rw [in_i (b := 0) (B := 0) (c := 1) (C := 1) rfl rfl, bd_s]
  rcases told_t h p q w (most := 8) (by decide) (ok := decide ((0 : Int32) ≤ w ∧ w ≤ 1)) rfl (within_s w 0 1) with ⟨s, k, m, n, hs8, hk, hm', hn, hn8, rfl, rfl, -, t1, t2, e1, a1, a2, l1, l2, hj⟩ | ⟨c, v, hc, hv, v0, t1, t2⟩
  · have q8 := qin_n hs8 (by decide)
    have c8 := clampI (show s < 2 ^ 31 by omega)
    obtain ⟨I', g1, f1, h54⟩ := x_cross (J := J) hs8 hk hm' hn hn8 hx hW e1 l1
    obtain ⟨A', g2, f2, hR⟩ := m_cross (B := B) hs8 hn8 hm hW
    have r : Rel t I' J A' B := h.fr (fun k j g => f1 k j (by omega) (by omega) (by omega)) (fun k j g => f2 k j (by omega)) FJ.rf
    have m1 : MV A' 0 V Z := hm.fr fun k j g => f2 k j (by omega)
    have hall : f_X9_waitingBits A' = some (nI (sAll V)) := by
      unfold f_X9_waitingBits
      rw [m1.2.2.1.1, m1.2.2.1.2, pow_sub hW.n, m1_nI, xor_nI, and_nI]
      rfl
    have ej : ∀ c, c < n → J (28 + 2 * s + 1) c = B (5 + s) c := fun c hc => by
      rw [show 28 + 2 * s + 1 = 29 + 2 * s by omega]; exact hj c (by omega)
    have eN : ffN V (J (28 + 2 * s + 1)) n = ffN V (B (5 + s)) n := by
      unfold ffN
      by_cases c : n = 0
      · rw [if_pos c, if_pos c]
      · rw [if_neg c, if_neg c, ej 0 (by omega), wR_cg ej (n - 1) (by omega)]
    rw [show f_X8_toldTrouble (nI s) (nI n) 8 w I = some 0 from t1, show f_X9_noTold (nI s) (nI n) 8 _ A = some (0, A) from t2, bd_s, bd2_s, if_pos rfl, if_pos rfl, gd_t q8, c8, g1, g2, bd2_s, bd_s, hall, bd_s, h54, eN, wR_cg ej n (Nat.le_refl _)]
    by_cases w0 : w = 0
    · rw [if_pos w0, if_pos w0, gd_t (qin_n hA (by decide)), clampI (by omega), hR 0 (Nat.zero_le _) _ (Nat.le_refl _), Nat.sub_zero]
      exact sim_same r _
    · rw [if_neg w0, if_neg w0]
      have ef : f_X9_crossed_54 1000 (nI s) (nI n) (nI (sAll V)) 1 A' B = some (ffN V (B (5 + s)) n, A') := by
        unfold ffN
        by_cases c : n = 0
        · rw [if_pos c, c]
          show f_X9_crossed_54 (999 + 1) (nI s) (nI 0) (nI (sAll V)) 1 A' B = _
          rw [f_X9_crossed_54, if_pos (show nI 0 ≤ 0 by decide), ite_self]
        · rw [if_neg c]
          exact m_ff hs8 hn8 m1 hW c _ (fun z hz => hR 1 (by omega) z hz) (sAll V) 1000 1 (Nat.le_refl _) (by omega) (by omega)
      rw [ef]
      exact sim_same r _
  · rw [show f_X8_toldTrouble p q 8 w I = some v from t1, show f_X9_noTold p q 8 _ A = _ from t2, bd_s, bd2_s, if_neg v0, if_neg v0, hv, x_refuse I c hc]
    exact ⟨_, _, _, rfl, rfl, h.ref hc⟩
end CS
