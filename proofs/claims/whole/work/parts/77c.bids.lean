/-! Pure: bids. -/
/-- whether there is a bid that leaves the other lost, of those below k more -/
def aW (g : Nat → Bool) (b mt : Nat) : Nat → Bool
  | 0 => false
  | k + 1 => aW g b mt k || (decide (1 ≤ k) && (decide (b + k ≤ mt) && !g (b + k)))
def stW (g : Nat → Bool) (b mt : Nat) : Nat := if b + 1 ≤ mt ∧ g (b + 1) = false then 1 else if b + 2 ≤ mt ∧ g (b + 2) = false then 2 else if b + 3 ≤ mt ∧ g (b + 3) = false then 3 else 0
theorem aW_1 {g : Nat → Bool} {b mt : Nat} : aW g b mt 1 = false := rfl
theorem aW_2 {g : Nat → Bool} {b mt : Nat} : aW g b mt 2 = (decide (b + 1 ≤ mt) && !g (b + 1)) := by simp [aW]
theorem aW_3 {g : Nat → Bool} {b mt : Nat} : aW g b mt 3 = (aW g b mt 2 || (decide (b + 2 ≤ mt) && !g (b + 2))) := rfl
theorem aW_4 {g : Nat → Bool} {b mt : Nat} : aW g b mt 4 = (aW g b mt 3 || (decide (b + 3 ≤ mt) && !g (b + 3))) := rfl
theorem st_aW {g : Nat → Bool} {b mt : Nat} : decide (0 < stW g b mt) = aW g b mt 4 := by
  rw [aW_4, aW_3, aW_2]
  unfold stW
  by_cases h1 : b + 1 ≤ mt ∧ g (b + 1) = false
  · rw [if_pos h1, h1.2, decide_eq_true h1.1]; rfl
  · rw [if_neg h1]
    have e1 : (decide (b + 1 ≤ mt) && !g (b + 1)) = false := by
      by_cases c : b + 1 ≤ mt
      · cases d : g (b + 1)
        · exact absurd ⟨c, d⟩ h1
        · rw [decide_eq_true c]; rfl
      · rw [decide_eq_false c]; rfl
    rw [e1, Bool.false_or]
    by_cases h2 : b + 2 ≤ mt ∧ g (b + 2) = false
    · rw [if_pos h2, h2.2, decide_eq_true h2.1]; rfl
    · rw [if_neg h2]
      have e2 : (decide (b + 2 ≤ mt) && !g (b + 2)) = false := by
        by_cases c : b + 2 ≤ mt
        · cases d : g (b + 2)
          · exact absurd ⟨c, d⟩ h2
          · rw [decide_eq_true c]; rfl
        · rw [decide_eq_false c]; rfl
      rw [e2, Bool.false_or]
      by_cases h3 : b + 3 ≤ mt ∧ g (b + 3) = false
      · rw [if_pos h3, h3.2, decide_eq_true h3.1]; rfl
      · rw [if_neg h3]
        by_cases c : b + 3 ≤ mt
        · cases d : g (b + 3)
          · exact absurd ⟨c, d⟩ h3
          · rw [decide_eq_true c]; rfl
        · rw [decide_eq_false c]; rfl
theorem st_if {α : Type} (X : Nat → α) {g : Nat → Bool} {b mt : Nat} : (if b + 1 ≤ mt then (if g (b + 1) = false then X 1 else (if b + 2 ≤ mt then (if g (b + 2) = false then X 2 else (if b + 3 ≤ mt then (if g (b + 3) = false then X 3 else X 0) else X 0)) else X 0)) else X 0) = X (stW g b mt) := by
  unfold stW
  by_cases c1 : b + 1 ≤ mt
  · rw [if_pos c1]
    by_cases d1 : g (b + 1) = false
    · rw [if_pos d1, if_pos (show b + 1 ≤ mt ∧ g (b + 1) = false from ⟨c1, d1⟩)]
    · rw [if_neg d1, if_neg (show ¬ (b + 1 ≤ mt ∧ g (b + 1) = false) from fun z => d1 z.2)]
      by_cases c2 : b + 2 ≤ mt
      · rw [if_pos c2]
        by_cases d2 : g (b + 2) = false
        · rw [if_pos d2, if_pos (show b + 2 ≤ mt ∧ g (b + 2) = false from ⟨c2, d2⟩)]
        · rw [if_neg d2, if_neg (show ¬ (b + 2 ≤ mt ∧ g (b + 2) = false) from fun z => d2 z.2)]
          by_cases c3 : b + 3 ≤ mt
          · rw [if_pos c3]
            by_cases d3 : g (b + 3) = false
            · rw [if_pos d3, if_pos (show b + 3 ≤ mt ∧ g (b + 3) = false from ⟨c3, d3⟩)]
            · rw [if_neg d3, if_neg (show ¬ (b + 3 ≤ mt ∧ g (b + 3) = false) from fun z => d3 z.2)]
          · rw [if_neg c3, if_neg (show ¬ (b + 3 ≤ mt ∧ g (b + 3) = false) from fun z => c3 z.1)]
      · rw [if_neg c2, if_neg (show ¬ (b + 2 ≤ mt ∧ g (b + 2) = false) from fun z => c2 z.1), if_neg (show ¬ (b + 3 ≤ mt ∧ g (b + 3) = false) from fun z => c2 (Nat.le_trans (Nat.le_succ _) z.1))]
  · rw [if_neg c1, if_neg (show ¬ (b + 1 ≤ mt ∧ g (b + 1) = false) from fun z => c1 z.1), if_neg (show ¬ (b + 2 ≤ mt ∧ g (b + 2) = false) from fun z => c1 (Nat.le_trans (Nat.le_succ _) z.1)), if_neg (show ¬ (b + 3 ≤ mt ∧ g (b + 3) = false) from fun z => c1 (Nat.le_trans (by omega) z.1))]
theorem stW_le {g : Nat → Bool} {b mt : Nat} : stW g b mt ≤ 3 := by
  unfold stW
  split
  · omega
  · split
    · omega
    · split <;> omega
theorem aW_cg {g g' : Nat → Bool} {b mt : Nat} (h : ∀ c, b < c → g c = g' c) : ∀ k, aW g b mt k = aW g' b mt k
  | 0 => rfl
  | k + 1 => by
    rw [aW, aW, aW_cg h k]
    by_cases c : 1 ≤ k
    · rw [h (b + k) (by omega)]
    · rw [decide_eq_false c]; rfl
theorem stW_cg {g g' : Nat → Bool} {b mt : Nat} (h : ∀ c, b < c → g c = g' c) : stW g b mt = stW g' b mt := by
  unfold stW
  rw [h (b + 1) (by omega), h (b + 2) (by omega), h (b + 3) (by omega)]
/-- who wins, n bids looked at from the highest down -/
def bT (m : Nat → Nat) : Nat → Nat → Nat → Bool
  | 0 => fun _ _ => false
  | n + 1 => fun w c => if c = 99 - n then aW (bT m n (1 - w)) c (m w) 4 else bT m n w c
theorem bT_n {m : Nat → Nat} {n w c : Nat} (h : c ≠ 99 - n) : bT m (n + 1) w c = bT m n w c := if_neg h
theorem bT_s {m : Nat → Nat} {n w c : Nat} (h : c = 99 - n) : bT m (n + 1) w c = aW (bT m n (1 - w)) c (m w) 4 := if_pos h
theorem nar_b (v : Bool) : vp_nar .boolean (b2i v) = b2i v := by cases v <;> rfl
def pI : Nat → Int32
  | 0 => -1
  | k + 1 => nI k
theorem pI_m (k : Nat) : nI k + (-1) = pI k := by
  cases k with
  | zero => decide
  | succ k => exact pk_m1 k
theorem sub_lt_i {a b c : Nat} (ha : a < 2 ^ 20) (hb : b < 2 ^ 20) (hc : c < 2 ^ 20) : nI a - nI b < nI c ↔ a < b + c := by
  have e := pk_sub_toInt (a := a) (b := b) (by omega) (by omega)
  have e2 := pk_sub_toInt (a := c) (b := 0) (by omega) (by omega)
  rw [pk_sub (Nat.zero_le c), Nat.sub_zero] at e2
  rw [Int32.lt_iff_toInt_lt, e, e2]
  omega
theorem le0_i {a : Nat} (ha : a < 2 ^ 31) : nI a ≤ 0 ↔ ¬ 0 < a := (nle_i (b := 0) ha (by decide)).trans (by omega)
theorem if_le0 {α : Type} {a : Nat} (ha : a < 2 ^ 31) (F : Int32 → α) : (if nI a ≤ 0 then F 0 else F 1) = F (b2i (decide (0 < a))) := by
  rw [if_d (le0_i ha)]
  by_cases c : 0 < a
  · rw [if_neg (fun z => z c), decide_eq_true c]; rfl
  · rw [if_pos c, decide_eq_false c]; rfl
section BI
variable {t : qF} {I : qI} {J : qJ} {A : qI} {B : qJ} {V : qV} {Z : qW}
theorem x_wst {b w mt : Nat} {g : Nat → Bool} (hb : b ≤ 99) (hw : w < 2) (hm : mt ≤ 99) (h53 : I 53 w = nI mt) (hg : ∀ c, b < c → c ≤ 99 → I 52 (2 * c + 1 - w) = b2i (g c)) : f_X1_winningStep (nI b) (nI w) I = some (nI (stW g b mt)) := by
  have st : ∀ f k, 1 ≤ k → k ≤ 3 → f_X1_winningStep_17 I (f + 1) (nI b) (nI w) (nI mt - nI b) (nI k) = if b + k ≤ mt then (if g (b + k) = false then some (nI k) else f_X1_winningStep_17 I f (nI b) (nI w) (nI mt - nI b) (nI (k + 1))) else some 0 := by
    intro f k h1 h3
    rw [f_X1_winningStep_17, if_neg (show ¬ (3 : Int32) < nI k from fun z => by
      have := (nlt_i (a := 3) (by decide) (show k < 2 ^ 31 by omega)).mp z
      omega), if_d (sub_lt_i (show mt < 2 ^ 20 by omega) (show b < 2 ^ 20 by omega) (show k < 2 ^ 20 by omega))]
    by_cases c : b + k ≤ mt
    · rw [if_pos c, if_neg (by omega), add_nI, show (2 : Int32) = nI 2 from rfl, pk_mul, nI_1, subI (by omega), gd_t (qin_n (show 2 * (b + k) + 1 - w < 200 by omega) (by decide)), clampI (by omega), hg (b + k) (by omega) (by omega), if_d b2i_0, nI_1]
    · rw [if_neg c, if_pos (by omega)]
  have all : ∀ f, f_X1_winningStep_17 I (f + 1 + 1 + 1 + 1) (nI b) (nI w) (nI mt - nI b) (nI 1) = some (nI (stW g b mt)) := by
    intro f
    have e4 : f_X1_winningStep_17 I (f + 1) (nI b) (nI w) (nI mt - nI b) (nI (3 + 1)) = some 0 := by
      rw [f_X1_winningStep_17, if_pos (by decide)]
    rw [st _ 1 (by decide) (by decide), st _ 2 (by decide) (by decide), st _ 3 (by decide) (by decide), e4]
    exact st_if (fun z => some (nI z))
  unfold f_X1_winningStep
  rw [gd_t (qin_n hw (by decide)), lt_e, clampI (by omega), h53, if_neg (show ¬ (99 : Int32) < nI mt from fun z => by
    have := (nlt_i (a := 99) (by decide) (show mt < 2 ^ 31 by omega)).mp z
    omega)]
  exact all 996
theorem x_bid {m : Nat → Nat} (hm : ∀ w, w < 2 → m w ≤ 99) : ∀ f n, n ≤ 100 → 100 - n < f → ∀ I1 : qI, (∀ w, w < 2 → I1 53 w = nI (m w)) → (∀ c, 100 - n ≤ c → c ≤ 99 → ∀ w, w < 2 → I1 52 (2 * c + w) = b2i (bT m n w c)) → ∃ I', f_X1_firstBid_17 f (pI (100 - n)) I1 = some (nI (stW (bT m 100 1) 0 (m 0)), I') ∧ (∀ k j, k ≠ 52 → I' k j = I1 k j) := by
  intro f
  induction f with
  | zero => intro n _ h; omega
  | succ f ih =>
    intro n hn hf I1 h53 h52
    have rd : ∀ (w : Nat), w < 2 → ∀ c, 100 - n ≤ c → c ≤ 99 → I1 52 (2 * c + 1 - w) = b2i (bT m n (1 - w) c) := fun w hw c h1 h2 => by
      rw [show 2 * c + 1 - w = 2 * c + (1 - w) by omega]
      exact h52 c h1 h2 (1 - w) (by omega)
    rw [f_X1_firstBid_17]
    by_cases q : n = 100
    · subst q
      rw [show pI (100 - 100) = -1 from rfl, if_pos (by decide), show f_X1_winningStep 0 0 I1 = _ from x_wst (b := 0) (w := 0) (g := bT m 100 1) (by decide) (by decide) (hm 0 (by decide)) (h53 0 (by decide)) (fun c _ h2 => rd 0 (by decide) c (by omega) h2)]
      exact ⟨I1, rfl, fun _ _ _ => rfl⟩
    · obtain ⟨b, hb⟩ : ∃ b, 100 - n = b + 1 := ⟨99 - n, by omega⟩
      have b9 : b = 99 - n := by omega
      rw [hb, show pI (b + 1) = nI b from rfl, if_neg (nI_pos (by omega)), show f_X1_winningStep (nI b) 0 I1 = _ from x_wst (w := 0) (g := bT m n 1) (by omega) (by decide) (hm 0 (by decide)) (h53 0 (by decide)) (fun c h1 h2 => rd 0 (by decide) c (by omega) h2), bd_s, if_le0 (by have := stW_le (g := bT m n 1) (b := b) (mt := m 0); omega) (fun x => f_X1_firstBid_42 (f_X1_firstBid_17 f) (nI b) x ((2 : Int32) * nI b) I1), st_aW]
      have e0 : aW (bT m n 1) b (m 0) 4 = bT m (n + 1) 0 b := (bT_s b9).symm
      rw [e0]
      unfold f_X1_firstBid_42
      rw [show (2 : Int32) = nI 2 from rfl, pk_mul, gd_t (qin_n (show 2 * b < 200 by omega) (by decide)), lt_e, clampI (show 2 * b < 2 ^ 31 by omega), nar_b]
      rw [show f_X1_winningStep (nI b) 1 (qu I1 52 (2 * b) (b2i (bT m (n + 1) 0 b))) = _ from x_wst (w := 1) (g := bT m n 0) (by omega) (by decide) (hm 1 (by decide)) (by rw [qu_k (by decide)]; exact h53 1 (by decide)) (fun c h1 h2 => by rw [qu_i (by omega)]; exact rd 1 (by decide) c (by omega) h2), bd_s, if_le0 (by have := stW_le (g := bT m n 0) (b := b) (mt := m 1); omega) (fun x => f_X1_firstBid_66 (f_X1_firstBid_17 f) (nI b) x (nI (2 * b) + 1) (qu I1 52 (2 * b) (b2i (bT m (n + 1) 0 b)))), st_aW]
      have e1 : aW (bT m n 0) b (m 1) 4 = bT m (n + 1) 1 b := (bT_s (w := 1) b9).symm
      rw [e1]
      unfold f_X1_firstBid_66
      rw [nI_1, gd_t (qin_n (show 2 * b + 1 < 200 by omega) (by decide)), lt_e, clampI (show 2 * b + 1 < 2 ^ 31 by omega), nar_b, pI_m]
      have eb : b = 100 - (n + 1) := by omega
      obtain ⟨I', r1, r2⟩ := ih (n + 1) (by omega) (by omega) (qu (qu I1 52 (2 * b) (b2i (bT m (n + 1) 0 b))) 52 (2 * b + 1) (b2i (bT m (n + 1) 1 b))) (fun w hw => by rw [qu_k (by decide), qu_k (by decide)]; exact h53 w hw) (fun c h1 h2 w hw => by
        by_cases e : c = b
        · subst e
          rcases (show w = 0 ∨ w = 1 by omega) with rfl | rfl
          · rw [qu_i (by omega), show 2 * c + 0 = 2 * c from rfl, qu_s]
          · rw [qu_s]
        · rw [qu_i (by omega), qu_i (by omega), bT_n (by omega)]
          exact h52 c (by omega) h2 w hw)
      rw [← eb] at r1
      exact ⟨I', r1, fun k j hk => by rw [r2 k j hk, qu_k hk, qu_k hk]⟩
/-- the reference: all bids more, for one whose turn it is -/
theorem m_bid_in (k3 : Int32 → Int32 → Int32 → qI → Option qI) (k10 : Int32 → Int32 → Int32 → Int32 → qI → Option qI) (x1 x2 : Int32) {b w mt : Nat} {g : Nat → Bool} (hb : b ≤ 99) (hw : w < 2) (hm : mt ≤ 99) :
    ∀ f k, 1 ≤ k → k ≤ 4 → 5 - k < f → ∀ A1 : qI, (∀ c, b < c → c ≤ 99 → A1 (28 + (1 - w)) c = b2i (g c)) → A1 (28 + w) b = b2i (aW g b mt k) →
      ∃ A', f_X9_findBids_46 k3 k10 f x1 x2 (nI b) (nI w) (nI mt) (nI k) A1 = k10 x1 x2 (nI b) (nI (w + 1)) A' ∧ A' (28 + w) b = b2i (aW g b mt 4) ∧ (∀ a j, ¬ (a = 28 + w ∧ j = b) → A' a j = A1 a j) := by
  intro f
  induction f with
  | zero => intro k _ _ h; omega
  | succ f ih =>
    intro k h1 h4 hf A1 hg hs
    rw [f_X9_findBids_46, if_d (show (3 : Int32) < nI k ↔ 3 < k from nlt_i (a := 3) (by decide) (by omega)), nI_1, add_nI, if_d (nlt_i (show mt < 2 ^ 31 by omega) (show b + k < 2 ^ 31 by omega))]
    by_cases c3 : 3 < k
    · have e : k = 4 := by omega
      subst e
      rw [if_pos c3]
      exact ⟨A1, rfl, hs, fun _ _ _ => rfl⟩
    · rw [if_neg c3]
      by_cases c : mt < b + k
      · rw [if_pos c]
        refine ⟨A1, rfl, ?_, fun _ _ _ => rfl⟩
        rw [hs]
        have z : ∀ j, k ≤ j → j ≤ 4 → aW g b mt j = aW g b mt k := by
          intro j hj
          induction j with
          | zero => intro _; rw [show k = 0 by omega]
          | succ j ihj =>
            intro hj4
            by_cases e : k = j + 1
            · rw [e]
            · rw [aW, ihj (by omega) (by omega), decide_eq_false (show ¬ b + j ≤ mt by omega), Bool.false_and, Bool.and_false, Bool.or_false]
        rw [z 4 h4 (Nat.le_refl _)]
      · have qw := qin_n (show w < 2 by omega) (by decide)
        have qb := qin_n (show b < 100 by omega) (by decide)
        rw [if_neg c, gd_t qw, gd_t qb, show (1 : Int32) - nI w = nI (1 - w) from subI (a := 1) (by omega), gd_t (qin_n (show 1 - w < 2 by omega) (by decide)), gd_t (qin_n (show b + k < 100 by omega) (by decide)), clampI (show 1 - w < 2 ^ 31 by omega), clampI (show b + k < 2 ^ 31 by omega), hg (b + k) (by omega) (by omega), if_d b2i_0, clampI (show w < 2 ^ 31 by omega), clampI (show b < 2 ^ 31 by omega), hs]
        have go : ∀ v : Bool, v = (!g (b + k)) → ∃ A', f_X9_findBids_93 k3 k10 (f_X9_findBids_46 k3 k10 f) x1 x2 (nI b) (nI w) (nI mt) (nI k) (b2i v) (b2i (aW g b mt k)) (nI b) (28 + w) A1 = k10 x1 x2 (nI b) (nI (w + 1)) A' ∧ A' (28 + w) b = b2i (aW g b mt 4) ∧ (∀ a j, ¬ (a = 28 + w ∧ j = b) → A' a j = A1 a j) := by
          intro v hv
          unfold f_X9_findBids_93
          rw [gd_t qb, lt_e, clampI (show b < 2 ^ 31 by omega), b2i_or, nar_b, nI_1]
          have st : aW g b mt (k + 1) = (aW g b mt k || v) := by
            rw [aW, decide_eq_true h1, decide_eq_true (show b + k ≤ mt by omega), Bool.true_and, Bool.true_and, hv]
          rw [← st]
          obtain ⟨A', r1, r2, r3⟩ := ih (k + 1) (by omega) (by omega) (by omega) (qu A1 (28 + w) b (b2i (aW g b mt (k + 1)))) (fun c d1 d2 => by rw [qu_k (by omega)]; exact hg c d1 d2) qu_s
          refine ⟨A', r1, r2, fun a j ha => ?_⟩
          rw [r3 a j ha, qu_at]
          by_cases e : a = 28 + w
          · rw [if_pos e, if_neg (fun z => ha ⟨e, z⟩), e]
          · rw [if_neg e]
        cases d : g (b + k)
        · rw [if_pos rfl]
          exact go true (by rw [d]; rfl)
        · rw [if_neg (by decide)]
          exact go false (by rw [d]; rfl)
theorem m_bid {m : Nat → Nat} {p o : Nat} (hm : ∀ w, w < 2 → m w ≤ 99) (hp : p < 8) (ho : o < 8) : ∀ f n, n ≤ 100 → 100 - n < f → ∀ A1 : qI, A1 20 p = nI (m 0) → A1 20 o = nI (m 1) → (∀ c, 100 - n ≤ c → c ≤ 99 → ∀ w, w < 2 → A1 (28 + w) c = b2i (bT m n w c)) → ∃ A', f_X9_findBids_3 f (nI p) (nI o) (pI (100 - n)) A1 = some A' ∧ (∀ c, c ≤ 99 → ∀ w, w < 2 → A' (28 + w) c = b2i (bT m 100 w c)) ∧ (∀ a j, a ≠ 28 → a ≠ 29 → A' a j = A1 a j) := by
  intro f
  induction f with
  | zero => intro n _ h; omega
  | succ f ih =>
    intro n hn hf A1 h0 h1 hT
    rw [f_X9_findBids_3]
    by_cases q : n = 100
    · subst q
      rw [show pI (100 - 100) = -1 from rfl, if_pos (by decide)]
      exact ⟨A1, rfl, fun c hc w hw => hT c (by omega) hc w hw, fun _ _ _ _ => rfl⟩
    · obtain ⟨b, hb⟩ : ∃ b, 100 - n = b + 1 := ⟨99 - n, by omega⟩
      have b9 : b = 99 - n := by omega
      have qb := qin_n (show b < 100 by omega) (by decide)
      rw [hb, show pI (b + 1) = nI b from rfl, if_neg (nI_pos (by omega))]
      -- one whose turn it is
      have turn : ∀ f' w, w < 2 → ∀ A2 : qI, A2 20 p = nI (m 0) → A2 20 o = nI (m 1) → (∀ c, b < c → c ≤ 99 → A2 (28 + (1 - w)) c = b2i (bT m n (1 - w) c)) → ∃ A', f_X9_findBids_10 (f_X9_findBids_3 f) (f' + 1) (nI p) (nI o) (nI b) (nI w) A2 = f_X9_findBids_10 (f_X9_findBids_3 f) f' (nI p) (nI o) (nI b) (nI (w + 1)) A' ∧ A' (28 + w) b = b2i (bT m (n + 1) w b) ∧ (∀ a j, ¬ (a = 28 + w ∧ j = b) → A' a j = A2 a j) := by
        intro f' w hw A2 e0 e1 hg
        have qw := qin_n (show w < 2 by omega) (by decide)
        have key : ∀ x : Nat, x < 8 → A2 20 x = nI (m w) → ∃ A', f_X9_findBids_30 (f_X9_findBids_3 f) (f_X9_findBids_10 (f_X9_findBids_3 f) f') (nI p) (nI o) (nI b) (nI w) (nI x) A2 = f_X9_findBids_10 (f_X9_findBids_3 f) f' (nI p) (nI o) (nI b) (nI (w + 1)) A' ∧ A' (28 + w) b = b2i (bT m (n + 1) w b) ∧ (∀ a j, ¬ (a = 28 + w ∧ j = b) → A' a j = A2 a j) := by
          intro x hx ex
          unfold f_X9_findBids_30
          rw [gd_t (qin_n hx (by decide)), gd_t qw, gd_t qb, lt_e, clampI (show w < 2 ^ 31 by omega), clampI (show b < 2 ^ 31 by omega), clampI (show x < 2 ^ 31 by omega), ex]
          obtain ⟨A', r1, r2, r3⟩ := m_bid_in (g := bT m n (1 - w)) (f_X9_findBids_3 f) (f_X9_findBids_10 (f_X9_findBids_3 f) f') (nI p) (nI o) (show b ≤ 99 by omega) hw (hm w hw) 1000 1 (by decide) (by decide) (by decide) (qu A2 (28 + w) b (vp_nar .boolean 0)) (fun c d1 d2 => by rw [qu_k (by omega)]; exact hg c d1 d2) (by rw [qu_s]; rfl)
          refine ⟨A', r1, by rw [r2, bT_s b9], fun a j ha => ?_⟩
          rw [r3 a j ha, qu_at]
          by_cases e : a = 28 + w
          · rw [if_pos e, if_neg (fun z => ha ⟨e, z⟩), e]
          · rw [if_neg e]
        rw [f_X9_findBids_10, if_neg (show ¬ (2 : Int32) ≤ nI w from fun z => by
          have := (nle_i (a := 2) (by decide) (show w < 2 ^ 31 by omega)).mp z
          omega)]
        rcases (show w = 0 ∨ w = 1 by omega) with rfl | rfl
        · rw [if_pos (show nI 0 = 0 from rfl)]
          exact key p hp e0
        · rw [if_neg (show ¬ nI 1 = 0 by decide)]
          exact key o ho e1
      have both : ∀ f', ∃ A', f_X9_findBids_10 (f_X9_findBids_3 f) (f' + 1 + 1 + 1) (nI p) (nI o) (nI b) (nI 0) A1 = f_X9_findBids_3 f (nI p) (nI o) (nI b + -1) A' ∧ (∀ w, w < 2 → A' (28 + w) b = b2i (bT m (n + 1) w b)) ∧ (∀ a j, ¬ ((a = 28 ∨ a = 29) ∧ j = b) → A' a j = A1 a j) := by
        intro f'
        obtain ⟨A2, r1, r2, r3⟩ := turn (f' + 1 + 1) 0 (by decide) A1 h0 h1 (fun c d1 d2 => hT c (by omega) d2 1 (by decide))
        obtain ⟨A3, s1, s2, s3⟩ := turn (f' + 1) 1 (by decide) A2 (by rw [r3 20 p (by omega)]; exact h0) (by rw [r3 20 o (by omega)]; exact h1) (fun c d1 d2 => by
          rw [r3 _ c (by omega)]
          exact hT c (by omega) d2 0 (by decide))
        refine ⟨A3, ?_, fun w hw => ?_, fun a j ha => ?_⟩
        · rw [r1, s1, f_X9_findBids_10, if_pos (by decide)]
        · rcases (show w = 0 ∨ w = 1 by omega) with rfl | rfl
          · rw [s3 _ _ (by omega)]; exact r2
          · exact s2
        · rw [s3 a j (by omega), r3 a j (by omega)]
      obtain ⟨A3, r1, r2, r3⟩ := both 997
      rw [show f_X9_findBids_10 (f_X9_findBids_3 f) 1000 (nI p) (nI o) (nI b) 0 A1 = _ from r1, pI_m]
      have eb : b = 100 - (n + 1) := by omega
      obtain ⟨A', u1, u2, u3⟩ := ih (n + 1) (by omega) (by omega) A3 (by rw [r3 20 p (by omega)]; exact h0) (by rw [r3 20 o (by omega)]; exact h1) (fun c d1 d2 w hw => by
        by_cases e : c = b
        · subst e; exact r2 w hw
        · rw [r3 _ c (by omega), bT_n (by omega)]
          exact hT c (by omega) d2 w hw)
      rw [← eb] at u1
      exact ⟨A', u1, u2, fun a j ha1 ha2 => by rw [u3 a j ha1 ha2, r3 a j (by omega)]⟩
theorem s_bids (h : Rel t I J A B) (p o r : Int32) : Sim t J B (f_X8_bids p o r I) (f_X9_bids p o r A) := by
  obtain ⟨V, Z, ⟨hx, hm, hW⟩, -⟩ := id h
  have hn := hW.n
  refine sim_two h hx hm hW p o (sim_bad h) (fun a b ha ha8 hb hb8 hab ea eb => ?_)
  subst ea
  subst eb
  refine sim_in r 0 1 (a := 0) (b := 1) rfl rfl (by decide) (by decide) rfl rfl (fun w _ hw e => ?_) (sim_bad h)
  subst e
  have hmw : ∀ w, w < 2 → (fun w => if w = 0 then V 3 a else V 3 b) w ≤ 99 := fun w hw => by
    have h1 := (hW.2.2.1 a ha8).2.2.2.1
    have h2 := (hW.2.2.1 b hb8).2.2.2.1
    show (if w = 0 then V 3 a else V 3 b) ≤ 99
    split <;> assumption
  have x3a : I (1 + 4) a = nI (V 3 a) := hx.a (i := 3) (by decide) ha8
  have x3b : I (1 + 4) b = nI (V 3 b) := hx.a (i := 3) (by decide) hb8
  have m3a : A 20 a = nI (V 3 a) := hm.a (i := 3) (by decide) ha8
  have m3b : A 20 b = nI (V 3 b) := hm.a (i := 3) (by decide) hb8
  obtain ⟨I', e1, f1⟩ := x_bid hmw 1000 0 (by decide) (by decide) (qu (qu I 53 0 (nI (V 3 a))) 53 1 (nI (V 3 b))) (fun w hw => by
    rcases (show w = 0 ∨ w = 1 by omega) with rfl | rfl
    · rw [qu_i (by decide), qu_s]; rfl
    · rw [qu_s]; rfl) (fun c h1 h2 => by omega)
  obtain ⟨A', e2, g2, f2⟩ := m_bid (p := a) (o := b) hmw ha8 hb8 1000 0 (by decide) (by decide) A m3a m3b (fun c h1 h2 => by omega)
  have rr : Rel t I' J A' B := h.fr (fun k j g => by rw [f1 k j (by omega), qu_k (by omega), qu_k (by omega)]) (fun k j g => f2 k j (by omega) (by omega)) FJ.rf
  have ef : f_X1_firstBid (nI (V 3 a)) (nI (V 3 b)) I = some (nI (stW (bT (fun w => if w = 0 then V 3 a else V 3 b) 100 1) 0 (V 3 a)), I') := e1
  have em : f_X9_findBids (nI a) (nI b) A = some A' := e2
  have hs3 := stW_le (g := bT (fun w => if w = 0 then V 3 a else V 3 b) 100 1) (b := 0) (mt := V 3 a)
  have h3a := (hW.2.2.1 a ha8).2.2.2.1
  have b00 : bT (fun w => if w = 0 then V 3 a else V 3 b) 100 0 0 = decide (0 < stW (bT (fun w => if w = 0 then V 3 a else V 3 b) 100 1) 0 (V 3 a)) := by
    rw [st_aW, aW_cg (g := bT (fun w => if w = 0 then V 3 a else V 3 b) 100 1) (g' := bT (fun w => if w = 0 then V 3 a else V 3 b) 99 1) (fun c hc => bT_n (by omega))]
    exact bT_s rfl
  rw [gd_t (qin_n ha8 (by decide)), gd_t (qin_n hb8 (by decide)), clampI (by omega), clampI (by omega), x3a, x3b, ef, em, bd2_s, bd_s]
  rcases (show w = 0 ∨ w = 1 by omega) with rfl | rfl
  · rw [if_neg (show ¬ nI 0 = 1 by decide), if_pos (show nI 0 = 0 from rfl), lt_e, show A' (28 + 0) 0 = _ from g2 0 (by decide) 0 (by decide), b00, if_d b2i_0, if_d (show (1 : Int32) < nI (stW (bT (fun w => if w = 0 then V 3 a else V 3 b) 100 1) 0 (V 3 a)) ↔ 1 < stW (bT (fun w => if w = 0 then V 3 a else V 3 b) 100 1) 0 (V 3 a) from nlt_i (a := 1) (by decide) (by omega))]
    generalize stW (bT (fun w => if w = 0 then V 3 a else V 3 b) 100 1) 0 (V 3 a) = z at hs3
    rcases (show z = 0 ∨ z = 1 ∨ z = 2 ∨ z = 3 by omega) with rfl | rfl | rfl | rfl
    · exact sim_same rr _
    · exact sim_same rr _
    · exact sim_same rr _
    · exact sim_same rr _
  · rw [if_pos (show nI 1 = 1 from rfl), if_neg (show ¬ nI 1 = 0 by decide)]
    have m3a' : A' 20 a = nI (V 3 a) := by rw [f2 20 a (by decide) (by decide)]; exact m3a
    have st : ∀ f k, 1 ≤ k → k ≤ 3 → f_X9_bids_69 (f + 1) (nI a) (nI k) A' = if 0 + k ≤ V 3 a then (if bT (fun w => if w = 0 then V 3 a else V 3 b) 100 1 (0 + k) = false then some (nI k, A') else f_X9_bids_69 f (nI a) (nI (k + 1)) A') else some (0, A') := by
      intro f k h1 h3
      rw [Nat.zero_add, f_X9_bids_69, if_neg (show ¬ (3 : Int32) < nI k from fun z => by
        have := (nlt_i (a := 3) (by decide) (show k < 2 ^ 31 by omega)).mp z
        omega), gd_t (qin_n ha8 (by decide)), clampI (show a < 2 ^ 31 by omega), m3a', if_d (nlt_i (show V 3 a < 2 ^ 31 by omega) (show k < 2 ^ 31 by omega))]
      by_cases c : k ≤ V 3 a
      · rw [if_pos c, if_neg (by omega), gd_t (qin_n (show k < 100 by omega) (by decide)), clampI (show k < 2 ^ 31 by omega), g2 k (by omega) 1 (by decide), if_d b2i_0, nI_1]
      · rw [if_neg c, if_pos (by omega)]
    have all : ∀ f, f_X9_bids_69 (f + 1 + 1 + 1 + 1) (nI a) (nI 1) A' = some (nI (stW (bT (fun w => if w = 0 then V 3 a else V 3 b) 100 1) 0 (V 3 a)), A') := by
      intro f
      have e4 : f_X9_bids_69 (f + 1) (nI a) (nI (3 + 1)) A' = some (0, A') := by
        rw [f_X9_bids_69, if_pos (by decide)]
      rw [st _ 1 (by decide) (by decide), st _ 2 (by decide) (by decide), st _ 3 (by decide) (by decide), e4]
      exact st_if (fun z => some (nI z, A'))
    rw [show f_X9_bids_69 1000 (nI a) 1 A' = _ from all 996]
    exact sim_same rr _
end BI
