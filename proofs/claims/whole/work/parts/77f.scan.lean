/-! Pure: how both read the tape's tokens. -/
theorem qu_o {I : qI} {k i a j : Nat} {v : Int32} (h : ¬ (a = k ∧ j = i)) : qu I k i v a j = I a j := by
  rw [qu_at]
  by_cases e : a = k
  · rw [if_pos e, if_neg (fun z => h ⟨e, z⟩), e]
  · rw [if_neg e]
def tk1 (c : Nat) : Nat := if 97 ≤ c ∧ c ≤ 122 then 1 else if 48 ≤ c ∧ c ≤ 57 then 2 else if c = 59 then 3 else 4
def tkn (t : Nat → Nat) (L p : Nat) : Nat := if p < L then tk1 (t p) else 0
def spF (t : Nat → Nat) : Nat → Nat → Nat
  | 0, e => e
  | n + 1, e => if t e = 32 then spF t n (e + 1) else e
def rnF (t : Nat → Nat) (k : Nat) : Nat → Nat → Nat
  | 0, q => q
  | n + 1, q => if tk1 (t q) = k then rnF t k n (q + 1) else q
def sp (t : Nat → Nat) (L e : Nat) : Nat := spF t (L - e) e
def sk (t : Nat → Nat) (L e : Nat) : Nat := tkn t L (sp t L e)
def sq (t : Nat → Nat) (L e : Nat) : Nat := if sk t L e = 3 then sp t L e + 1 else if sk t L e = 1 ∨ sk t L e = 2 then rnF t (sk t L e) (L - sp t L e) (sp t L e) else sp t L e
def fg (t : Nat → Nat) (p : Nat) : Nat → Nat
  | 0 => 0
  | d + 1 => if d < 2 then fg t p d * 10 + (t (p + d) - 48) else 1000
def sg (t : Nat → Nat) (L e : Nat) : Nat := if sk t L e = 2 then fg t (sp t L e) (sq t L e - sp t L e) else 0
theorem tk1_lt (c : Nat) : 1 ≤ tk1 c ∧ tk1 c ≤ 4 := by
  unfold tk1
  split
  · omega
  · split
    · omega
    · split <;> omega
theorem tk1_1 {c : Nat} : tk1 c = 1 ↔ 97 ≤ c ∧ c ≤ 122 := by
  unfold tk1
  split
  · omega
  · split
    · omega
    · split <;> omega
theorem tk1_2 {c : Nat} : tk1 c = 2 ↔ 48 ≤ c ∧ c ≤ 57 := by
  unfold tk1
  split
  · omega
  · split
    · omega
    · split <;> omega
theorem tk1_3 {c : Nat} : tk1 c = 3 ↔ c = 59 := by
  unfold tk1
  split
  · omega
  · split
    · omega
    · split <;> omega
theorem tkn_le (t : Nat → Nat) (L p : Nat) : tkn t L p ≤ 4 := by
  unfold tkn
  have := tk1_lt (t p)
  split <;> omega
theorem spF_b (t : Nat → Nat) : ∀ n e, e ≤ spF t n e ∧ spF t n e ≤ e + n
  | 0, e => ⟨Nat.le_refl _, Nat.le_refl _⟩
  | n + 1, e => by
    rw [spF]
    have := spF_b t n (e + 1)
    split <;> omega
theorem rnF_b (t : Nat → Nat) (k : Nat) : ∀ n q, q ≤ rnF t k n q ∧ rnF t k n q ≤ q + n
  | 0, q => ⟨Nat.le_refl _, Nat.le_refl _⟩
  | n + 1, q => by
    rw [rnF]
    have := rnF_b t k n (q + 1)
    split <;> omega
theorem rnF_dig (t : Nat → Nat) (k : Nat) : ∀ n q i, q ≤ i → i < rnF t k n q → tk1 (t i) = k
  | 0, q, i, h1, h2 => by rw [rnF] at h2; omega
  | n + 1, q, i, h1, h2 => by
    rw [rnF] at h2
    by_cases c : tk1 (t q) = k
    · rw [if_pos c] at h2
      by_cases e : i = q
      · subst e; exact c
      · exact rnF_dig t k n (q + 1) i (by omega) h2
    · rw [if_neg c] at h2; omega
theorem sp_b (t : Nat → Nat) {L e : Nat} (h : e ≤ L) : e ≤ sp t L e ∧ sp t L e ≤ L := by
  have := spF_b t (L - e) e
  unfold sp
  omega
theorem sk_0 (t : Nat → Nat) {L e : Nat} (h : e ≤ L) (h0 : sk t L e ≠ 0) : sp t L e < L := by
  apply Classical.byContradiction
  intro no
  apply h0
  unfold sk tkn
  rw [if_neg no]
theorem sk_le (t : Nat → Nat) (L e : Nat) : sk t L e ≤ 4 := tkn_le t L _
theorem sq_b (t : Nat → Nat) {L e : Nat} (h : e ≤ L) : sp t L e ≤ sq t L e ∧ sq t L e ≤ L := by
  have a := sp_b t h
  unfold sq
  by_cases c : sk t L e = 3
  · have := sk_0 t h (by omega)
    rw [if_pos c]; omega
  · rw [if_neg c]
    split
    · have := rnF_b t (sk t L e) (L - sp t L e) (sp t L e)
      omega
    · omega
theorem rnF_1 {t : Nat → Nat} {k n q : Nat} (hn : 0 < n) (h : tk1 (t q) = k) : q + 1 ≤ rnF t k n q := by
  obtain ⟨n, rfl⟩ : ∃ m, n = m + 1 := ⟨n - 1, by omega⟩
  rw [rnF, if_pos h]
  exact (rnF_b t k n (q + 1)).1
theorem sq_1 (t : Nat → Nat) {L e : Nat} (h : e ≤ L) (hk : sk t L e = 1 ∨ sk t L e = 2 ∨ sk t L e = 3) : sp t L e + 1 ≤ sq t L e := by
  have a := sk_0 t h (by omega)
  unfold sq
  by_cases c : sk t L e = 3
  · rw [if_pos c]; omega
  · rw [if_neg c, if_pos (by omega)]
    refine rnF_1 (by omega) ?_
    unfold sk tkn
    rw [if_pos a]
theorem fg_le {t : Nat → Nat} {p : Nat} (h : ∀ i, tk1 (t (p + i)) = 2 ∨ 2 ≤ i) : ∀ d, d ≤ 2 → fg t p d ≤ 99
  | 0, _ => Nat.zero_le _
  | 1, _ => by
    have := (h 0).resolve_right (by omega)
    rw [tk1_2] at this
    rw [fg, fg, if_pos (by decide)]
    omega
  | 2, _ => by
    have h0 := (h 0).resolve_right (by omega)
    have h1 := (h 1).resolve_right (by omega)
    rw [tk1_2] at h0 h1
    rw [fg, fg, fg, if_pos (by decide), if_pos (by decide)]
    omega
theorem fg_lt (t : Nat → Nat) (p : Nat) (ht : ∀ i, t i < 256) : ∀ d, fg t p d ≤ 10000
  | 0 => Nat.zero_le _
  | 1 => by
    have := ht (p + 0)
    rw [fg, fg, if_pos (by decide)]; omega
  | 2 => by
    have := ht (p + 0)
    have := ht (p + 1)
    rw [fg, fg, fg, if_pos (by decide), if_pos (by decide)]; omega
  | d + 3 => by rw [fg, if_neg (by omega)]; decide
section SC
variable {t : Nat → Nat} {L : Nat}
theorem c_rng {c a b : Nat} (hc : c < 256) (ha : a < 256) (hb : b < 256) : decide (nI a ≤ nI c ∧ nI c ≤ nI b) = decide (a ≤ c ∧ c ≤ b) := decide_eq_decide.mpr (and_congr (nle_i (by omega) (by omega)) (nle_i (by omega) (by omega)))
theorem x_tok {I : qI} (hL : L ≤ 250) (ht : ∀ j, t j < 256) (h26 : ∀ j, j < 250 → I 26 j = nI (t j)) (h1 : I 25 1 = nI L) {p : Nat} (hp : p ≤ 250) : f_X7_tokenAt (nI p) I = some (nI (tkn t L p)) := by
  unfold f_X7_tokenAt
  rw [within_s, h1, bd_b, if_b]
  unfold tkn
  by_cases c : p < L
  · have q := qin_n (show p < 250 by omega) (by decide)
    have tp := ht p
    rw [decide_eq_true (show (0 : Int32) ≤ nI p ∧ nI p ≤ nI L - 1 from ⟨nI_pos' (by omega), by rw [sub1_nI (by omega), nle_i (by omega) (by omega)]; omega⟩), if_pos rfl, if_pos c, gd_t q, gd_t q, gd_t q, clampI (by omega), h26 p (by omega), within_s, within_s, bd_b, if_b, bd_b, if_b, show (97 : Int32) = nI 97 from rfl, show (122 : Int32) = nI 122 from rfl, show (48 : Int32) = nI 48 from rfl, show (57 : Int32) = nI 57 from rfl, c_rng tp (by decide) (by decide), c_rng tp (by decide) (by decide), if_d (show nI (t p) = (59 : Int32) ↔ t p = 59 from nI_inj (b := 59) (by omega) (by decide))]
    unfold tk1
    by_cases c1 : 97 ≤ t p ∧ t p ≤ 122
    · rw [decide_eq_true c1, if_pos rfl, if_pos c1]; rfl
    · rw [decide_eq_false c1, if_neg (by decide), if_neg c1]
      by_cases c2 : 48 ≤ t p ∧ t p ≤ 57
      · rw [decide_eq_true c2, if_pos rfl, if_pos c2]; rfl
      · rw [decide_eq_false c2, if_neg (by decide), if_neg c2]
        by_cases c3 : t p = 59
        · rw [if_pos c3, if_pos c3]; rfl
        · rw [if_neg c3, if_neg c3]; rfl
  · rw [decide_eq_false (show ¬ ((0 : Int32) ≤ nI p ∧ nI p ≤ nI L - 1) from fun z => by
      obtain ⟨k, hk, e⟩ := sub1_m (n := L) (by omega) z
      have := (nI_inj (show p < 2 ^ 31 by omega) (show k < 2 ^ 31 by omega)).mp e
      omega), if_neg (by decide), if_neg c]
    rfl
theorem x_skip (hL : L ≤ 250) (ht : ∀ j, t j < 256) : ∀ n f e, e + n = L → n < f → ∀ I1 : qI, (∀ j, j < 250 → I1 26 j = nI (t j)) → I1 25 1 = nI L → I1 25 2 = nI e → ∃ I', f_X7_step_8 f I1 = f_X7_step_46 I' ∧ I' 25 2 = nI (spF t n e) ∧ (∀ a j, ¬ (a = 25 ∧ j = 2) → I' a j = I1 a j) := by
  intro n
  induction n with
  | zero =>
    intro f e he hf I1 h26 h1 h2
    obtain ⟨f, rfl⟩ : ∃ g, f = g + 1 := ⟨f - 1, by omega⟩
    rw [f_X7_step_8, h1, h2, if_pos ((nle_i (by omega) (by omega)).mpr (by omega))]
    exact ⟨I1, rfl, h2, fun _ _ _ => rfl⟩
  | succ n ih =>
    intro f e he hf I1 h26 h1 h2
    obtain ⟨f, rfl⟩ : ∃ g, f = g + 1 := ⟨f - 1, by omega⟩
    have te := ht e
    rw [f_X7_step_8, h1, h2, if_neg (fun z => by
      have := (nle_i (show L < 2 ^ 31 by omega) (show e < 2 ^ 31 by omega)).mp z
      omega), gd_t (qin_n (show e < 250 by omega) (by decide)), clampI (by omega), h26 e (by omega), if_d (show nI (t e) = (32 : Int32) ↔ t e = 32 from nI_inj (b := 32) (by omega) (by decide)), spF]
    by_cases c : t e = 32
    · rw [if_pos c, if_pos c, lt_e, nI_1]
      obtain ⟨I', r1, r2, r3⟩ := ih f (e + 1) (by omega) (by omega) (qu I1 25 2 (nI (e + 1))) (fun j hj => by rw [qu_k (by decide)]; exact h26 j hj) (by rw [qu_i (by decide)]; exact h1) qu_s
      refine ⟨I', r1, r2, fun a j h => ?_⟩
      rw [r3 a j h, qu_at]
      by_cases e : a = 25
      · rw [if_pos e, if_neg (fun z => h ⟨e, z⟩), e]
      · rw [if_neg e]
    · rw [if_neg c, if_neg c]
      exact ⟨I1, rfl, h2, fun _ _ _ => rfl⟩
theorem x_run (hL : L ≤ 250) (ht : ∀ j, t j < 256) {k : Nat} (hk : k = 1 ∨ k = 2) : ∀ n f q, q + n = L → n < f → ∀ I1 : qI, (∀ j, j < 250 → I1 26 j = nI (t j)) → I1 25 1 = nI L → I1 25 3 = nI q → I1 25 4 = nI k → ∃ I', f_X7_step_84 f I1 = some I' ∧ I' 25 3 = nI (rnF t k n q) ∧ (∀ a j, ¬ (a = 25 ∧ j = 3) → I' a j = I1 a j) := by
  intro n
  have e84 : ∀ f (I1 : qI), I1 25 4 = nI k → f_X7_step_84 (f + 1) I1 = f_X7_step_100 (f_X7_step_84 f) I1 := fun f I1 h4 => by
    rw [f_X7_step_84, h4]
    rcases hk with rfl | rfl
    · rw [if_pos (by decide)]
    · rw [if_neg (by decide), if_pos (by decide)]
  induction n with
  | zero =>
    intro f q he hf I1 h26 h1 h3 h4
    obtain ⟨f, rfl⟩ : ∃ g, f = g + 1 := ⟨f - 1, by omega⟩
    rw [e84 f I1 h4]
    unfold f_X7_step_100
    rw [h1, h3, if_pos ((nle_i (by omega) (by omega)).mpr (by omega))]
    exact ⟨I1, rfl, h3, fun _ _ _ => rfl⟩
  | succ n ih =>
    intro f q he hf I1 h26 h1 h3 h4
    obtain ⟨f, rfl⟩ : ∃ g, f = g + 1 := ⟨f - 1, by omega⟩
    have tl := tk1_lt (t q)
    rw [e84 f I1 h4]
    unfold f_X7_step_100
    rw [h1, h3, if_neg (fun z => by
      have := (nle_i (show L < 2 ^ 31 by omega) (show q < 2 ^ 31 by omega)).mp z
      omega), x_tok hL ht h26 h1 (by omega), bd_s, h4]
    unfold tkn
    rw [if_pos (show q < L by omega), if_d (nI_inj (show tk1 (t q) < 2 ^ 31 by omega) (show k < 2 ^ 31 by omega)), rnF]
    by_cases c : tk1 (t q) = k
    · rw [if_pos c, if_pos c, lt_e, nI_1]
      obtain ⟨I', r1, r2, r3⟩ := ih f (q + 1) (by omega) (by omega) (qu I1 25 3 (nI (q + 1))) (fun j hj => by rw [qu_k (by decide)]; exact h26 j hj) (by rw [qu_i (by decide)]; exact h1) qu_s (by rw [qu_i (by decide)]; exact h4)
      refine ⟨I', r1, r2, fun a j h => ?_⟩
      rw [r3 a j h, qu_at]
      by_cases e : a = 25
      · rw [if_pos e, if_neg (fun z => h ⟨e, z⟩), e]
      · rw [if_neg e]
    · rw [if_neg c, if_neg c]
      exact ⟨I1, rfl, h3, fun _ _ _ => rfl⟩
/-- one token more, the class -/
theorem x_step {I : qI} (hL : L ≤ 250) (ht : ∀ j, t j < 256) (h26 : ∀ j, j < 250 → I 26 j = nI (t j)) (h1 : I 25 1 = nI L) {e : Nat} (he : e ≤ L) (h3 : I 25 3 = nI e) : ∃ I', f_X7_step I = some I' ∧ I' 25 2 = nI (sp t L e) ∧ I' 25 3 = nI (sq t L e) ∧ I' 25 4 = nI (sk t L e) ∧ (∀ a j, ¬ (a = 25 ∧ 2 ≤ j ∧ j ≤ 4) → I' a j = I a j) := by
  obtain ⟨I2, r1, r2, r3⟩ := x_skip hL ht (L - e) 1000 e (by omega) (by omega) (qu I 25 2 (nI e)) (fun j hj => by rw [qu_k (by decide)]; exact h26 j hj) (by rw [qu_i (by decide)]; exact h1) qu_s
  have r2 : I2 25 2 = nI (sp t L e) := r2
  have pb := sp_b t he
  have f2 : ∀ a j, ¬ (a = 25 ∧ j = 2) → I2 a j = I a j := fun a j h => by
    rw [r3 a j h, qu_at]
    by_cases e : a = 25
    · rw [if_pos e, if_neg (fun z => h ⟨e, z⟩), e]
    · rw [if_neg e]
  have g26 : ∀ j, j < 250 → I2 26 j = nI (t j) := fun j hj => by rw [f2 _ _ (by omega)]; exact h26 j hj
  have g1 : I2 25 1 = nI L := by rw [f2 _ _ (by omega)]; exact h1
  have ek : tkn t L (sp t L e) = sk t L e := rfl
  have kl := sk_le t L e
  unfold f_X7_step
  rw [lt_e, h3, r1]
  unfold f_X7_step_46
  rw [lt_e, qu_i (by decide), r2, x_tok (t := t) (L := L) (I := qu I2 25 3 (nI (sp t L e))) hL ht (fun j hj => by rw [qu_k (by decide)]; exact g26 j hj) (by rw [qu_i (by decide)]; exact g1) (by omega), bd_s, lt_e, qu_s, ek, if_d (show nI (sk t L e) = (3 : Int32) ↔ sk t L e = 3 from nI_inj (b := 3) (by omega) (by decide)), qu_i (by decide), qu_s, nI_1]
  -- the frame of what is put
  have fr : ∀ x y z : Int32, ∀ a j, ¬ (a = 25 ∧ 2 ≤ j ∧ j ≤ 4) → qu (qu (qu I2 25 3 x) 25 4 y) 25 3 z a j = I a j ∧ qu (qu I2 25 3 x) 25 4 y a j = I a j := fun x y z a j h => by
    exact ⟨by rw [qu_o (by omega), qu_o (by omega), qu_o (by omega)]; exact f2 a j (by omega), by rw [qu_o (by omega), qu_o (by omega)]; exact f2 a j (by omega)⟩
  have stop : ∀ (f : Nat) (X : qI), X 25 4 = nI (sk t L e) → ¬ (sk t L e = 1 ∨ sk t L e = 2) → f_X7_step_84 (f + 1) X = some X := fun f X h4 c => by
    rw [f_X7_step_84, h4, if_neg (show ¬ nI (sk t L e) = (1 : Int32) from fun z => c (Or.inl ((nI_inj (b := 1) (by omega) (by decide)).mp z))), if_neg (show ¬ nI (sk t L e) = (2 : Int32) from fun z => c (Or.inr ((nI_inj (b := 2) (by omega) (by decide)).mp z)))]
  by_cases c3 : sk t L e = 3
  · rw [if_pos c3, lt_e]
    refine ⟨_, stop 999 _ (by rw [qu_i (by decide), qu_s]) (by omega), ?_, ?_, ?_, fun a j h => ?_⟩
    · rw [qu_i (by decide), qu_i (by decide), qu_i (by decide)]; exact r2
    · rw [qu_s]
      unfold sq
      rw [if_pos c3]
    · rw [qu_i (by decide), qu_s]
    · exact (fr (nI (sp t L e)) (nI (sk t L e)) (nI (sp t L e + 1)) a j h).1
  · rw [if_neg c3]
    by_cases c : sk t L e = 1 ∨ sk t L e = 2
    · obtain ⟨I', u1, u2, u3⟩ := x_run hL ht c (L - sp t L e) 1000 (sp t L e) (by omega) (by omega) (qu (qu I2 25 3 (nI (sp t L e))) 25 4 (nI (sk t L e))) (fun j hj => by rw [qu_k (by decide), qu_k (by decide)]; exact g26 j hj) (by rw [qu_i (by decide), qu_i (by decide)]; exact g1) (by rw [qu_i (by decide), qu_s]) qu_s
      refine ⟨I', u1, ?_, ?_, ?_, fun a j h => ?_⟩
      · rw [u3 _ _ (by omega), qu_i (by decide), qu_i (by decide)]; exact r2
      · rw [u2]
        unfold sq
        rw [if_neg c3, if_pos c]
      · rw [u3 _ _ (by omega), qu_s]
      · rw [u3 a j (by omega)]; exact (fr (nI (sp t L e)) (nI (sk t L e)) 0 a j h).2
    · refine ⟨_, stop 999 _ qu_s c, ?_, ?_, ?_, fun a j h => ?_⟩
      · rw [qu_i (by decide), qu_i (by decide)]; exact r2
      · rw [qu_i (by decide), qu_s]
        unfold sq
        rw [if_neg c3, if_neg c]
      · rw [qu_s]
      · exact (fr (nI (sp t L e)) (nI (sk t L e)) 0 a j h).2
end SC
