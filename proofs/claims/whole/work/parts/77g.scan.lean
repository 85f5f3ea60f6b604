/-! Pure: how both read the tape's tokens (2): the reference. -/
section SD
variable {t : Nat → Nat} {L : Nat}
theorem f_let {c : Nat} (hc : c < 256) : f_X9_isLetter (nI c) = some (b2i (decide (tk1 c = 1))) := by
  unfold f_X9_isLetter
  rw [if_d (show nI c < (97 : Int32) ↔ c < 97 from nlt_i (b := 97) (by omega) (by decide)), if_d (show (122 : Int32) < nI c ↔ 122 < c from nlt_i (a := 122) (by decide) (by omega))]
  by_cases h1 : c < 97
  · rw [if_pos h1, decide_eq_false (fun z => by rw [tk1_1] at z; omega)]; rfl
  · rw [if_neg h1]
    by_cases h2 : 122 < c
    · rw [if_pos h2, decide_eq_false (fun z => by rw [tk1_1] at z; omega)]; rfl
    · rw [if_neg h2, decide_eq_true (by rw [tk1_1]; omega)]; rfl
theorem f_dig {c : Nat} (hc : c < 256) : f_X9_isDigit (nI c) = some (b2i (decide (tk1 c = 2))) := by
  unfold f_X9_isDigit
  rw [if_d (show nI c < (48 : Int32) ↔ c < 48 from nlt_i (b := 48) (by omega) (by decide)), if_d (show (57 : Int32) < nI c ↔ 57 < c from nlt_i (a := 57) (by decide) (by omega))]
  by_cases h1 : c < 48
  · rw [if_pos h1, decide_eq_false (fun z => by rw [tk1_2] at z; omega)]; rfl
  · rw [if_neg h1]
    by_cases h2 : 57 < c
    · rw [if_pos h2, decide_eq_false (fun z => by rw [tk1_2] at z; omega)]; rfl
    · rw [if_neg h2, decide_eq_true (by rw [tk1_2]; omega)]; rfl
theorem m_skip (hL : L ≤ 250) (ht : ∀ j, t j < 256) : ∀ n f e, e + n = L → n < f → ∀ A1 : qI, (∀ j, j < 250 → A1 15 j = nI (t j)) → A1 0 7 = nI L → A1 0 28 = nI e → ∃ A', f_X9_look_0 f A1 = f_X9_look_38 A' ∧ A' 0 28 = nI (spF t n e) ∧ (∀ a j, ¬ (a = 0 ∧ j = 28) → A' a j = A1 a j) := by
  intro n
  induction n with
  | zero =>
    intro f e he hf A1 h15 h7 h28
    obtain ⟨f, rfl⟩ : ∃ g, f = g + 1 := ⟨f - 1, by omega⟩
    rw [f_X9_look_0, h7, h28, if_pos ((nle_i (by omega) (by omega)).mpr (by omega))]
    exact ⟨A1, rfl, h28, fun _ _ _ => rfl⟩
  | succ n ih =>
    intro f e he hf A1 h15 h7 h28
    obtain ⟨f, rfl⟩ : ∃ g, f = g + 1 := ⟨f - 1, by omega⟩
    have te := ht e
    rw [f_X9_look_0, h7, h28, if_neg (fun z => by
      have := (nle_i (show L < 2 ^ 31 by omega) (show e < 2 ^ 31 by omega)).mp z
      omega), gd_t (qin_n (show e < 250 by omega) (by decide)), clampI (by omega), h15 e (by omega), if_d (show nI (t e) = (32 : Int32) ↔ t e = 32 from nI_inj (b := 32) (by omega) (by decide)), spF]
    by_cases c : t e = 32
    · rw [if_pos c, if_pos c, lt_e, nI_1]
      obtain ⟨A', r1, r2, r3⟩ := ih f (e + 1) (by omega) (by omega) (qu A1 0 28 (nI (e + 1))) (fun j hj => by rw [qu_k (by decide)]; exact h15 j hj) (by rw [qu_i (by decide)]; exact h7) qu_s
      refine ⟨A', r1, r2, fun a j h => ?_⟩
      rw [r3 a j h, qu_at]
      by_cases e : a = 0
      · rw [if_pos e, if_neg (fun z => h ⟨e, z⟩), e]
      · rw [if_neg e]
    · rw [if_neg c, if_neg c]
      exact ⟨A1, rfl, h28, fun _ _ _ => rfl⟩
theorem m_lets (hL : L ≤ 250) (ht : ∀ j, t j < 256) : ∀ n f q, q + n = L → n < f → ∀ A1 : qI, (∀ j, j < 250 → A1 15 j = nI (t j)) → A1 0 7 = nI L → A1 0 28 = nI q → ∃ A', f_X9_look_90 f A1 = some A' ∧ A' 0 28 = nI (rnF t 1 n q) ∧ (∀ a j, ¬ (a = 0 ∧ j = 28) → A' a j = A1 a j) := by
  intro n
  induction n with
  | zero =>
    intro f q he hf A1 h15 h7 h28
    obtain ⟨f, rfl⟩ : ∃ g, f = g + 1 := ⟨f - 1, by omega⟩
    rw [f_X9_look_90, h7, h28, if_pos ((nle_i (by omega) (by omega)).mpr (by omega))]
    exact ⟨A1, rfl, h28, fun _ _ _ => rfl⟩
  | succ n ih =>
    intro f q he hf A1 h15 h7 h28
    obtain ⟨f, rfl⟩ : ∃ g, f = g + 1 := ⟨f - 1, by omega⟩
    rw [f_X9_look_90, h7, h28, if_neg (fun z => by
      have := (nle_i (show L < 2 ^ 31 by omega) (show q < 2 ^ 31 by omega)).mp z
      omega), gd_t (qin_n (show q < 250 by omega) (by decide)), clampI (by omega), h15 q (by omega), f_let (ht q), bd_b, if_b, rnF]
    by_cases c : tk1 (t q) = 1
    · rw [decide_eq_true c, if_pos rfl, if_pos c, lt_e, nI_1]
      obtain ⟨A', r1, r2, r3⟩ := ih f (q + 1) (by omega) (by omega) (qu A1 0 28 (nI (q + 1))) (fun j hj => by rw [qu_k (by decide)]; exact h15 j hj) (by rw [qu_i (by decide)]; exact h7) qu_s
      refine ⟨A', r1, r2, fun a j h => ?_⟩
      rw [r3 a j h, qu_at]
      by_cases e : a = 0
      · rw [if_pos e, if_neg (fun z => h ⟨e, z⟩), e]
      · rw [if_neg e]
    · rw [decide_eq_false c, if_neg (by decide), if_neg c]
      exact ⟨A1, rfl, h28, fun _ _ _ => rfl⟩
theorem m_digs (hL : L ≤ 250) (ht : ∀ j, t j < 256) {p : Nat} : ∀ n f q, q + n = L → n < f → p ≤ q → ∀ A1 : qI, (∀ j, j < 250 → A1 15 j = nI (t j)) → A1 0 7 = nI L → A1 0 28 = nI q → A1 0 30 = nI p → A1 0 31 = nI (fg t p (q - p)) → ∃ A', f_X9_look_149 f A1 = some A' ∧ A' 0 28 = nI (rnF t 2 n q) ∧ A' 0 31 = nI (fg t p (rnF t 2 n q - p)) ∧ (∀ a j, ¬ (a = 0 ∧ (j = 28 ∨ j = 31)) → A' a j = A1 a j) := by
  intro n
  induction n with
  | zero =>
    intro f q he hf hp A1 h15 h7 h28 h30 h31
    obtain ⟨f, rfl⟩ : ∃ g, f = g + 1 := ⟨f - 1, by omega⟩
    rw [f_X9_look_149, h7, h28, if_pos ((nle_i (by omega) (by omega)).mpr (by omega))]
    exact ⟨A1, rfl, h28, h31, fun _ _ _ => rfl⟩
  | succ n ih =>
    intro f q he hf hp A1 h15 h7 h28 h30 h31
    obtain ⟨f, rfl⟩ : ∃ g, f = g + 1 := ⟨f - 1, by omega⟩
    have fl := fg_lt t p ht (q - p)
    have tq := ht q
    have gq := qin_n (show q < 250 by omega) (by decide)
    rw [f_X9_look_149, h7, h28, if_neg (fun z => by
      have := (nle_i (show L < 2 ^ 31 by omega) (show q < 2 ^ 31 by omega)).mp z
      omega), gd_t gq, gd_t gq, clampI (by omega), h15 q (by omega), f_dig tq, bd_b, if_b, rnF]
    by_cases c : tk1 (t q) = 2
    · have c48 := tk1_2.mp c
      rw [decide_eq_true c, if_pos rfl, if_pos c, h30, h31, subI hp, if_d (show (2 : Int32) ≤ nI (q - p) ↔ 2 ≤ q - p from nle_i (a := 2) (by decide) (by omega))]
      have go : ∀ x : Int32, x = nI (fg t p (q + 1 - p)) → ∃ A', f_X9_look_215 (f_X9_look_149 f) x A1 = some A' ∧ A' 0 28 = nI (rnF t 2 n (q + 1)) ∧ A' 0 31 = nI (fg t p (rnF t 2 n (q + 1) - p)) ∧ (∀ a j, ¬ (a = 0 ∧ (j = 28 ∨ j = 31)) → A' a j = A1 a j) := by
        intro x hx
        subst hx
        unfold f_X9_look_215
        rw [lt_e, qu_i (show (28 : Nat) ≠ 31 by decide), h28, nI_1, lt_e]
        obtain ⟨A', r1, r2, r3, r4⟩ := ih f (q + 1) (by omega) (by omega) (by omega) (qu (qu A1 0 31 (nI (fg t p (q + 1 - p)))) 0 28 (nI (q + 1))) (fun j hj => by rw [qu_k (by decide), qu_k (by decide)]; exact h15 j hj) (by rw [qu_i (by decide), qu_i (by decide)]; exact h7) qu_s (by rw [qu_i (by decide), qu_i (by decide)]; exact h30) (by rw [qu_i (by decide), qu_s])
        refine ⟨A', r1, r2, r3, fun a j h => ?_⟩
        rw [r4 a j h, qu_o (by omega), qu_o (by omega)]
      have ed : q + 1 - p = (q - p) + 1 := by omega
      by_cases d : 2 ≤ q - p
      · rw [if_pos d]
        exact go 1000 (by rw [ed, fg, if_neg (by omega)]; rfl)
      · rw [if_neg d]
        refine go _ ?_
        rw [ed, fg, if_pos (by omega), show p + (q - p) = q by omega, show (10 : Int32) = nI 10 from rfl, show (48 : Int32) = nI 48 from rfl, pk_mul, add_nI, subI (by omega)]
        congr 1
        omega
    · rw [decide_eq_false c, if_neg (by decide), if_neg c]
      exact ⟨A1, rfl, h28, h31, fun _ _ _ => rfl⟩
/-- what the reference has looked at -/
def TM (t : Nat → Nat) (L e : Nat) (A : qI) : Prop := A 0 30 = nI (sp t L e) ∧ (sk t L e = 4 ∨ A 0 28 = nI (sq t L e)) ∧ A 0 29 = nI (sk t L e) ∧ A 0 31 = nI (sg t L e)
theorem m_look {A : qI} (hL : L ≤ 250) (ht : ∀ j, t j < 256) (h15 : ∀ j, j < 250 → A 15 j = nI (t j)) (h7 : A 0 7 = nI L) {e : Nat} (he : e ≤ L) (h28 : A 0 28 = nI e) : ∃ A', f_X9_look A = some A' ∧ TM t L e A' ∧ (∀ a j, ¬ (a = 0 ∧ 28 ≤ j ∧ j ≤ 31) → A' a j = A a j) := by
  obtain ⟨A2, r1, r2, r3⟩ := m_skip hL ht (L - e) 1000 e (by omega) (by omega) A h15 h7 h28
  have r2 : A2 0 28 = nI (sp t L e) := r2
  have pb := sp_b t he
  have g15 : ∀ j, j < 250 → A2 15 j = nI (t j) := fun j hj => by rw [r3 _ _ (by omega)]; exact h15 j hj
  have g7 : A2 0 7 = nI L := by rw [r3 _ _ (by omega)]; exact h7
  unfold f_X9_look
  rw [r1]
  unfold f_X9_look_38
  rw [lt_e, lt_e, qu_i (show (28 : Nat) ≠ 31 by decide), qu_i (show (28 : Nat) ≠ 30 by decide), r2, qu_i (show (7 : Nat) ≠ 31 by decide), qu_i (show (7 : Nat) ≠ 30 by decide), g7, if_d (nI_inj (show sp t L e < 2 ^ 31 by omega) (show L < 2 ^ 31 by omega))]
  -- what holds behind the two
  have b28 : qu (qu A2 0 30 (nI (sp t L e))) 0 31 0 0 28 = nI (sp t L e) := by rw [qu_i (by decide), qu_i (by decide)]; exact r2
  have b30 : qu (qu A2 0 30 (nI (sp t L e))) 0 31 0 0 30 = nI (sp t L e) := by rw [qu_i (by decide), qu_s]
  have b31 : qu (qu A2 0 30 (nI (sp t L e))) 0 31 0 0 31 = 0 := qu_s
  have b7 : qu (qu A2 0 30 (nI (sp t L e))) 0 31 0 0 7 = nI L := by rw [qu_i (by decide), qu_i (by decide)]; exact g7
  have b15 : ∀ j, j < 250 → qu (qu A2 0 30 (nI (sp t L e))) 0 31 0 15 j = nI (t j) := fun j hj => by rw [qu_k (by decide), qu_k (by decide)]; exact g15 j hj
  have bf : ∀ a j, ¬ (a = 0 ∧ 28 ≤ j ∧ j ≤ 31) → qu (qu A2 0 30 (nI (sp t L e))) 0 31 0 a j = A a j := fun a j h => by
    rw [qu_o (by omega), qu_o (by omega)]
    exact r3 a j (by omega)
  generalize qu (qu A2 0 30 (nI (sp t L e))) 0 31 0 = A3 at b28 b30 b31 b7 b15 bf ⊢
  have q29 : ∀ (x : Int32) a j, ¬ (a = 0 ∧ 28 ≤ j ∧ j ≤ 31) → qu A3 0 29 x a j = A a j := fun x a j h => by
    rw [qu_at]
    by_cases e : a = 0
    · rw [if_pos e, if_neg (by omega), ← e]; exact bf a j h
    · rw [if_neg e]; exact bf a j h
  by_cases c : sp t L e = L
  · have k0 : sk t L e = 0 := by unfold sk tkn; rw [if_neg (by omega)]
    rw [if_pos c, lt_e]
    refine ⟨_, rfl, ⟨?_, Or.inr ?_, ?_, ?_⟩, q29 _⟩
    · rw [qu_i (by decide)]; exact b30
    · rw [qu_i (by decide), b28]
      unfold sq
      rw [k0, if_neg (by decide), if_neg (by decide)]
    · rw [qu_s, k0]; rfl
    · rw [qu_i (by decide), b31]
      unfold sg
      rw [k0, if_neg (by decide)]; rfl
  · have pl : sp t L e < L := by omega
    have tp := ht (sp t L e)
    have ek : sk t L e = tk1 (t (sp t L e)) := by unfold sk tkn; rw [if_pos pl]
    have gp := qin_n (show sp t L e < 250 by omega) (by decide)
    rw [if_neg c, gd_t gp, gd_t gp, gd_t gp, clampI (show sp t L e < 2 ^ 31 by omega), b15 _ (by omega), f_let tp, bd_b, if_b]
    have tl := tk1_lt (t (sp t L e))
    by_cases c1 : tk1 (t (sp t L e)) = 1
    · rw [decide_eq_true c1, if_pos rfl, lt_e]
      obtain ⟨A', u1, u2, u3⟩ := m_lets hL ht (L - sp t L e) 1000 (sp t L e) (by omega) (by omega) (qu A3 0 29 1) (fun j hj => by rw [qu_k (by decide)]; exact b15 j hj) (by rw [qu_i (by decide)]; exact b7) (by rw [qu_i (by decide)]; exact b28)
      refine ⟨A', u1, ⟨?_, Or.inr ?_, ?_, ?_⟩, fun a j h => by rw [u3 a j (by omega)]; exact q29 _ a j h⟩
      · rw [u3 _ _ (by omega), qu_i (by decide)]; exact b30
      · rw [u2]
        unfold sq
        rw [ek, c1, if_neg (by decide), if_pos (Or.inl rfl)]
      · rw [u3 _ _ (by omega), qu_s, ek, c1]; rfl
      · rw [u3 _ _ (by omega), qu_i (by decide), b31]
        unfold sg
        rw [ek, c1, if_neg (by decide)]; rfl
    · rw [decide_eq_false c1, if_neg (show ¬ (false = true) by decide), f_dig tp, bd_b, if_b]
      by_cases c2 : tk1 (t (sp t L e)) = 2
      · rw [decide_eq_true c2, if_pos rfl, lt_e]
        obtain ⟨A', u1, u2, u3, u4⟩ := m_digs hL ht (p := sp t L e) (L - sp t L e) 1000 (sp t L e) (by omega) (by omega) (Nat.le_refl _) (qu A3 0 29 2) (fun j hj => by rw [qu_k (by decide)]; exact b15 j hj) (by rw [qu_i (by decide)]; exact b7) (by rw [qu_i (by decide)]; exact b28) (by rw [qu_i (by decide)]; exact b30) (by rw [qu_i (by decide), b31, Nat.sub_self]; rfl)
        have eq : sq t L e = rnF t 2 (L - sp t L e) (sp t L e) := by
          unfold sq
          rw [ek, c2, if_neg (by decide), if_pos (Or.inr rfl)]
        refine ⟨A', u1, ⟨?_, Or.inr ?_, ?_, ?_⟩, fun a j h => by rw [u4 a j (by omega)]; exact q29 _ a j h⟩
        · rw [u4 _ _ (by omega), qu_i (by decide)]; exact b30
        · rw [u2, eq]
        · rw [u4 _ _ (by omega), qu_s, ek, c2]; rfl
        · rw [u3]
          unfold sg
          rw [eq, ek, c2, if_pos rfl]
      · rw [decide_eq_false c2, if_neg (show ¬ (false = true) by decide), if_d (show nI (t (sp t L e)) = (59 : Int32) ↔ t (sp t L e) = 59 from nI_inj (b := 59) (by omega) (by decide))]
        have go : ∀ k : Nat, sk t L e = k → (k = 3 ∨ k = 4) → ∃ A', f_X9_look_251 (nI k) A3 = some A' ∧ TM t L e A' ∧ (∀ a j, ¬ (a = 0 ∧ 28 ≤ j ∧ j ≤ 31) → A' a j = A a j) := by
          intro k hk hk2
          unfold f_X9_look_251
          rw [lt_e, qu_i (show (28 : Nat) ≠ 29 by decide), b28, nI_1, lt_e]
          refine ⟨_, rfl, ⟨?_, ?_, ?_, ?_⟩, fun a j h => ?_⟩
          · rw [qu_i (by decide), qu_i (by decide)]; exact b30
          · rcases hk2 with e3 | e4
            · right
              rw [qu_s]
              unfold sq
              rw [hk, if_pos e3]
            · left; rw [hk, e4]
          · rw [qu_i (by decide), qu_s, hk]
          · rw [qu_i (by decide), qu_i (by decide), b31]
            unfold sg
            rw [hk, if_neg (by omega)]; rfl
          · rw [qu_o (by omega)]; exact q29 _ a j h
        by_cases c3 : t (sp t L e) = 59
        · rw [if_pos c3]
          exact go 3 (by rw [ek, tk1_3]; exact c3) (Or.inl rfl)
        · rw [if_neg c3]
          have : tk1 (t (sp t L e)) ≠ 3 := fun z => c3 (tk1_3.mp z)
          exact go 4 (by omega) (Or.inr rfl)
end SD
