/-! Pure: crossed. -/
/-- sums over the first parts of a set -/
def fS (fit : Nat → Bool) (W : Nat → Int32) (s : Nat) : Nat → Int32
  | 0 => 0
  | k + 1 => fS fit W s k + (if k &&& s = k ∧ k ≠ 0 ∧ fit k = true then W (s ^^^ k) else 0)
theorem fS_one (fit : Nat → Bool) (W : Nat → Int32) (s : Nat) : fS fit W s 1 = 0 := by
  rw [fS, fS, if_neg (fun z => z.2.1 rfl)]; decide
theorem fS_no {fit : Nat → Bool} {W : Nat → Int32} {s k : Nat} (h : ¬ (k &&& s = k ∧ k ≠ 0 ∧ fit k = true)) : fS fit W s (k + 1) = fS fit W s k := by
  rw [fS, if_neg h, Int32.add_zero]
theorem fS_end (fit : Nat → Bool) (W : Nat → Int32) (s : Nat) : ∀ d, fS fit W s (s + 1 + d) = fS fit W s (s + 1) := by
  intro d
  induction d with
  | zero => rfl
  | succ d ih =>
    rw [← Nat.add_assoc, fS_no (fun z => by
      have : s + 1 + d &&& s ≤ s := Nat.and_le_right
      omega), ih]
theorem fS_cg {fit fit' : Nat → Bool} {W : Nat → Int32} {s : Nat} (h : ∀ g, g &&& s = g → g ≠ 0 → fit g = fit' g) : ∀ k, fS fit W s k = fS fit' W s k
  | 0 => rfl
  | k + 1 => by
    rw [fS, fS, fS_cg h k]
    by_cases c : k &&& s = k ∧ k ≠ 0
    · rw [h k c.1 c.2]
    · rw [if_neg (fun z => c ⟨z.1, z.2.1⟩), if_neg (fun z => c ⟨z.1, z.2.1⟩)]
theorem fS_fold (fit : Nat → Bool) (W : Nat → Int32) (s : Nat) : ∀ m a, (((List.range m).filter (fun g => decide (g &&& s = g) && decide (g ≠ 0))).reverse).foldl (fun a x => if fit x = true then a + W (s ^^^ x) else a) a = a + fS fit W s m
  | 0, a => by
    show a = a + 0
    rw [Int32.add_zero]
  | m + 1, a => by
    rw [List.range_succ, List.filter_append, List.reverse_append, List.foldl_append, fS_fold fit W s m, fS]
    by_cases c : m &&& s = m ∧ m ≠ 0
    · have e : List.filter (fun g => decide (g &&& s = g) && decide (g ≠ 0)) [m] = [m] := by
        rw [List.filter_cons_of_pos (by rw [decide_eq_true c.1, decide_eq_true c.2]; rfl)]; rfl
      rw [e]
      show (if fit m = true then a + W (s ^^^ m) else a) + fS fit W s m = _
      by_cases d : fit m = true
      · rw [if_pos d, if_pos ⟨c.1, c.2, d⟩, Int32.add_assoc, Int32.add_comm (W (s ^^^ m))]
      · rw [if_neg d, if_neg (fun z => d z.2.2), Int32.add_zero]
    · have e : List.filter (fun g => decide (g &&& s = g) && decide (g ≠ 0)) [m] = [] := by
        rw [List.filter_cons_of_neg (by
          intro z
          rw [Bool.and_eq_true, decide_eq_true_eq, decide_eq_true_eq] at z
          exact c z)]; rfl
      rw [e, if_neg (fun z => c ⟨z.1, z.2.1⟩), Int32.add_zero]; rfl
/-- who fits a number told -/
def hcN (V : qV) (x : Int64) (g : Nat) : Bool := decide ((0 : Int64) ≤ x - (nI (sHT V g)).toInt64 ∧ x - (nI (sHT V g)).toInt64 ≤ (nI (V 6 3)).toInt64)
def gzN (V : qV) (x : Int64) : Bool := decide ((1 : Int64) ≤ x ∧ x ≤ 99) && sLets V x.toInt32.toNatClampNeg
def sFit (V : qV) (x : Int64) (g : Nat) : Bool := gzN V x && (hcN V x g && sAg V g (V 8 0))
def sFa (V : qV) (x : Int64) (g : Nat) : Bool := decide (g &&& sAll V = g) && sFit V x g
/-- in how many ways it goes on: r numbers left, n told -/
def wR (V : qV) (num : Nat → Int64) (n : Nat) : Nat → Nat → Int32
  | 0 => fun _ => 1
  | r + 1 => fun s => fS (sFa V (num (n - 1 - r))) (wR V num n r) s (s + 1)
def ffV (fit : Nat → Bool) (W : Nat → Int32) (all : Nat) : Nat → Nat → Int32
  | 0, _ => -1
  | j + 1, k => if k &&& all = k ∧ fit k = true ∧ ¬ W (all ^^^ k) ≤ 0 then nI k else ffV fit W all j (k + 1)
theorem l_99 {x : Int64} (h : 1 ≤ x ∧ x ≤ 99) : ∃ k, 1 ≤ k ∧ k ≤ 99 ∧ x = (nI k).toInt64 := by
  have e : x = x.toInt32.toInt64 := by
    apply Int64.toInt_inj.mp
    have h1 := Int64.le_iff_toInt_le.mp h.1
    have h2 := Int64.le_iff_toInt_le.mp h.2
    have h1 : (1 : Int) ≤ x.toInt := h1
    have h2 : x.toInt ≤ (99 : Int) := h2
    rw [Int32.toInt_toInt64, Int64.toInt_toInt32, Int.bmod_eq_of_le (by omega) (by omega)]
  rw [e] at h
  have h1 : (1 : Int32) ≤ x.toInt32 := (le_i2l 1 x.toInt32).mp h.1
  have h2 : x.toInt32 ≤ 99 := (le_i2l x.toInt32 99).mp h.2
  obtain ⟨k, a, b, e2⟩ := nI_btw (a := 1) (b := 99) (by decide) ⟨h1, h2⟩ (by decide)
  exact ⟨k, a, b, by rw [← e2]; exact e⟩
section CR
variable {t : qF} {I : qI} {J : qJ} {A : qI} {B : qJ} {V : qV} {Z : qW}
theorem gz_in {k : Nat} (h1 : 1 ≤ k) (h2 : k ≤ 99) : gzN V (nI k).toInt64 = sLets V k := by
  unfold gzN
  have h : (1 : Int64) ≤ (nI k).toInt64 ∧ (nI k).toInt64 ≤ 99 := ⟨(le_i2l 1 (nI k)).mpr ((nle_i (a := 1) (by decide) (by omega)).mpr h1), (le_i2l (nI k) 99).mpr ((nle_i (b := 99) (by omega) (by decide)).mpr h2)⟩
  rw [decide_eq_true h, Bool.true_and, i2l_l2i, clampI (by omega)]
theorem m_gz (hm : MV A 0 V Z) (hW : WF V) (x : Int64) : f_X9_goesNow x A = some (b2i (gzN V x)) := by
  by_cases h : (1 : Int64) ≤ x ∧ x ≤ 99
  · obtain ⟨k, h1, h2, rfl⟩ := l_99 h
    rw [m_goes hm hW (by omega), gz_in h1 h2]
  · have e0 : A 0 9 = nI (V 6 0) := hm.2.1 0 (by decide)
    have hs := hW.2.1.2.1
    unfold f_X9_goesNow gzN
    rw [in_s, decide_eq_false h, Bool.false_and, e0, decide_eq_false (show ¬ ((1 : Int64) ≤ x ∧ x ≤ (nI (V 6 0)).toInt64) from fun z => h ⟨z.1, Int64.le_trans z.2 ((le_i2l (nI (V 6 0)) 99).mpr ((nle_i (b := 99) (by omega) (by decide)).mpr hs))⟩)]
    rfl
theorem m_ab (hm : MV A 0 V Z) (hW : WF V) {g : Nat} (hg : g < 256) (x : Int64) : f_X9_isAboard (nI g) x A = some (b2i (sFit V x g)) := by
  have ho := ov_lt hW
  have e3 : A 0 12 = nI (V 6 3) := hm.2.1 3 (by decide)
  unfold f_X9_isAboard
  rw [m_sit hm hW (by omega) hm.2.2.1.2 (by omega), m_HT hm hW (by omega), bd_b, if_b, bd_s, in_s, e3, m_gz hm hW, bd_b, if_b, bd_b, if_b]
  unfold sFit
  rw [show decide ((0 : Int64) ≤ x - (nI (sHT V g)).toInt64 ∧ x - (nI (sHT V g)).toInt64 ≤ (nI (V 6 3)).toInt64) = hcN V x g from rfl]
  cases gzN V x <;> cases hcN V x g <;> cases sAg V g (V 8 0) <;> rfl
theorem x_fits (hx : XV I 1 V Z) (hW : WF V) {all : Nat} (ha : all < 256) (x : Int64) : ∃ I', f_X0_markFits 1 (nI all) x I = some I' ∧ (∀ k j, k ≠ 55 → I' k j = I k j) ∧ (∀ g, 1 ≤ g → g ≤ all → I' 55 g = b2i (sFit V x g)) := by
  have ho := ov_lt hW
  have loop : ∀ f k, 1 ≤ k → k ≤ all + 1 → all + 1 - k < f → ∀ I1 : qI, (∀ k j, k ≠ 55 → I1 k j = I k j) → (∀ g, 1 ≤ g → g < k → I1 55 g = b2i (sFit V x g)) → ∃ I', f_X0_markFits_33 1 f (nI all) x (b2i (gzN V x)) (nI k) I1 = some I' ∧ (∀ k j, k ≠ 55 → I' k j = I k j) ∧ (∀ g, 1 ≤ g → g ≤ all → I' 55 g = b2i (sFit V x g)) := by
    intro f
    induction f with
    | zero => intro k _ _ h; omega
    | succ f ih =>
      intro k h1 hk hf I1 fr h55
      rw [f_X0_markFits_33, if_d (nlt_i (show all < 2 ^ 31 by omega) (show k < 2 ^ 31 by omega))]
      by_cases q : all < k
      · rw [if_pos q]
        exact ⟨I1, rfl, fr, fun g g1 g2 => h55 g g1 (by omega)⟩
      · have x1 : XV I1 1 V Z := hx.fr fun k j g1 g2 => fr k j (by omega)
        have e3 : I1 (1 + 7) 3 = nI (V 6 3) := x1.2.1 3 (by decide)
        have e8 : I1 1 8 = nI (V 8 0) := x1.2.2.1.2
        rw [if_neg q, x_HT x1 hW (show k < 2 ^ 31 by omega), bd_s, e3, e8, x_ag x1 hW (show k < 2 ^ 31 by omega) (by omega), bd_b, if_b, if_b]
        unfold f_X0_markFits_98
        have key : (if gzN V x = true then (if lg_cmp (x - (nI (sHT V k)).toInt64) 0 < 0 then f_X0_markFits_99 1 (f_X0_markFits_33 1 f) (nI all) x (b2i (gzN V x)) (nI k) 0 (nI k) I1 else if 0 < lg_cmp (x - (nI (sHT V k)).toInt64) (nI (V 6 3)).toInt64 then f_X0_markFits_99 1 (f_X0_markFits_33 1 f) (nI all) x (b2i (gzN V x)) (nI k) 0 (nI k) I1 else if sAg V k (V 8 0) = true then f_X0_markFits_99 1 (f_X0_markFits_33 1 f) (nI all) x (b2i (gzN V x)) (nI k) 1 (nI k) I1 else f_X0_markFits_99 1 (f_X0_markFits_33 1 f) (nI all) x (b2i (gzN V x)) (nI k) 0 (nI k) I1) else f_X0_markFits_99 1 (f_X0_markFits_33 1 f) (nI all) x (b2i (gzN V x)) (nI k) 0 (nI k) I1) = f_X0_markFits_99 1 (f_X0_markFits_33 1 f) (nI all) x (b2i (gzN V x)) (nI k) (b2i (sFit V x k)) (nI k) I1 := by
          unfold sFit
          by_cases c1 : gzN V x = true
          · rw [if_pos c1]
            by_cases c2 : x - (nI (sHT V k)).toInt64 < 0
            · have hc : hcN V x k = false := decide_eq_false fun z => absurd c2 (Int64.not_lt.mpr z.1)
              rw [if_pos ((lg_cmp_lt _ _).mpr c2), hc, Bool.false_and, Bool.and_false]; rfl
            · rw [if_neg (fun z => c2 ((lg_cmp_lt _ _).mp z))]
              by_cases c3 : (nI (V 6 3)).toInt64 < x - (nI (sHT V k)).toInt64
              · have hc : hcN V x k = false := decide_eq_false fun z => absurd c3 (Int64.not_lt.mpr z.2)
                rw [if_pos ((lg_cmp_gt _ _).mpr c3), hc, Bool.false_and, Bool.and_false]; rfl
              · have hc : hcN V x k = true := decide_eq_true ⟨Int64.not_lt.mp c2, Int64.not_lt.mp c3⟩
                rw [if_neg (fun z => c3 ((lg_cmp_gt _ _).mp z)), hc, c1]
                cases sAg V k (V 8 0) <;> rfl
          · rw [if_neg c1, Bool.eq_false_iff.mpr c1]; rfl
        rw [key]
        unfold f_X0_markFits_99
        rw [gd_t (qin_n (show k < 256 by omega) (by decide)), lt_e, clampI (by omega), nar_b, nI_1]
        refine ih (k + 1) (by omega) (by omega) (by omega) _ (fun a j ha => by rw [qu_k ha]; exact fr a j ha) (fun g g1 g2 => ?_)
        by_cases e : g = k
        · subst e; rw [qu_s]
        · rw [qu_i e]; exact h55 g g1 (by omega)
  have l0 := loop 1000 1 (Nat.le_refl _) (by omega) (by omega) I (fun _ _ _ => rfl) (fun g g1 g2 => by omega)
  unfold f_X0_markFits
  by_cases c1 : x < 1
  · have e : gzN V x = false := by
      unfold gzN
      rw [decide_eq_false (fun z => absurd c1 (Int64.not_lt.mpr z.1)), Bool.false_and]
    rw [e] at l0
    rw [if_pos ((lg_cmp_lt _ _).mpr c1)]
    exact l0
  · rw [if_neg (fun z => c1 ((lg_cmp_lt _ _).mp z))]
    by_cases c2 : 99 < x
    · have e : gzN V x = false := by
        unfold gzN
        rw [decide_eq_false (fun z => absurd c2 (Int64.not_lt.mpr z.2)), Bool.false_and]
      rw [e] at l0
      rw [if_pos ((lg_cmp_gt _ _).mpr c2)]
      exact l0
    · rw [if_neg (fun z => c2 ((lg_cmp_gt _ _).mp z))]
      obtain ⟨k, h1, h2, rfl⟩ := l_99 ⟨Int64.not_lt.mp c1, Int64.not_lt.mp c2⟩
      rw [gz_in h1 h2] at l0
      rw [i2l_l2i, x_lets hx hW (by omega), bd_b, if_b]
      cases c : sLets V k
      · rw [c] at l0; exact l0
      · rw [c] at l0; exact l0
/-- the class's sum over the parts of a set -/
theorem x_wf {s : Nat} (hs : s < 256) (fit : Nat → Bool) (W : Nat → Int32) (h55 : ∀ g, g &&& s = g → g ≠ 0 → I 55 g = b2i (fit g)) (h56 : ∀ g, g &&& s = g → g ≠ 0 → I 56 (s ^^^ g) = W (s ^^^ g)) : f_X0_waysFrom (nI s) I = some (fS fit W s (s + 1)) := by
  have loop : ∀ (L : List Nat) (k fuel : Nat) (g acc : Int32), walkM (nI s) k g = L.map nI → L.length < k → L.length < fuel → (∀ x, x ∈ L → x &&& s = x ∧ x ≠ 0) → f_X0_waysFrom_4 I fuel (nI s) acc g = some (L.foldl (fun a x => if fit x = true then a + W (s ^^^ x) else a) acc) := by
    intro L
    induction L with
    | nil =>
      intro k fuel g acc hw hk hf _
      obtain ⟨k, rfl⟩ : ∃ j, k = j + 1 := ⟨k - 1, by omega⟩
      obtain ⟨fu, rfl⟩ : ∃ j, fuel = j + 1 := ⟨fuel - 1, by omega⟩
      rw [walkM] at hw
      rw [f_X0_waysFrom_4]
      by_cases c : (0 : Int32) < g
      · rw [if_pos c] at hw; cases hw
      · rw [if_pos (Int32.not_lt.mp c)]; rfl
    | cons x L ih =>
      intro k fuel g acc hw hk hf hm
      rw [List.length_cons] at hk hf
      obtain ⟨k, rfl⟩ : ∃ j, k = j + 1 := ⟨k - 1, by omega⟩
      obtain ⟨fu, rfl⟩ : ∃ j, fuel = j + 1 := ⟨fuel - 1, by omega⟩
      rw [walkM] at hw
      rw [f_X0_waysFrom_4]
      by_cases c : (0 : Int32) < g
      · rw [if_pos c, List.map_cons, List.cons.injEq] at hw
        obtain ⟨e1, e2⟩ := hw
        subst e1
        obtain ⟨x1, x2⟩ := hm x List.mem_cons_self
        have x256 := sub_lt hs x1
        have sx : s ^^^ x < 256 := Nat.xor_lt_two_pow (n := 8) hs x256
        unfold f_X0_waysFrom_28
        rw [if_neg (fun z => absurd c (Int32.not_lt.mpr z)), gd_t (qin_n x256 (by decide)), clampI (show x < 2 ^ 31 by omega), h55 x x1 x2, if_b, xor_nI, gd_t (qin_n sx (by decide)), clampI (show s ^^^ x < 2 ^ 31 by omega), h56 x x1 x2, List.foldl_cons]
        have ih := fun acc => ih k fu ((nI x - 1) &&& nI s) acc e2 (by omega) (by omega) (fun y hy => hm y (List.mem_cons_of_mem _ hy))
        by_cases d : fit x = true
        · rw [if_pos d, if_pos d]; exact ih _
        · rw [if_neg d, if_neg d]; exact ih _
      · rw [if_neg c] at hw; cases hw
  unfold f_X0_waysFrom
  by_cases s0 : s = 0
  · subst s0
    rw [show f_X0_waysFrom_4 I 1000 (nI 0) 0 (nI 0) = _ from loop [] 1 1000 (nI 0) 0 rfl (by decide) (by decide) (fun x hx => by cases hx)]
    exact congrArg some (fS_one fit W 0).symm
  · have l := loop (subM s) 257 1000 (nI s) 0 (walkM_tab s hs (by omega)) (subM_len s hs (by omega)) (by have := subM_len s hs (by omega); omega) (fun x hx => subM_mem.mp hx)
    rw [l]
    have := fS_fold fit W s (s + 1) 0
    rw [Int32.zero_add] at this
    rw [← this]
    rfl
theorem x_ff {all : Nat} (ha : all < 256) (fit : Nat → Bool) (W : Nat → Int32) (h55 : ∀ g, 1 ≤ g → g &&& all = g → I 55 g = b2i (fit g)) (h56 : ∀ g, g &&& all = g → I 56 (all ^^^ g) = W (all ^^^ g)) : ∀ j f k, 1 ≤ k → k + j = all + 1 → j < f → f_X0_firstFit_2 I f (nI all) (nI k) = some (ffV fit W all j k) := by
  intro j
  induction j with
  | zero =>
    intro f k h1 hk hf
    obtain ⟨f, rfl⟩ : ∃ g, f = g + 1 := ⟨f - 1, by omega⟩
    rw [f_X0_firstFit_2, if_pos ((nlt_i (by omega) (by omega)).mpr (by omega))]
    rfl
  | succ j ih =>
    intro f k h1 hk hf
    obtain ⟨f, rfl⟩ : ∃ g, f = g + 1 := ⟨f - 1, by omega⟩
    have sx : all ^^^ k < 256 := Nat.xor_lt_two_pow (n := 8) ha (show k < 2 ^ 8 by omega)
    have ih := ih f (k + 1) (by omega) (by omega) (by omega)
    rw [f_X0_firstFit_2, if_neg (fun z => by
      have := (nlt_i (show all < 2 ^ 31 by omega) (show k < 2 ^ 31 by omega)).mp z
      omega), if_d (nand_nI (show k < 2 ^ 31 by omega) (show all < 2 ^ 31 by omega)), nI_1, ffV]
    by_cases c : k &&& all = k
    · rw [if_pos c, gd_t (qin_n (show k < 256 by omega) (by decide)), clampI (show k < 2 ^ 31 by omega), h55 k h1 c, if_b, xor_nI, gd_t (qin_n sx (by decide)), clampI (show all ^^^ k < 2 ^ 31 by omega), h56 k c]
      by_cases d : fit k = true
      · rw [if_pos d]
        by_cases e : W (all ^^^ k) ≤ 0
        · rw [if_pos e, if_neg (fun z => z.2.2 e)]; exact ih
        · rw [if_neg e, if_pos ⟨c, d, e⟩]
      · rw [if_neg d, if_neg (fun z => d z.2.1)]; exact ih
    · rw [if_neg c, if_neg (fun z => c z.1)]; exact ih
/-- the class: one crossing's sets -/
theorem x_sets {c1 all : Nat} (ha : all < 256) (fit : Nat → Bool) (W : Nat → Int32) (K : Int32 → Int32 → qI → qJ → Option (Int32 × qI)) (x5 : Int32) (I0 : qI) (h55 : ∀ g, 1 ≤ g → g &&& all = g → I0 55 g = b2i (fit g)) : ∀ f k, k ≤ all + 1 → k < f → ∀ I1 : qI, (∀ a j, a ≠ 56 → I1 a j = I0 a j) → (∀ s, s &&& all = s → I1 56 s = if s < k then W s else fS fit W s (s + 1)) →
    ∃ I', f_X0_waysToCross_61 1 c1 K f (nI all) x5 (pI k) I1 J = K (nI all) (x5 + -1) I' J ∧ (∀ a j, a ≠ 56 → I' a j = I0 a j) ∧ (∀ s, s &&& all = s → I' 56 s = fS fit W s (s + 1)) := by
  intro f
  induction f with
  | zero => intro k _ h; omega
  | succ f ih =>
    intro k hk hf I1 fr h56
    rw [f_X0_waysToCross_61]
    cases k with
    | zero =>
      rw [show pI 0 = -1 from rfl, if_pos (by decide)]
      exact ⟨I1, rfl, fr, fun s hs => by rw [h56 s hs, if_neg (Nat.not_lt_zero s)]⟩
    | succ k =>
      have k256 : k < 256 := by omega
      rw [show pI (k + 1) = nI k from rfl, if_neg (nI_pos (by omega)), if_d (nand_nI (show k < 2 ^ 31 by omega) (show all < 2 ^ 31 by omega))]
      unfold f_X0_waysToCross_92
      have go : ∀ v : Int32, (k &&& all = k → v = fS fit W k (k + 1)) → ∃ I', f_X0_waysToCross_61 1 c1 K f (nI all) x5 (pI k) (qu I1 56 k v) J = K (nI all) (x5 + -1) I' J ∧ (∀ a j, a ≠ 56 → I' a j = I0 a j) ∧ (∀ s, s &&& all = s → I' 56 s = fS fit W s (s + 1)) := by
        intro v hv
        refine ih k (by omega) (by omega) _ (fun a j h => by rw [qu_k h]; exact fr a j h) (fun s hs => ?_)
        by_cases e : s = k
        · subst e
          rw [qu_s, if_neg (Nat.lt_irrefl _)]; exact hv hs
        · rw [qu_i e, h56 s hs]
          by_cases l : s < k
          · rw [if_pos l, if_pos (by omega)]
          · rw [if_neg l, if_neg (by omega)]
      by_cases c : k &&& all = k
      · rw [if_pos c, x_wf k256 fit W (fun g g1 g2 => by rw [fr _ _ (by decide)]; exact h55 g (by omega) (sub_tr g1 c)) (fun g g1 g2 => by
          obtain ⟨⟨t1, t2, -⟩, -⟩ := sub_tab k k256 g (sub_lt k256 g1) g1
          rw [h56 _ (sub_tr t2 c), if_pos (by omega)]), bd_s, gd_t (qin_n k256 (by decide)), lt_e, clampI (show k < 2 ^ 31 by omega), pI_m]
        exact go _ fun _ => rfl
      · rw [if_neg c, gd_t (qin_n k256 (by decide)), lt_e, clampI (show k < 2 ^ 31 by omega), pI_m]
        exact go 0 fun z => absurd z c
theorem nofill1 (k : Nat) (I : qI) : f_J7_fill_53178 k 256 (1 : Int32) I = some (quR I k (fun a => if a < 256 then 1 else I k a)) := by
  have loop : ∀ f n, n ≤ 256 → 256 - n < f → f_J7_fill_53178_5 k 256 f (1 : Int32) (nI n) (nI 256) (quR I k (fun a => if a < n then 1 else I k a)) = some (quR I k (fun a => if a < 256 then 1 else I k a)) := by
    intro f
    induction f with
    | zero => intro n _ h; omega
    | succ f ih =>
      intro n hn hf
      rw [f_J7_fill_53178_5, stopN' hn (by decide)]
      by_cases q : n = 256
      · subst q; rw [if_pos rfl]
      · rw [if_neg q, gd_t (qin_n (by omega) (by decide)), clampI (by omega), lt_e, nI_1]
        have st : qu (quR I k (fun a => if a < n then 1 else I k a)) k n 1 = quR I k (fun a => if a < n + 1 then 1 else I k a) := by
          funext a b
          rw [qu_at]
          unfold quR
          by_cases e : a = k
          · subst e
            rw [if_pos rfl, if_pos rfl, if_pos rfl]
            by_cases e2 : b = n
            · rw [if_pos e2, if_pos (by omega)]
            · rw [if_neg e2]
              by_cases l : b < n
              · rw [if_pos l, if_pos (by omega)]
              · rw [if_neg l, if_neg (by omega)]
          · rw [if_neg e, if_neg e, if_neg e]
        rw [st]
        exact ih (n + 1) (by omega) (by omega)
  have e : quR I k (fun a => if a < 0 then 1 else I k a) = I := by
    funext a b
    unfold quR
    by_cases e : a = k
    · rw [if_pos e, if_neg (Nat.not_lt_zero _), e]
    · rw [if_neg e]
  have := loop 1000 0 (by decide) (by decide)
  rw [e] at this
  exact this
theorem x_at {s k m c : Nat} (hk : k < 5) (hm : m ≤ 40) (e1 : I (28 + 2 * s) 1 = nI k) (l1 : I (28 + 2 * s) 2 = nI m) (hc : c < m) : f_X6_at (28 + 2 * s) (nI c) I J = some (J (28 + 2 * s + 1) c) := by
  unfold f_X6_at
  rw [places1 hk hm e1 l1, bd_b, if_b, decide_eq_true (show (0 : Int32) ≤ nI c ∧ nI c ≤ nI m - 1 from ⟨nI_pos' (by omega), by rw [sub1_nI (by omega), nle_i (by omega) (by omega)]; omega⟩), if_pos rfl, gd_t (qin_n (show c < 40 by omega) (by decide)), clampI (by omega)]
end CR
