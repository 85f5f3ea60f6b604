/-! Pure: the reference's plan. -/
def stp (o c : Option Nat) : Option Nat := match c with
  | none => o
  | some v => match o with
    | none => some v
    | some w => if w ≤ v then some w else some v
def of (L : List Nat) (o : Option Nat) (f : Nat → Option Nat) : Option Nat := L.foldl (fun o g => stp o (f g)) o
theorem stp_le {o c : Option Nat} {v : Nat} (h : o = some v ∨ c = some v) : ∃ z, stp o c = some z ∧ z ≤ v := by
  unfold stp
  cases c with
  | none =>
    rcases h with h | h
    · subst h; exact ⟨v, rfl, Nat.le_refl _⟩
    · cases h
  | some x =>
    cases o with
    | none =>
      rcases h with h | h
      · cases h
      · cases h; exact ⟨v, rfl, Nat.le_refl _⟩
    | some w =>
      show ∃ z, (if w ≤ x then some w else some x) = some z ∧ z ≤ v
      by_cases q : w ≤ x
      · rw [if_pos q]
        refine ⟨w, rfl, ?_⟩
        rcases h with h | h
        · cases h; exact Nat.le_refl _
        · cases h; exact q
      · rw [if_neg q]
        refine ⟨x, rfl, ?_⟩
        rcases h with h | h
        · cases h; omega
        · cases h; exact Nat.le_refl _
theorem stp_from {o c : Option Nat} {z : Nat} (h : stp o c = some z) : o = some z ∨ c = some z := by
  unfold stp at h
  cases c with
  | none => exact Or.inl h
  | some x =>
    cases o with
    | none => exact Or.inr h
    | some w =>
      replace h : (if w ≤ x then some w else some x) = some z := h
      by_cases q : w ≤ x
      · rw [if_pos q] at h; exact Or.inl h
      · rw [if_neg q] at h; exact Or.inr h
theorem of_le {f : Nat → Option Nat} : ∀ {L : List Nat} {o : Option Nat} {v : Nat}, (o = some v ∨ ∃ g, g ∈ L ∧ f g = some v) → ∃ z, of L o f = some z ∧ z ≤ v
  | [], o, v, h => by
    rcases h with h | ⟨g, hg, -⟩
    · exact ⟨v, h, Nat.le_refl _⟩
    · cases hg
  | x :: L, o, v, h => by
    have e : of (x :: L) o f = of L (stp o (f x)) f := rfl
    rw [e]
    have key : (o = some v ∨ f x = some v) → ∃ z, of L (stp o (f x)) f = some z ∧ z ≤ v := fun h => by
      obtain ⟨w, h1, h2⟩ := stp_le h
      obtain ⟨z, h3, h4⟩ := of_le (f := f) (L := L) (Or.inl h1)
      exact ⟨z, h3, by omega⟩
    rcases h with h | ⟨g, hg, h⟩
    · exact key (Or.inl h)
    · rcases List.mem_cons.mp hg with hg | hg
      · subst hg; exact key (Or.inr h)
      · exact of_le (Or.inr ⟨g, hg, h⟩)
theorem of_from {f : Nat → Option Nat} : ∀ {L : List Nat} {o : Option Nat} {z : Nat}, of L o f = some z → o = some z ∨ ∃ g, g ∈ L ∧ f g = some z
  | [], o, z, h => Or.inl h
  | x :: L, o, z, h => by
    have e : of (x :: L) o f = of L (stp o (f x)) f := rfl
    rw [e] at h
    rcases of_from h with h | ⟨g, hg, h⟩
    · rcases stp_from h with h | h
      · exact Or.inl h
      · exact Or.inr ⟨x, List.mem_cons_self, h⟩
    · exact Or.inr ⟨g, List.mem_cons_of_mem _ hg, h⟩
theorem qu_qu (I : qI) (k i : Nat) (v w : Int32) : qu (qu I k i v) k i w = qu I k i w := by
  funext a j
  by_cases h : a = k
  · subst h
    by_cases g : j = i
    · subst g; rw [qu_s, qu_s]
    · rw [qu_i g, qu_i g, qu_i g]
  · rw [qu_k h, qu_k h, qu_k h]
/-- a group first, the best behind it -/
def cst (V : qV) (PM : Nat → Option Nat) (s g : Nat) : Option Nat := match PM (s ^^^ g), sH V g with
  | some y, some x => some (y + 1000 + x)
  | _, _ => none
theorem cst_some {V : qV} {PM : Nat → Option Nat} {s g z : Nat} : cst V PM s g = some z ↔ ∃ x y, sH V g = some x ∧ PM (s ^^^ g) = some y ∧ z = y + 1000 + x := by
  unfold cst
  cases PM (s ^^^ g) with
  | none => exact ⟨fun h => (by cases h), fun ⟨x, y, _, h, _⟩ => (by cases h)⟩
  | some y =>
    cases sH V g with
    | none => exact ⟨fun h => (by cases h), fun ⟨x, y, h, _, _⟩ => (by cases h)⟩
    | some x =>
      constructor
      · intro h
        cases h
        exact ⟨x, y, rfl, rfl, rfl⟩
      · rintro ⟨x', y', h1, h2, h3⟩
        cases h1
        cases h2
        rw [h3]
section FP
variable {I : qI} {J : qJ} {A : qI} {B : qJ} {V : qV} {Z : qW}
theorem subM_len : ∀ s, s < 256 → 1 ≤ s → (subM s).length < 257 := by
  intro s hs _
  unfold subM
  rw [List.length_reverse]
  have := List.length_filter_le (fun g => decide (g &&& s = g) && decide (g ≠ 0)) (List.range (s + 1))
  rw [List.length_range] at this
  omega
theorem oI_cmp {o : Option Nat} {b : Nat} (hb : b < 2 ^ 31) (h : ∀ w, o = some w → w ≤ b) : oI o = -1 ↔ o = none := oI_m1 fun k q => by have := h k q; omega
/-- one walk over all parts of s -/
theorem m_walk (K : Int32 → Int32 → qI → Option (Int32 × qI)) (hW : WF V) {s : Nat} (hs : s < 256) (hsub : s &&& sAll V = s) (PM : Nat → Option Nat) (A0 : qI) (h26 : ∀ r, r < s → r &&& sAll V = r → A0 26 r = oI (PM r)) (hPM : ∀ r, r < s → r &&& sAll V = r → ∀ w, PM r = some w → w ≤ 8072) (h25 : ∀ g, 1 ≤ g → g ≤ s → A0 25 g = oI (sH V g)) :
    ∀ (L : List Nat) (k fuel : Nat) (g : Int32) (o : Option Nat), walkM (nI s) k g = L.map nI → L.length < k → k < fuel → (∀ x, x ∈ L → x &&& s = x ∧ x ≠ 0) → (∀ w, o = some w → w ≤ 10000) →
      f_X9_findPlan_39 K fuel (nI (sAll V)) (nI s) g (qu A0 26 s (oI o)) = K (nI (sAll V)) (nI s + 1) (qu A0 26 s (oI (of L o (cst V PM s)))) := by
  have hA := sAll_lt hW
  intro L
  induction L with
  | nil =>
    intro k fuel g o hL hk hf _ _
    obtain ⟨fu, rfl⟩ : ∃ fu, fuel = fu + 1 := ⟨fuel - 1, by omega⟩
    obtain ⟨k', rfl⟩ : ∃ k', k = k' + 1 := ⟨k - 1, by simp only [List.length_nil] at hk; omega⟩
    have hg : ¬ (0 : Int32) < g := by
      intro z
      rw [walkM, if_pos z] at hL
      cases hL
    rw [f_X9_findPlan_39, if_pos (Int32.not_lt.mp hg)]
    rfl
  | cons x L ih =>
    intro k fuel g o hL hk hf hm ho
    obtain ⟨fu, rfl⟩ : ∃ fu, fuel = fu + 1 := ⟨fuel - 1, by omega⟩
    obtain ⟨k', rfl⟩ : ∃ k', k = k' + 1 := ⟨k - 1, by simp only [List.length_cons] at hk; omega⟩
    obtain ⟨x1, x2⟩ := hm x List.mem_cons_self
    have x256 := sub_lt hs x1
    have hg : (0 : Int32) < g := by
      apply Classical.byContradiction
      intro z
      rw [walkM, if_neg z] at hL
      cases hL
    rw [walkM, if_pos hg, List.map_cons, List.cons.injEq] at hL
    obtain ⟨g1, g2⟩ := hL
    subst g1
    obtain ⟨⟨t1, t2, t3⟩, -⟩ := sub_tab s hs x x256 x1
    have sx256 : s ^^^ x < 256 := by omega
    have e3 : nI s &&& (nI x ^^^ (-1 : Int32)) = nI (s ^^^ x) := by
      rw [m1_nI, xor_nI, and_nI]
      exact congrArg nI t3
    have rsub : (s ^^^ x) &&& sAll V = s ^^^ x := sub_tr t2 hsub
    have qx := qin_n x256 (by decide)
    have qs := qin_n hs (by decide)
    have cx := clampI (show x < 2 ^ 31 by omega)
    have cs := clampI (show s < 2 ^ 31 by omega)
    have v26 : qu A0 26 s (oI o) 26 (s ^^^ x) = oI (PM (s ^^^ x)) := by rw [qu_i (by omega)]; exact h26 _ (by omega) rsub
    have v25 : qu A0 26 s (oI o) 25 x = oI (sH V x) := by rw [qu_k (by decide)]; exact h25 x (by omega) (by omega)
    have next : ∀ o', (∀ w, o' = some w → w ≤ 10000) → o' = stp o (cst V PM s x) → f_X9_findPlan_39 K fu (nI (sAll V)) (nI s) ((nI x - 1) &&& nI s) (qu A0 26 s (oI o')) = K (nI (sAll V)) (nI s + 1) (qu A0 26 s (oI (of (x :: L) o (cst V PM s)))) := by
      intro o' h1 h2
      rw [ih k' fu _ o' g2 (by simp only [List.length_cons] at hk; omega) (by omega) (fun y hy => hm y (List.mem_cons_of_mem _ hy)) h1, h2]
      rfl
    have keep : f_X9_findPlan_135 K (f_X9_findPlan_39 K fu) (nI (sAll V)) (nI s) (nI x) (nI s) (qu A0 26 s (oI o)) = f_X9_findPlan_39 K fu (nI (sAll V)) (nI s) ((nI x - 1) &&& nI s) (qu A0 26 s (oI o)) := by
      unfold f_X9_findPlan_135 f_X9_findPlan_141
      simp only [gd_t qs, cs, lt_e, qu_id]
    have put : ∀ v, f_X9_findPlan_130 K (f_X9_findPlan_39 K fu) (nI (sAll V)) (nI s) (nI x) v (nI s) (qu A0 26 s (oI o)) = f_X9_findPlan_39 K fu (nI (sAll V)) (nI s) ((nI x - 1) &&& nI s) (qu A0 26 s v) := by
      intro v
      unfold f_X9_findPlan_130 f_X9_findPlan_141
      simp only [gd_t qs, cs, lt_e, qu_qu]
    rw [f_X9_findPlan_39, if_neg (Int32.not_le.mpr hg), if_pos ((nand_nI (by omega) (by omega)).mpr hsub), e3, gd_t (qin_n sx256 (by decide)), lt_e, gd_t qx, gd_t qx, clampI (show s ^^^ x < 2 ^ 31 by omega), cx, v26, v25]
    unfold f_X9_findPlan_79 f_X9_findPlan_96
    have em : qu A0 26 s (oI o) 26 s = oI o := qu_s
    simp only [gd_t qs, cs, em, keep, put, eq_self, if_true]
    cases hx : sH V x with
    | none =>
      rw [show oI none = (-1 : Int32) from rfl, if_pos rfl]
      exact next o ho (by
        have : cst V PM s x = none := by unfold cst; rw [hx]; cases PM (s ^^^ x) <;> rfl
        rw [this]; rfl)
    | some h =>
      have h9 := sH_le hW hx
      rw [show oI (some h) = nI h from rfl, if_neg (nI_ne_m1 (show h < 2 ^ 31 by omega))]
      cases hp : PM (s ^^^ x) with
      | none =>
        rw [show oI none = (-1 : Int32) from rfl, if_pos rfl]
        exact next o ho (by
          have : cst V PM s x = none := by unfold cst; rw [hp]
          rw [this]; rfl)
      | some y =>
        have y8 := hPM _ (by omega) rsub y hp
        have ec : cst V PM s x = some (y + 1000 + h) := by unfold cst; rw [hp, hx]
        rw [show oI (some y) = nI y from rfl, if_neg (nI_ne_m1 (show y < 2 ^ 31 by omega)), show (1000 : Int32) = nI 1000 from rfl, add_nI, add_nI, if_neg (nI_ne_m1 (show y + 1000 + h < 2 ^ 31 by omega))]
        cases o with
        | none =>
          rw [show oI none = (-1 : Int32) from rfl, if_pos rfl]
          exact next (some (y + 1000 + h)) (fun w hw => by cases hw; omega) (by rw [ec]; rfl)
        | some w =>
          have w1 := ho w rfl
          rw [show oI (some w) = nI w from rfl, if_neg (nI_ne_m1 (show w < 2 ^ 31 by omega)), if_d (nle_i (show w < 2 ^ 31 by omega) (show y + 1000 + h < 2 ^ 31 by omega))]
          by_cases q : w ≤ y + 1000 + h
          · rw [if_pos q]
            exact next (some w) ho (by rw [ec]; show _ = if _ then _ else _; rw [if_pos q])
          · rw [if_neg q]
            exact next (some (y + 1000 + h)) (fun w hw => by cases hw; omega) (by rw [ec]; show _ = if _ then _ else _; rw [if_neg q])
def PMk (V : qV) (k : Nat) (PM : Nat → Option Nat) : Prop := PM 0 = some 0 ∧ ∀ s, 1 ≤ s → s ≤ k → s &&& sAll V = s →
  (∀ g x y, g &&& s = g → g ≠ 0 → sH V g = some x → PM (s ^^^ g) = some y → ∃ z, PM s = some z ∧ z ≤ y + 1000 + x) ∧
  (∀ z, PM s = some z → ∃ g x y, g &&& s = g ∧ g ≠ 0 ∧ sH V g = some x ∧ PM (s ^^^ g) = some y ∧ z = y + 1000 + x)
theorem PMk_le (hW : WF V) {k : Nat} {PM : Nat → Option Nat} (h : PMk V k PM) : ∀ n s, s < n → s ≤ k → s &&& sAll V = s → ∀ z, PM s = some z → z ≤ 1009 * sPc s 8 := by
  intro n
  have hA := sAll_lt hW
  induction n with
  | zero => intro s h; omega
  | succ n ih =>
    intro s hs hk hsub z hz
    have s256 : s < 256 := sub_lt hA hsub
    by_cases e : s = 0
    · subst e
      rw [h.1] at hz
      cases hz
      omega
    · obtain ⟨g, x, y, h1, h2, h3, h4, h5⟩ := (h.2 s (by omega) hk hsub).2 z hz
      have g256 := sub_lt s256 h1
      obtain ⟨⟨t1, t2, -⟩, -⟩ := sub_tab s s256 g g256 h1
      have := ih (s ^^^ g) (by omega) (by omega) (sub_tr t2 hsub) y h4
      have p := pc_sub s256 h1 h2
      have := sH_le hW h3
      omega
theorem m_findPlan (hm : MV A 0 V Z) (hW : WF V) : ∃ A' PM, f_X9_findPlan A = some (oI (PM (sAll V)), A') ∧ (∀ k j, k ≠ 25 → k ≠ 26 → A' k j = A k j) ∧ PMc V PM ∧ (∀ s, s ≤ sAll V → s &&& sAll V = s → A' 26 s = oI (PM s)) ∧ (∀ s, 1 ≤ s → s ≤ sAll V → A' 25 s = oI (sH V s)) := by
  have hA := sAll_lt hW
  have ho := ov_lt hW
  have hall : f_X9_waitingBits A = some (nI (sAll V)) := by
    unfold f_X9_waitingBits
    rw [hm.2.2.1.1, hm.2.2.1.2, pow_sub hW.n, m1_nI, xor_nI, and_nI]
    rfl
  have loop : ∀ fuel k, k ≤ sAll V → sAll V - k < fuel → ∀ (A1 : qI) (PM : Nat → Option Nat), (∀ k j, k ≠ 25 → k ≠ 26 → A1 k j = A k j) → PMk V k PM → (∀ s, s ≤ k → s &&& sAll V = s → A1 26 s = oI (PM s)) → (∀ s, 1 ≤ s → s ≤ k → A1 25 s = oI (sH V s)) →
      ∃ A' PM, f_X9_findPlan_14 fuel (nI (sAll V)) (nI (k + 1)) A1 = some (oI (PM (sAll V)), A') ∧ (∀ k j, k ≠ 25 → k ≠ 26 → A' k j = A k j) ∧ PMc V PM ∧ (∀ s, s ≤ sAll V → s &&& sAll V = s → A' 26 s = oI (PM s)) ∧ (∀ s, 1 ≤ s → s ≤ sAll V → A' 25 s = oI (sH V s)) := by
    intro fuel
    induction fuel with
    | zero => intro k _ h; omega
    | succ f ih =>
      intro k hk hf A1 PM fr hP p26 p25
      rw [f_X9_findPlan_14, if_d (nlt_i (show sAll V < 2 ^ 31 by omega) (show k + 1 < 2 ^ 31 by omega))]
      by_cases q : sAll V < k + 1
      · rw [if_pos q, gd_t (qin_n hA (by decide)), clampI (by omega), p26 _ (by omega) (Nat.and_self _)]
        have e : k = sAll V := by omega
        subst e
        exact ⟨A1, PM, rfl, fr, ⟨hP.1, fun s h1 h2 => hP.2 s h1 (by
          have : s &&& sAll V ≤ sAll V := Nat.and_le_right
          omega) h2⟩, p26, p25⟩
      · rw [if_neg q]
        have hm1 : MV A1 0 V Z := hm.fr fun k' j' g => fr k' j' (by omega) (by omega)
        have k256 : k + 1 < 256 := by omega
        have qk := qin_n k256 (by decide)
        have ck := clampI (show k + 1 < 2 ^ 31 by omega)
        have hm' : sHire V (k + 1) (V 8 0) (V 6 3) = sH V (k + 1) := rfl
        rw [m_hireOf hm1 hW (by omega), hm', bd_s]
        simp only [gd_t qk, lt_e, ck]
        have go : ∀ o : Option Nat, ((k + 1) &&& sAll V = k + 1 → o = of (subM (k + 1)) none (cst V PM (k + 1))) → ∃ A' PM, f_X9_findPlan_14 f (nI (sAll V)) (nI (k + 1) + 1) (qu (qu A1 25 (k + 1) (oI (sH V (k + 1)))) 26 (k + 1) (oI o)) = some (oI (PM (sAll V)), A') ∧ (∀ k j, k ≠ 25 → k ≠ 26 → A' k j = A k j) ∧ PMc V PM ∧ (∀ s, s ≤ sAll V → s &&& sAll V = s → A' 26 s = oI (PM s)) ∧ (∀ s, 1 ≤ s → s ≤ sAll V → A' 25 s = oI (sH V s)) := by
          intro o hoo
          rw [nI_1]
          refine ih (k + 1) (by omega) (by omega) _ (fun s => if s = k + 1 then o else PM s) (fun a j h1 h2 => by rw [qu_k h2, qu_k h1]; exact fr a j h1 h2) ⟨by dsimp only; rw [if_neg (by omega)]; exact hP.1, fun s h1 h2 hs => ?_⟩ (fun s hs hs2 => ?_) (fun s h1 h2 => ?_)
          · have old : ∀ g, g &&& s = g → g ≠ 0 → (if s ^^^ g = k + 1 then o else PM (s ^^^ g)) = PM (s ^^^ g) := fun g g1 g3 => by
              obtain ⟨⟨t1, -⟩, -⟩ := sub_tab s (by omega) g (sub_lt (by omega) g1) g1
              exact if_neg (by omega)
            dsimp only
            by_cases e : s = k + 1
            · subst e
              rw [if_pos rfl]
              have hoo := hoo hs
              refine ⟨fun g x y g1 g2 g3 g4 => ?_, fun z hz => ?_⟩
              · rw [old g g1 g2] at g4
                rw [hoo]
                exact of_le (Or.inr ⟨g, subM_mem.mpr ⟨g1, g2⟩, cst_some.mpr ⟨x, y, g3, g4, rfl⟩⟩)
              · rw [hoo] at hz
                rcases of_from hz with hz | ⟨g, hg, hz⟩
                · cases hz
                · obtain ⟨g1, g2⟩ := subM_mem.mp hg
                  obtain ⟨x, y, a1, a2, a3⟩ := cst_some.mp hz
                  exact ⟨g, x, y, g1, g2, a1, by rw [old g g1 g2]; exact a2, a3⟩
            · rw [if_neg e]
              obtain ⟨o1, o2⟩ := hP.2 s h1 (by omega) hs
              refine ⟨fun g x y g1 g2 g3 g4 => ?_, fun z hz => ?_⟩
              · rw [old g g1 g2] at g4
                exact o1 g x y g1 g2 g3 g4
              · obtain ⟨g, x, y, g1, g2, a1, a2, a3⟩ := o2 z hz
                exact ⟨g, x, y, g1, g2, a1, by rw [old g g1 g2]; exact a2, a3⟩
          · by_cases e : s = k + 1
            · subst e; rw [if_pos rfl, qu_s]
            · rw [if_neg e, qu_i e, qu_k (by decide)]; exact p26 s (by omega) hs2
          · rw [qu_k (by decide)]
            by_cases e : s = k + 1
            · subst e; rw [qu_s]
            · rw [qu_i e]; exact p25 s h1 (by omega)
        by_cases c : (k + 1) &&& sAll V = k + 1
        · have w := m_walk (f_X9_findPlan_14 f) hW k256 c PM (qu A1 25 (k + 1) (oI (sH V (k + 1)))) (fun r h1 h2 => by rw [qu_k (by decide)]; exact p26 r (by omega) h2) (fun r h1 h2 z hz => by
            have := PMk_le hW hP (r + 1) r (by omega) (by omega) h2 z hz
            have := pc_le r 8
            omega) (fun g h1 h2 => by
              by_cases e : g = k + 1
              · subst e; rw [qu_s]
              · rw [qu_i e]; exact p25 g h1 (by omega)) (subM (k + 1)) 257 1000 (nI (k + 1)) none (walkM_tab (k + 1) k256 (by omega)) (subM_len _ k256 (by omega)) (by decide) (fun x hx => subM_mem.mp hx) (fun w hw => by cases hw)
          have w2 : f_X9_findPlan_39 (f_X9_findPlan_14 f) 1000 (nI (sAll V)) (nI (k + 1)) (nI (k + 1)) (qu (qu A1 25 (k + 1) (oI (sH V (k + 1)))) 26 (k + 1) (-1)) = _ := w
          rw [w2]
          exact go _ fun _ => rfl
        · have w2 : f_X9_findPlan_39 (f_X9_findPlan_14 f) 1000 (nI (sAll V)) (nI (k + 1)) (nI (k + 1)) (qu (qu A1 25 (k + 1) (oI (sH V (k + 1)))) 26 (k + 1) (-1)) = f_X9_findPlan_14 f (nI (sAll V)) (nI (k + 1) + 1) (qu (qu A1 25 (k + 1) (oI (sH V (k + 1)))) 26 (k + 1) (oI none)) := by
            have hp : ¬ nI (k + 1) ≤ 0 := fun z => by
              have := (nle_i (b := 0) (show k + 1 < 2 ^ 31 by omega) (by decide)).mp z
              omega
            rw [f_X9_findPlan_39, if_neg hp, if_neg (fun z => c ((nand_nI (by omega) (by omega)).mp z))]
            rfl
          rw [w2]
          exact go none fun z => absurd z c
  unfold f_X9_findPlan
  rw [hall, bd_s, lt_e]
  exact loop 1000 0 (Nat.zero_le _) (by omega) _ (fun s => if s = 0 then some 0 else none) (fun k j h1 h2 => by rw [qu_k h2]) ⟨rfl, fun s h1 h2 => by omega⟩ (fun s hs _ => by
    have e : s = 0 := by omega
    subst e
    exact qu_s) (fun s h1 h2 => by omega)
end FP
