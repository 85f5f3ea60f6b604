/-! Pure: the class's plan. -/
/-- the least of a list -/
def mf (L : List Nat) (b : Nat) (f : Nat → Nat) : Nat := L.foldl (fun b g => if f g < b then f g else b) b
theorem mf_le {f : Nat → Nat} : ∀ {L : List Nat} {b : Nat}, mf L b f ≤ b
  | [], b => Nat.le_refl _
  | x :: L, b => by
    show mf L (if f x < b then f x else b) f ≤ b
    have := mf_le (f := f) (L := L) (b := if f x < b then f x else b)
    split at this <;> split <;> omega
theorem mf_mem {f : Nat → Nat} : ∀ {L : List Nat} {b g : Nat}, g ∈ L → mf L b f ≤ f g
  | x :: L, b, g, h => by
    show mf L (if f x < b then f x else b) f ≤ f g
    rcases List.mem_cons.mp h with h | h
    · subst h
      have := mf_le (f := f) (L := L) (b := if f g < b then f g else b)
      split at this <;> split <;> omega
    · exact mf_mem h
theorem mf_at {f : Nat → Nat} : ∀ {L : List Nat} {b : Nat}, mf L b f = b ∨ ∃ g, g ∈ L ∧ mf L b f = f g
  | [], b => Or.inl rfl
  | x :: L, b => by
    have e : mf (x :: L) b f = mf L (if f x < b then f x else b) f := rfl
    rw [e]
    rcases mf_at (f := f) (L := L) (b := if f x < b then f x else b) with h | ⟨g, h1, h2⟩
    · by_cases c : f x < b
      · rw [if_pos c] at h ⊢
        exact Or.inr ⟨x, List.mem_cons_self, h⟩
      · rw [if_neg c] at h ⊢
        exact Or.inl h
    · exact Or.inr ⟨g, List.mem_cons_of_mem _ h1, h2⟩
theorem mf_congr {f f' : Nat → Nat} {L : List Nat} {b : Nat} (h : ∀ g, g ∈ L → f g = f' g) : mf L b f = mf L b f' := by
  induction L generalizing b with
  | nil => rfl
  | cons x L ih =>
    show mf L (if f x < b then f x else b) f = mf L (if f' x < b then f' x else b) f'
    rw [h x List.mem_cons_self]
    exact ih fun g hg => h g (List.mem_cons_of_mem _ hg)
section RK
variable {I : qI} {J : qJ} {A : qI} {B : qJ} {V : qV} {Z : qW}
/-- the parts of s with its lowest, priced -/
theorem x_lp {s : Nat} (hs : s < 256) (h1 : 1 ≤ s) (f : Nat → Nat) (hf : ∀ g, g &&& s = g → g ≠ 0 → I 46 g + I 47 (s ^^^ g) = nI (f g) ∧ f g < 2 ^ 31) : f_X5_leastPrice (nI s) I = some (nI (mf (subX s) 1000000 f)) := by
  obtain ⟨w1, w2, w3⟩ := walkX_tab s hs h1
  have loop : ∀ (k : Nat) (fuel : Nat) (g : Int32) (j c b : Nat) (L : List Nat), walkX (nI s) (nI s &&& (-nI s)) k g = L.map nI → (∀ x, x ∈ L → x &&& s = x ∧ x ≠ 0) → j + k = c → c < 2 ^ 31 → k < fuel → b ≤ 1000000 → f_X5_leastPrice_24 I fuel (nI s) (nI s &&& (-nI s)) (nI c) (nI b) g (nI j) = some (nI (mf L b f)) := by
    intro k
    induction k with
    | zero =>
      intro fuel g j c b L hL _ hj hc hf' hb
      obtain ⟨fu, rfl⟩ : ∃ fu, fuel = fu + 1 := ⟨fuel - 1, by omega⟩
      have e : L = [] := by
        cases L with
        | nil => rfl
        | cons x L => cases hL
      subst e
      rw [f_X5_leastPrice_24, stopN' (by omega) hc, if_pos (by omega)]
      rfl
    | succ k ih =>
      intro fuel g j c b L hL hm hj hc hf' hb
      obtain ⟨fu, rfl⟩ : ∃ fu, fuel = fu + 1 := ⟨fuel - 1, by omega⟩
      cases L with
      | nil => cases hL
      | cons x L =>
        rw [walkX, List.map_cons, List.cons.injEq] at hL
        obtain ⟨g1, g2⟩ := hL
        obtain ⟨x1, x2⟩ := hm x List.mem_cons_self
        have x256 : x < 256 := by
          have : x &&& s ≤ s := Nat.and_le_right
          omega
        have sx : s ^^^ x < 256 := Nat.xor_lt_two_pow (n := 8) hs x256
        obtain ⟨v1, v2⟩ := hf x x1 x2
        subst g1
        rw [f_X5_leastPrice_24, stopN' (by omega) hc, if_neg (by omega), gd_t (qin_n x256 (by decide)), xor_nI, gd_t (qin_n sx (by decide)), lt_e, clampI (by omega), clampI (by omega), v1, if_d (nlt_i v2 (show b < 2 ^ 31 by omega)), nI_1]
        have e : (if f x < b then nI (f x) else nI b) = nI (if f x < b then f x else b) := by split <;> rfl
        rw [e]
        exact ih fu _ (j + 1) c _ L g2 (fun y hy => hm y (List.mem_cons_of_mem _ hy)) (by omega) hc (by omega) (by split <;> omega)
  have p8 : 2 ^ (sPc s 8 - 1) ≤ 2 ^ 7 := Nat.pow_le_pow_right (by decide) (by omega)
  unfold f_X5_leastPrice
  rw [pc_tab s hs, bd_s, lt_e, sub1_nI w2, one_shl (by omega)]
  exact loop _ 1000 _ 0 _ 1000000 _ w1 (fun x hx => by
    obtain ⟨a, -, c⟩ := subX_mem.mp hx
    exact ⟨a, c⟩) (by omega) (by omega) (by omega) (by omega)
theorem subI_all {x a : Nat} (hx : x < 256) (ha : a < 256) : (nI x &&& (nI a ^^^ (-1 : Int32))) = 0 ↔ x &&& a = x := nand_nI (by omega) (by omega)
theorem sST_le (hW : WF V) (g : Nat) : sST V g ≤ 1000000 := by
  unfold sST
  cases c : sH V g with
  | none => exact Nat.le_refl _
  | some h => have := sH_le hW c; show 1000 + h ≤ _; omega
theorem x_reckon (b : Nat) (hb : b + 8 ≤ 45) (hx : XV I b V Z) (hW : WF V) : ∃ I' P, f_X5_reckon b I = some I' ∧ (∀ k j, k ≠ 45 → k ≠ 46 → k ≠ 47 → I' k j = I k j) ∧ I' 45 2 = nI (sAll V) ∧ PXc V P ∧ (∀ s, s ≤ sAll V → I' 47 s = nI (P s) ∧ P s ≤ 1000000) ∧ (∀ s, 1 ≤ s → s ≤ sAll V → I' 46 s = nI (sST V s)) := by
  have hA := sAll_lt hW
  have ho := ov_lt hW
  have hall : f_X2_here b I = some (nI (sAll V)) := by
    unfold f_X2_here f_X2_everybody
    rw [bd_s, hx.2.2.1.1, hx.2.2.1.2, pow_sub hW.n, m1_nI, xor_nI, and_nI]
    rfl
  have loop : ∀ fuel k, k ≤ sAll V → sAll V - k < fuel → ∀ (I1 : qI) (P : Nat → Nat), (∀ k j, k ≠ 45 → k ≠ 46 → k ≠ 47 → I1 k j = I k j) → I1 45 2 = nI (sAll V) →
      (P 0 = 0 ∧ ∀ s, 1 ≤ s → s ≤ k → (s &&& sAll V = s → P s ≤ 1000000 ∧ (∀ g, g ∈ subX s → P s ≤ sST V g + P (s ^^^ g)) ∧ (P s = 1000000 ∨ ∃ g, g ∈ subX s ∧ P s = sST V g + P (s ^^^ g)))) → (∀ s, s ≤ k → I1 47 s = nI (P s) ∧ P s ≤ 1000000) → (∀ s, 1 ≤ s → s ≤ k → I1 46 s = nI (sST V s)) →
      ∃ I' P, f_X5_reckon_17 b fuel (nI (k + 1)) I1 = some I' ∧ (∀ k j, k ≠ 45 → k ≠ 46 → k ≠ 47 → I' k j = I k j) ∧ I' 45 2 = nI (sAll V) ∧ PXc V P ∧ (∀ s, s ≤ sAll V → I' 47 s = nI (P s) ∧ P s ≤ 1000000) ∧ (∀ s, 1 ≤ s → s ≤ sAll V → I' 46 s = nI (sST V s)) := by
    intro fuel
    induction fuel with
    | zero => intro k _ h; omega
    | succ f ih =>
      intro k hk hf I1 P fr a45 hP p47 p46
      rw [f_X5_reckon_17, a45, if_d (nlt_i (show sAll V < 2 ^ 31 by omega) (show k + 1 < 2 ^ 31 by omega))]
      by_cases q : sAll V < k + 1
      · rw [if_pos q]
        have e : k = sAll V := by omega
        subst e
        exact ⟨I1, P, rfl, fr, a45, ⟨hP.1, fun s h1 h2 => hP.2 s h1 (by
          have : s &&& sAll V ≤ sAll V := Nat.and_le_right
          omega) h2⟩, p47, p46⟩
      · rw [if_neg q]
        have hx1 : XV I1 b V Z := hx.fr fun k' j' g1 g2 => fr k' j' (by omega) (by omega) (by omega)
        have k256 : k + 1 < 256 := by omega
        have qk := qin_n k256 (by decide)
        have ck := clampI (show k + 1 < 2 ^ 31 by omega)
        rw [hx1.2.2.1.2, x_hireBy hx1 hW (by omega) (by omega), bd_s]
        -- both ways the step
        have step : ∃ I' P, f_X5_reckon_55 b (f_X5_reckon_17 b f) (nI (k + 1)) (nI (sST V (k + 1))) (nI (k + 1)) I1 = some I' ∧ (∀ k j, k ≠ 45 → k ≠ 46 → k ≠ 47 → I' k j = I k j) ∧ I' 45 2 = nI (sAll V) ∧ PXc V P ∧ (∀ s, s ≤ sAll V → I' 47 s = nI (P s) ∧ P s ≤ 1000000) ∧ (∀ s, 1 ≤ s → s ≤ sAll V → I' 46 s = nI (sST V s)) := by
          unfold f_X5_reckon_55 f_X5_reckon_82
          simp only [gd_t qk, ck, lt_e]
          rw [qu_k (show (45 : Nat) ≠ 46 by decide), a45, if_d (subI_all k256 hA)]
          have go : ∀ v : Nat, v ≤ 1000000 → ((k + 1) &&& sAll V = k + 1 → v = mf (subX (k + 1)) 1000000 (fun g => sST V g + P (k + 1 ^^^ g))) → ∃ I' P, f_X5_reckon_17 b f (nI (k + 1) + 1) (qu (qu I1 46 (k + 1) (nI (sST V (k + 1)))) 47 (k + 1) (nI v)) = some I' ∧ (∀ k j, k ≠ 45 → k ≠ 46 → k ≠ 47 → I' k j = I k j) ∧ I' 45 2 = nI (sAll V) ∧ PXc V P ∧ (∀ s, s ≤ sAll V → I' 47 s = nI (P s) ∧ P s ≤ 1000000) ∧ (∀ s, 1 ≤ s → s ≤ sAll V → I' 46 s = nI (sST V s)) := by
            intro v hv he
            rw [nI_1]
            refine ih (k + 1) (by omega) (by omega) _ (fun s => if s = k + 1 then v else P s) (fun a j h1 h2 h3 => by rw [qu_k h3, qu_k h2]; exact fr a j h1 h2 h3) (by rw [qu_k (by decide), qu_k (by decide)]; exact a45) ⟨by rw [if_neg (by omega)]; exact hP.1, fun s h1 h2 hs => ?_⟩ (fun s hs => ?_) (fun s h1 h2 => ?_)
            · have old : ∀ g, g ∈ subX s → (if s ^^^ g = k + 1 then v else P (s ^^^ g)) = P (s ^^^ g) := fun g hg => by
                obtain ⟨g1, -, g3⟩ := subX_mem.mp hg
                obtain ⟨⟨t1, -⟩, -⟩ := sub_tab s (by omega) g (sub_lt (by omega) g1) g1
                exact if_neg (by omega)
              by_cases e : s = k + 1
              · subst e
                rw [if_pos rfl]
                refine ⟨hv, fun g hg => ?_, ?_⟩
                · rw [old g hg, he hs]; exact mf_mem hg
                · rcases mf_at (f := fun g => sST V g + P (k + 1 ^^^ g)) (L := subX (k + 1)) (b := 1000000) with m | ⟨g, hg, m⟩
                  · exact Or.inl ((he hs).trans m)
                  · exact Or.inr ⟨g, hg, by rw [old g hg]; exact (he hs).trans m⟩
              · rw [if_neg e]
                obtain ⟨o1, o2, o3⟩ := hP.2 s h1 (by omega) hs
                refine ⟨o1, fun g hg => by rw [old g hg]; exact o2 g hg, ?_⟩
                rcases o3 with o3 | ⟨g, hg, o3⟩
                · exact Or.inl o3
                · exact Or.inr ⟨g, hg, by rw [old g hg]; exact o3⟩
            · by_cases e : s = k + 1
              · subst e; rw [if_pos rfl, qu_s]; exact ⟨rfl, hv⟩
              · rw [if_neg e, qu_i e, qu_k (by decide)]; exact p47 s (by omega)
            · rw [qu_k (by decide)]
              by_cases e : s = k + 1
              · subst e; rw [qu_s]
              · rw [qu_i e]; exact p46 s h1 (by omega)
          by_cases c : (k + 1) &&& sAll V = k + 1
          · rw [if_pos c]
            rw [x_lp k256 (by omega) (fun g => sST V g + P (k + 1 ^^^ g)) (fun g h1 h2 => ?_), bd_s]
            · exact go _ mf_le fun _ => rfl
            · have g256 := sub_lt k256 h1
              obtain ⟨⟨t1, t2, -⟩, -⟩ := sub_tab (k + 1) k256 g g256 h1
              have s1 := sST_le hW g
              have s2 := (p47 (k + 1 ^^^ g) (by omega)).2
              refine ⟨?_, by show sST V g + P (k + 1 ^^^ g) < _; omega⟩
              rw [qu_k (show (47 : Nat) ≠ 46 by decide), (p47 (k + 1 ^^^ g) (by omega)).1]
              by_cases e : g = k + 1
              · subst e; rw [qu_s, add_nI]
              · rw [qu_i e, p46 g (by omega) (by omega), add_nI]
          · rw [if_neg c]
            exact go 1000000 (Nat.le_refl _) fun z => absurd z c
        have hm : sHire V (k + 1) (V 8 0) (V 6 3) = sH V (k + 1) := rfl
        rw [hm]
        cases hh : sH V (k + 1) with
        | none =>
          have e : sST V (k + 1) = 1000000 := by unfold sST; rw [hh]
          rw [e] at step
          exact step
        | some x =>
          have e : sST V (k + 1) = 1000 + x := by unfold sST; rw [hh]
          have := sH_le hW hh
          rw [e, ← add_nI 1000 x] at step
          rw [show oI (some x) = nI x from rfl, if_neg (nI_ne_m1 (by omega))]
          exact step
  unfold f_X5_reckon
  rw [hall, bd_s, lt_e, lt_e]
  exact loop 1000 0 (Nat.zero_le _) (by omega) _ (fun _ => 0) (fun k j h1 h2 h3 => by rw [qu_k h3, qu_k h1]) (by rw [qu_k (by decide), qu_s]) ⟨rfl, fun s h1 h2 => by omega⟩ (fun s hs => by
    have e : s = 0 := by omega
    subst e
    exact ⟨qu_s, by decide⟩) (fun s h1 h2 => by omega)
end RK
