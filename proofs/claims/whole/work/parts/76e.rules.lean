/-! Pure: rules, sizes, fit. -/
section RU
variable {t : qF} {I : qI} {J : qJ} {A : qI} {B : qJ} {V : qV} {Z : qW}
theorem isLess_s {o b : Option Nat} (ho : ∀ w, o = some w → w ≤ 8072) (hb : ∀ w, b = some w → w ≤ 8072) : ∃ u : Bool, f_X9_isLess (oI o) (oI b) = some (b2i u) ∧ (u = true → ∃ z, o = some z ∧ ¬ oN b ≤ z) ∧ (u = false → oN b ≤ oN o) := by
  unfold f_X9_isLess
  cases o with
  | none =>
    rw [show oI none = (-1 : Int32) from rfl, if_pos rfl]
    refine ⟨false, rfl, fun z => absurd z (by decide), fun _ => ?_⟩
    cases b with
    | none => exact Nat.le_refl _
    | some w => have := hb w rfl; show w ≤ 1000000; omega
  | some z =>
    have z1 := ho z rfl
    rw [show oI (some z) = nI z from rfl, if_neg (nI_ne_m1 (show z < 2 ^ 31 by omega))]
    cases b with
    | none =>
      rw [show oI none = (-1 : Int32) from rfl, if_pos rfl]
      exact ⟨true, rfl, fun _ => ⟨z, rfl, by show ¬ 1000000 ≤ z; omega⟩, fun h => absurd h (by decide)⟩
    | some w =>
      have w1 := hb w rfl
      rw [show oI (some w) = nI w from rfl, if_neg (nI_ne_m1 (show w < 2 ^ 31 by omega)), if_d (nle_i (show w < 2 ^ 31 by omega) (show z < 2 ^ 31 by omega))]
      by_cases q : w ≤ z
      · rw [if_pos q]
        exact ⟨false, rfl, fun h => absurd h (by decide), fun _ => q⟩
      · rw [if_neg q]
        exact ⟨true, rfl, fun _ => ⟨z, rfl, q⟩, fun h => absurd h (by decide)⟩
theorem oN_le {o : Option Nat} (ho : ∀ w, o = some w → w ≤ 8072) : oN o ≤ 1000000 := by
  cases o with
  | none => exact Nat.le_refl _
  | some w => have := ho w rfl; show w ≤ 1000000; omega
theorem s_rules_loop (h : Rel t I J A B) (hx : XV I 1 V Z) (hm : MV A 0 V Z) (hW : WF V) : ∀ f k f', k ≤ 4 → 4 - k < f → 4 - k < f' → ∀ (b : Nat) (o : Option Nat) (I1 A1 : qI), (∀ w, o = some w → w ≤ 8072) → DX I I1 → MX 11 A A1 → Sim t J B (f_X8_rules_8 f (nI b) (nI (oN o)) (nI k) I1) (f_X9_rules_12 f' (A 0 11) (nI b) (oI o) (nI k) A1) := by
  have WL : ∀ x, x < 4 → WF (vu V 6 2 x) := fun x hx4 => hW.told (by omega)
  intro f
  induction f with
  | zero => intro k _ _ h; omega
  | succ f ih =>
    intro k f' hk hf hf' b o I1 A1 ho d1 f1
    obtain ⟨f', rfl⟩ : ∃ g, f' = g + 1 := ⟨f' - 1, by omega⟩
    rw [f_X8_rules_8, f_X9_rules_12, show (4 : Int32) = nI 4 from rfl, stopN' hk (by decide), if_d (show (3 : Int32) < nI k ↔ k = 4 from (nlt_i (a := 3) (by decide) (by omega)).trans (by omega))]
    by_cases q : k = 4
    · rw [if_pos q, if_pos q, lt_e]
      exact sim_same (h.fr d1.fx f1.back FJ.rf) _
    · rw [if_neg q, if_neg q]
      have Wk := WL k (by omega)
      obtain ⟨I2, e1, d2, p1, -⟩ := x_planIf (d1.xv (by decide) hx) (k := 2) (v := k) (by decide) Wk
      have e1 : f_X8_planIf 2 (nI k) I1 = some I2 := e1
      obtain ⟨A2, g1, f2⟩ := m_with hm (i := 2) (x := k) (by decide) Wk f1
      have g1 : f_X9_findPlan (qu A1 0 11 (nI k)) = _ := g1
      have kl : ∀ w, sPl (vu V 6 2 k) = some w → w ≤ 8072 := fun w hw => sPl_le Wk hw
      obtain ⟨u, u1, u2, u3⟩ := isLess_s kl ho
      unfold f_X9_rules_45
      simp only [e1, p1, g1, u1, lt_e, bd_s, bd2_s, bd_b, if_b, nI_1]
      have l1 := oN_le kl
      have l2 := oN_le ho
      rw [if_d (nle_i (show oN o < 2 ^ 31 by omega) (show oN (sPl (vu V 6 2 k)) < 2 ^ 31 by omega))]
      cases u with
      | false =>
        rw [if_pos (u3 rfl)]
        exact ih (k + 1) f' (by omega) (by omega) (by omega) b o I2 A2 ho (d1.tr d2) f2
      | true =>
        obtain ⟨z, z1, z2⟩ := u2 rfl
        rw [if_neg (show ¬ oN o ≤ oN (sPl (vu V 6 2 k)) by rw [z1]; exact z2)]
        exact ih (k + 1) f' (by omega) (by omega) (by omega) k _ I2 A2 kl (d1.tr d2) f2
theorem s_rules (h : Rel t I J A B) : Sim t J B (f_X8_rules I) (f_X9_rules A) := by
  obtain ⟨V, Z, ⟨hx, hm, hW⟩, -⟩ := id h
  exact s_rules_loop h hx hm hW 1000 0 1000 (by decide) (by decide) (by decide) 0 none I A (fun w hw => by cases hw) DX.rf MX.rf
/-- what a word of the bank rests on -/
theorem sAgF_c {V V' : qV} (h4 : ∀ k, V' 4 k = V 4 k) (h5 : ∀ k, V' 5 k = V 5 k) (g ov : Nat) : ∀ n, sAgF V' g ov n = sAgF V g ov n := by
  intro n
  induction n with
  | zero => rfl
  | succ n ih => rw [sAgF, sAgF, ih, h4, h5]
theorem sAg_c {V V' : qV} (h4 : ∀ k, V' 4 k = V 4 k) (h5 : ∀ k, V' 5 k = V 5 k) (h7 : V' 7 0 = V 7 0) (g ov : Nat) : sAg V' g ov = sAg V g ov := by
  unfold sAg
  rw [sAgF_c h4 h5, h7]
theorem sSum_c {f f' : Nat → Nat} {g : Nat} : ∀ {n : Nat}, (∀ k, k < n → f' k = f k) → sSum f' g n = sSum f g n
  | 0, _ => rfl
  | n + 1, h => by
    rw [sSum, sSum, sSum_c (fun k hk => h k (by omega)), h n (by omega)]
theorem sLH_mono {V V' : qV} {hd : Nat} (h : ∀ x, sLets V x = true → sLets V' x = true) : ∀ {j k a : Nat}, sLH V hd j k = some a → ∃ b, sLH V' hd j k = some b
  | 0, k, a, q => by cases q
  | j + 1, k, a, q => by
    unfold sLH at q ⊢
    by_cases c : sLets V' (hd + k) = true
    · rw [if_pos c]; exact ⟨k, rfl⟩
    · rw [if_neg c]
      rw [if_neg (fun z => c (h _ z))] at q
      exact sLH_mono h q
theorem seats_mono {V : qV} {x y : Nat} (hxy : x ≤ y) (n : Nat) (h : sLets (vu V 6 0 x) n = true) : sLets (vu V 6 0 y) n = true := by
  have e1 : ∀ x, vu V 6 0 x 6 1 = V 6 1 := fun x => vu_o (by omega)
  unfold sLets at h ⊢
  rw [vu_s, e1] at h ⊢
  rw [Bool.and_eq_true] at h ⊢
  exact ⟨decide_eq_true (by have := of_decide_eq_true h.1; omega), h.2⟩
theorem sH_seats {V : qV} {x y g a : Nat} (hxy : x ≤ y) (h : sH (vu V 6 0 x) g = some a) : ∃ b, sH (vu V 6 0 y) g = some b := by
  have o : ∀ x i j, i ≠ 6 → vu V 6 0 x i j = V i j := fun x i j hi => vu_r hi
  have o3 : ∀ x, vu V 6 0 x 6 3 = V 6 3 := fun x => vu_o (by omega)
  have o2 : ∀ x, vu V 6 0 x 6 2 = V 6 2 := fun x => vu_o (by omega)
  have eg : ∀ x, sAg (vu V 6 0 x) g (V 8 0) = sAg V g (V 8 0) := fun x => sAg_c (fun k => o x 4 k (by decide)) (fun k => o x 5 k (by decide)) (o x 7 0 (by decide)) _ _
  have et : ∀ x, sHT (vu V 6 0 x) g = sHT V g := fun x => by
    unfold sHT
    rw [o x 7 0 (by decide)]
    refine sSum_c fun k _ => ?_
    unfold sHeads sHeadsIf
    rw [o2, o x 0 k (by decide), o x 1 k (by decide), o x 2 k (by decide)]
  unfold sH sHire at h ⊢
  rw [o x 8 0 (by decide), o3, eg, et] at h
  rw [o y 8 0 (by decide), o3, eg, et]
  by_cases c : sAg V g (V 8 0) = true
  · rw [if_pos c] at h ⊢
    exact sLH_mono (fun n => seats_mono hxy n) h
  · rw [if_neg c] at h
    cases h
theorem sPl_seats {V : qV} {x y : Nat} (hWx : WF (vu V 6 0 x)) (hWy : WF (vu V 6 0 y)) (hxy : x ≤ y) (h : (sPl (vu V 6 0 x)).isSome = true) : (sPl (vu V 6 0 y)).isSome = true := by
  obtain ⟨P, hP⟩ := PM_ex hWx
  obtain ⟨Q, hQ⟩ := PM_ex hWy
  have eA : ∀ x, sAll (vu V 6 0 x) = sAll V := fun x => by
    unfold sAll
    rw [vu_r (by decide), vu_r (by decide)]
  have hA := sAll_lt hWx
  rw [eA] at hA
  have key : ∀ n s, s < n → s &&& sAll V = s → ∀ z, P s = some z → ∃ z', Q s = some z' := by
    intro n
    induction n with
    | zero => intro s h; omega
    | succ n ih =>
      intro s hs hsub z hz
      have s256 := sub_lt hA hsub
      by_cases e : s = 0
      · subst e; exact ⟨0, hQ.1⟩
      · obtain ⟨g, a, b, h1, h2, h3, h4, -⟩ := (hP.2 s (by omega) (by rw [eA]; exact hsub)).2 z hz
        have g256 := sub_lt s256 h1
        obtain ⟨⟨t1, t2, -⟩, -⟩ := sub_tab s s256 g g256 h1
        obtain ⟨b', hb'⟩ := ih (s ^^^ g) (by omega) (sub_tr t2 hsub) b h4
        obtain ⟨a', ha'⟩ := sH_seats hxy h3
        obtain ⟨z', hz', -⟩ := (hQ.2 s (by omega) (by rw [eA]; exact hsub)).1 g a' b' h1 h2 ha' hb'
        exact ⟨z', hz'⟩
  rw [← sPl_e hWx hP, eA] at h
  rw [← sPl_e hWy hQ, eA]
  cases c : P (sAll V) with
  | none => rw [c] at h; cases h
  | some z =>
    obtain ⟨z', hz'⟩ := key _ _ (Nat.lt_succ_self _) (Nat.and_self _) z c
    rw [hz']; rfl
end RU
