/-! Pure: loosen. -/
section LO
variable {t : qF} {I : qI} {J : qJ} {A : qI} {B : qJ} {V : qV} {Z : qW}
def relN (V : qV) (a b : Nat) : Int32 := if (V 4 a).testBit b then 1 else if (V 5 a).testBit b then 2 else 0
theorem x_rel (hx : XV I 1 V Z) (hW : WF V) {a b : Nat} (ha : a < V 7 0) (hb : b < V 7 0) (hab : a ≠ b) : f_X2_relation 1 (nI a) (nI b) I = some (relN V a b) := by
  have hn := hW.n
  have ha8 : a < 8 := by omega
  have q8 := qin_n ha8 (by decide)
  have ca := clampI (show a < 2 ^ 31 by omega)
  have b4 := hW.b8 (i := 4) (Or.inl rfl) a ha8
  have b5 := hW.b8 (i := 5) (Or.inr rfl) a ha8
  have x4 : I (1 + 5) a = nI (V 4 a) := hx.a (i := 4) (by decide) ha8
  have x5 : I (1 + 6) a = nI (V 5 a) := hx.a (i := 5) (by decide) ha8
  unfold f_X2_relation relN
  rw [x_two 1 hx hW ha hb hab, bd_s, if_neg (by decide), gd_t q8, gd_t q8, ca, x4, x5, f_has (by omega) (by omega), f_has (by omega) (by omega), bd_b, bd_b, if_b, if_b]
  cases (V 4 a).testBit b <;> cases (V 5 a).testBit b <;> rfl
theorem m_rel (hm : MV A 0 V Z) (hW : WF V) {a b : Nat} (ha : a < V 7 0) (hb : b < V 7 0) : f_X9_boundOf (nI a) (nI b) A = some (relN V a b) := by
  have hn := hW.n
  have ha8 : a < 8 := by omega
  have q8 := qin_n ha8 (by decide)
  have ca := clampI (show a < 2 ^ 31 by omega)
  have b4 := hW.b8 (i := 4) (Or.inl rfl) a ha8
  have b5 := hW.b8 (i := 5) (Or.inr rfl) a ha8
  have m4 : A 21 a = nI (V 4 a) := hm.a (i := 4) (by decide) ha8
  have m5 : A 22 a = nI (V 5 a) := hm.a (i := 5) (by decide) ha8
  unfold f_X9_boundOf relN
  rw [gd_t q8, gd_t q8, ca, m4, m5, if_d (has_nI (by omega) (by omega)), if_d (has_nI (by omega) (by omega))]
  cases (V 4 a).testBit b <;> cases (V 5 a).testBit b <;> rfl
theorem relN_1 {a b : Nat} : relN V a b = 1 ↔ (V 4 a).testBit b = true := by
  unfold relN
  cases (V 4 a).testBit b <;> cases (V 5 a).testBit b <;> decide
theorem bind_back (hW : WF V) {p q : Nat} (hp : p < V 7 0) (hq : q < V 7 0) (hpq : p ≠ q) (h4 : (V 4 p).testBit q = true) : bindV (bindV V p q false false) p q true false = V := by
  have hn := hW.n
  have W2 := hW.bind hpq hp hq (a := false) (b := false) rfl
  have hp8 : p < 8 := by omega
  have hq8 : q < 8 := by omega
  have e4 : ∀ (W : qV) a b c, bindV W p q a b 4 c = relV W 4 p q a 4 c := fun W a b c => relV_r (by decide)
  have e5 : ∀ (W : qV) a b c, bindV W p q a b 5 c = relV W 5 p q b 5 c := fun W a b c => by
    have r : ∀ d, relV W 4 p q a 5 d = W 5 d := fun d => relV_r (by decide)
    show relV (relV W 4 p q a) 5 p q b 5 c = relV W 5 p q b 5 c
    unfold relV at r ⊢
    by_cases e : c = q
    · subst e; rw [vu_s, vu_s, r]
    · rw [vu_o (fun z => e z.2), vu_o (fun z => e z.2)]
      by_cases f : c = p
      · subst f; rw [vu_s, vu_s, r]
      · rw [vu_o (fun z => f z.2), vu_o (fun z => f z.2), r]
  have out : ∀ (W : qV) i v c, c ≠ p → c ≠ q → relV W i p q v i c = W i c := fun W i v c h1 h2 => by
    unfold relV
    rw [vu_o (fun z => h2 z.2), vu_o (fun z => h1 z.2)]
  have no5 : (V 5 p).testBit q = false := by
    have := hW.2.2.2.2.2.1 p q hp
    rw [h4, Bool.true_and] at this
    exact this
  have sy := hW.2.2.2.2.1 p q hp hq
  funext i c
  by_cases i4 : i = 4
  · subst i4
    rw [e4]
    by_cases c8 : c = p ∨ c = q
    · have hc8 : c < 8 := by omega
      apply Nat.eq_of_testBit_eq
      intro j
      rw [relV_bit hpq hp8 hq8 (W2.b8 (Or.inl rfl)) hc8, e4, relV_bit hpq hp8 hq8 (hW.b8 (Or.inl rfl)) hc8]
      by_cases g : (c = p ∧ j = q) ∨ (c = q ∧ j = p)
      · rw [if_pos g]
        rcases g with ⟨rfl, rfl⟩ | ⟨rfl, rfl⟩
        · exact h4.symm
        · rw [← sy.1]; exact h4.symm
      · rw [if_neg g, if_neg g]
    · rw [out _ _ _ _ (fun z => c8 (Or.inl z)) (fun z => c8 (Or.inr z)), e4, out _ _ _ _ (fun z => c8 (Or.inl z)) (fun z => c8 (Or.inr z))]
  · by_cases i5 : i = 5
    · subst i5
      rw [e5]
      by_cases c8 : c = p ∨ c = q
      · have hc8 : c < 8 := by omega
        apply Nat.eq_of_testBit_eq
        intro j
        rw [relV_bit hpq hp8 hq8 (W2.b8 (Or.inr rfl)) hc8, e5, relV_bit hpq hp8 hq8 (hW.b8 (Or.inr rfl)) hc8]
        by_cases g : (c = p ∧ j = q) ∨ (c = q ∧ j = p)
        · rw [if_pos g]
          rcases g with ⟨rfl, rfl⟩ | ⟨rfl, rfl⟩
          · exact no5.symm
          · rw [← sy.2]; exact no5.symm
        · rw [if_neg g, if_neg g]
      · rw [out _ _ _ _ (fun z => c8 (Or.inl z)) (fun z => c8 (Or.inr z)), e5, out _ _ _ _ (fun z => c8 (Or.inl z)) (fun z => c8 (Or.inr z))]
    · unfold bindV
      rw [relV_r i5, relV_r i4, relV_r i5, relV_r i4]
theorem x_untied (hx : XV I 1 V Z) (hW : WF V) {p q : Nat} (hp : p < V 7 0) (hq : q < V 7 0) (hpq : p ≠ q) : ∃ I', f_X8_priceUntied (nI p) (nI q) I = some (nI (oN (sPl (bindV V p q false false))), I') ∧ DX I I' := by
  obtain ⟨I1, e1, x1, f1⟩ := x_become (I := I) 17 1 (by omega) hx
  obtain ⟨I2, e2, x2, w2, f2⟩ := x_relate 17 x1 hW hp hq hpq (r := 0) (by decide)
  obtain ⟨I3, e3, f3, p3, -⟩ := x_plan 17 (by decide) x2 w2
  refine ⟨I3, ?_, fun k j h1 h2 h3 h4 => ?_⟩
  · unfold f_X8_priceUntied
    rw [e1, bd_s, show f_X2_relate 17 (nI p) (nI q) 0 I1 = some I2 from e2, bd_s, e3, bd_s, p3, bd_s]
    rfl
  · rw [f3 k j h2 h3 h4, f2 k j (by omega), f1 k j (by omega)]
theorem m_untied (hm : MV A 0 V Z) (hW : WF V) {p q : Nat} (hp : p < V 7 0) (hq : q < V 7 0) (hpq : p ≠ q) (h4 : (V 4 p).testBit q = true) : ∃ A1 A2 A3, f_X9_binds (nI p) (nI q) 0 A = some A1 ∧ f_X9_findPlan A1 = some (oI (sPl (bindV V p q false false)), A2) ∧ f_X9_binds (nI p) (nI q) 1 A2 = some A3 ∧ MV A3 0 V Z ∧ NM A A3 := by
  have W2 := hW.bind hpq hp hq (a := false) (b := false) rfl
  obtain ⟨A1, e1, m1, f1⟩ := m_binds hm hW hp hq hpq (r := 0) (by decide)
  obtain ⟨A2, e2, f2⟩ := m_plan m1 W2
  have m2 : MV A2 0 (bindV V p q false false) Z := m1.fr fun k j g => f2 k j (by omega) (by omega)
  have e7 : bindV V p q false false 7 0 = V 7 0 := by unfold bindV; rw [relV_r (by decide), relV_r (by decide)]
  obtain ⟨A3, e3, m3, f3⟩ := m_binds m2 W2 (p := p) (q := q) (by rw [e7]; exact hp) (by rw [e7]; exact hq) hpq (r := 1) (by decide)
  refine ⟨A1, A2, A3, e1, e2, e3, ?_, fun k j g => ?_⟩
  · have e : bindV (bindV V p q false false) p q (decide (1 = 1)) (decide (1 = 2)) = V := bind_back hW hp hq hpq h4
    rw [e] at m3
    exact m3
  · rw [f3 k j (by omega), f2 k j (by omega) (by omega), f1 k j (by omega)]
theorem s_loosen (h : Rel t I J A B) : Sim t J B (f_X8_loosen I) (f_X9_loosen A) := by
  obtain ⟨V, Z, ⟨hx, hm, hW⟩, -⟩ := id h
  have hn := hW.n
  have fin : ∀ (x : Int32) (I1 A1 : qI), DX I I1 → MV A1 0 V Z → NM A A1 → Sim t J B (some (x, I1)) (some (x, A1)) := fun x I1 A1 d m n =>
    sim_same (h.bank hx hW ⟨d.xv (by decide) hx, m, hW⟩ (Nat.le_refl _) (fun k j g => d k j (by omega) (by omega) (by omega) (by omega)) n FJ.rf) x
  have inner : ∀ (KX KM : Int32 → Int32 → Int32 → qI → Option (Int32 × qI)) (i : Nat), i < V 7 0 → (∀ (x : Int32) (o : Option Nat) (I1 A1 : qI), (x = -1 ∨ ∃ m, m < 10 * (i + 1) ∧ x = nI m) → (∀ w, o = some w → w ≤ 8072) → DX I I1 → MV A1 0 V Z → NM A A1 → Sim t J B (KX x (nI (oN o)) (nI (i + 1)) I1) (KM x (oI o) (nI (i + 1)) A1)) →
      ∀ f j, i < j → j ≤ V 7 0 → V 7 0 - j < f → ∀ (x : Int32) (o : Option Nat) (I1 A1 : qI), (x = -1 ∨ ∃ m, m < 10 * i + j ∧ x = nI m) → (∀ w, o = some w → w ≤ 8072) → DX I I1 → MV A1 0 V Z → NM A A1 → Sim t J B (f_X8_loosen_24 KX f x (nI (oN o)) (nI i) (nI j) I1) (f_X9_loosen_19 KM f x (oI o) (nI i) (nI j) A1) := by
    intro KX KM i hi hK f
    induction f with
    | zero => intro j _ _ h; omega
    | succ f ih =>
      intro j hij hj hf x o I1 A1 hxm ho d1 m1 n1
      have x1 : XV I1 1 V Z := d1.xv (by decide) hx
      rw [f_X8_loosen_24, f_X9_loosen_19, x1.2.2.1.1, m1.2.2.1.1, stopN' hj (by omega), stopN' hj (by omega)]
      by_cases q : j = V 7 0
      · rw [if_pos q, if_pos q, nI_1]
        refine hK x o I1 A1 ?_ ho d1 m1 n1
        rcases hxm with z | ⟨m, z1, z2⟩
        · exact Or.inl z
        · exact Or.inr ⟨m, by omega, z2⟩
      · have hij' : i ≠ j := by omega
        have ih := ih (j + 1) (by omega) (by omega) (by omega)
        have mono : (x = -1 ∨ ∃ m, m < 10 * i + (j + 1) ∧ x = nI m) := by
          rcases hxm with z | ⟨m, z1, z2⟩
          · exact Or.inl z
          · exact Or.inr ⟨m, by omega, z2⟩
        rw [if_neg q, if_neg q, x_rel x1 hW hi (by omega) hij', m_rel m1 hW hi (by omega), bd_s, bd_s, nI_1, if_d relN_1, if_d relN_1]
        by_cases c : (V 4 i).testBit j = true
        · rw [if_pos c, if_pos c]
          obtain ⟨I2, e1, d2⟩ := x_untied x1 hW hi (show j < V 7 0 by omega) hij'
          obtain ⟨A2, A3, A4, g1, g2, g3, m4, n4⟩ := m_untied m1 hW hi (show j < V 7 0 by omega) hij' c
          have W2 := hW.bind hij' hi (show j < V 7 0 by omega) (a := false) (b := false) rfl
          have kl : ∀ w, sPl (bindV V i j false false) = some w → w ≤ 8072 := fun w hw => sPl_le W2 hw
          rw [e1, g1, bd2_s, bd_s, g2, bd2_s, g3, bd_s]
          have w1 : (nI i * (10 : Int32)) + nI j = nI (10 * i + j) := by
            rw [show (10 : Int32) = nI 10 from rfl, pk_mul, add_nI, Nat.mul_comm]
          have w2 : ((10 : Int32) * nI i) + nI j = nI (10 * i + j) := by
            rw [show (10 : Int32) = nI 10 from rfl, pk_mul, add_nI]
          have take := ih (nI (10 * i + j)) (sPl (bindV V i j false false)) I2 A4 (Or.inr ⟨10 * i + j, by omega, rfl⟩) kl (d1.tr d2) m4 (n1.tr n4)
          have keep := ih x o I2 A4 mono ho (d1.tr d2) m4 (n1.tr n4)
          unfold f_X9_loosen_75 f_X9_loosen_86 f_X8_loosen_70
          rw [w1, w2, nI_1, if_pos rfl]
          by_cases e : x = -1
          · rw [if_pos e, if_pos e]; exact take
          · have ne : ¬ x = nI (10 * i + j) := fun z => by
              rcases hxm with y | ⟨m, y1, y2⟩
              · exact e y
              · have := (nI_inj (show m < 2 ^ 31 by omega) (by omega)).mp (y2.symm.trans z)
                omega
            obtain ⟨u, u1, u2, u3⟩ := isLess_s kl ho
            have l1 := oN_le kl
            have l2 := oN_le ho
            rw [if_neg e, if_neg e, if_neg ne, u1, bd_b, if_b, if_d (nle_i (show oN o < 2 ^ 31 by omega) (show oN (sPl (bindV V i j false false)) < 2 ^ 31 by omega))]
            cases u with
            | false =>
              rw [if_pos (u3 rfl)]
              exact keep
            | true =>
              obtain ⟨z, z1, z2⟩ := u2 rfl
              rw [if_neg (show ¬ oN o ≤ oN (sPl (bindV V i j false false)) by rw [z1]; exact z2)]
              exact take
        · rw [if_neg c, if_neg c]
          exact ih x o I1 A1 mono ho d1 m1 n1
  have outer : ∀ f i f', i ≤ V 7 0 → V 7 0 - i < f → V 7 0 - i < f' → ∀ (x : Int32) (o : Option Nat) (I1 A1 : qI), (x = -1 ∨ ∃ m, m < 10 * i ∧ x = nI m) → (∀ w, o = some w → w ≤ 8072) → DX I I1 → MV A1 0 V Z → NM A A1 → Sim t J B (f_X8_loosen_8 f x (nI (oN o)) (nI i) I1) (f_X9_loosen_6 f' x (oI o) (nI i) A1) := by
    intro f
    induction f with
    | zero => intro i _ _ h; omega
    | succ f ih =>
      intro i f' hi hf hf' x o I1 A1 hxm ho d1 m1 n1
      obtain ⟨f', rfl⟩ : ∃ g, f' = g + 1 := ⟨f' - 1, by omega⟩
      have x1 : XV I1 1 V Z := d1.xv (by decide) hx
      rw [f_X8_loosen_8, f_X9_loosen_6, x1.2.2.1.1, m1.2.2.1.1, stopN' hi (by omega), stopN' hi (by omega)]
      by_cases q : i = V 7 0
      · rw [if_pos q, if_pos q]; exact fin x I1 A1 d1 m1 n1
      · rw [if_neg q, if_neg q, nI_1]
        refine inner (f_X8_loosen_8 f) (f_X9_loosen_6 f') i (by omega) (fun x o I1 A1 a b c d e => ih (i + 1) f' (by omega) (by omega) (by omega) x o I1 A1 a b c d e) 1000 (i + 1) (by omega) (by omega) (by omega) x o I1 A1 ?_ ho d1 m1 n1
        rcases hxm with z | ⟨m, z1, z2⟩
        · exact Or.inl z
        · exact Or.inr ⟨m, by omega, z2⟩
  exact outer 1000 0 1000 (Nat.zero_le _) (by omega) (by omega) (-1) none I A (Or.inl rfl) (fun w hw => by cases hw) DX.rf hm NM.rf
end LO
