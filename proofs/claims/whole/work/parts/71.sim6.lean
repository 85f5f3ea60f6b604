/-! Pure: ties and parties. -/
def setb (x p : Nat) (v : Bool) : Nat := if v then x ||| 2 ^ p else x &&& (2 ^ p ^^^ 255)
theorem setb_bit {x p : Nat} (hx : x < 256) (hp : p < 8) (v : Bool) (i : Nat) : (setb x p v).testBit i = if i = p then v else x.testBit i := by
  unfold setb
  cases v
  · rw [if_neg (by decide), Nat.testBit_and, Nat.testBit_xor, Nat.testBit_two_pow, show (255 : Nat) = 2 ^ 8 - 1 from rfl, Nat.testBit_two_pow_sub_one]
    by_cases e : i = p
    · subst e; simp [hp]
    · rw [if_neg e, decide_eq_false (Ne.symm e)]
      by_cases h8 : i < 8
      · simp [h8]
      · have : x.testBit i = false := Nat.testBit_lt_two_pow (Nat.lt_of_lt_of_le (show x < 2 ^ 8 from hx) (Nat.pow_le_pow_right (by decide) (by omega)))
        simp [this]
  · rw [if_pos rfl, Nat.testBit_or, Nat.testBit_two_pow]
    by_cases e : i = p
    · subst e; simp
    · rw [if_neg e, decide_eq_false (Ne.symm e), Bool.or_false]
theorem setb_lt {x p n : Nat} (hx : x < 2 ^ n) (hp : p < n) (v : Bool) : setb x p v < 2 ^ n := by
  unfold setb
  cases v
  · exact Nat.lt_of_le_of_lt Nat.and_le_left hx
  · exact Nat.or_lt_two_pow hx (Nat.pow_lt_pow_right (by decide) hp)
/-- the bits of p and q in row i -/
def relV (V : qV) (i p q : Nat) (v : Bool) : qV := vu (vu V i p (setb (V i p) q v)) i q (setb (V i q) p v)
theorem relV_r {V : qV} {i p q a c : Nat} {v : Bool} (h : a ≠ i) : relV V i p q v a c = V a c := by
  unfold relV
  rw [vu_r h, vu_r h]
theorem relV_lt {V : qV} {i p q n a : Nat} {v : Bool} (hp : p < n) (hq : q < n) (h : ∀ a, a < 8 → V i a < 2 ^ n) (hn : n ≤ 8) (ha : a < 8) : relV V i p q v i a < 2 ^ n := by
  unfold relV
  by_cases e : a = q
  · subst e; rw [vu_s]; exact setb_lt (h a ha) hp v
  · rw [vu_o (fun z => e z.2)]
    by_cases f : a = p
    · subst f; rw [vu_s]; exact setb_lt (h a ha) hq v
    · rw [vu_o (fun z => f z.2)]; exact h a ha
theorem relV_bit {V : qV} {i p q a : Nat} {v : Bool} (hpq : p ≠ q) (hp : p < 8) (hq : q < 8) (h : ∀ a, a < 8 → V i a < 256) (ha : a < 8) (c : Nat) : (relV V i p q v i a).testBit c = if (a = p ∧ c = q) ∨ (a = q ∧ c = p) then v else (V i a).testBit c := by
  unfold relV
  by_cases e : a = q
  · subst e
    rw [vu_s, setb_bit (h a ha) hp]
    by_cases f : c = p
    · rw [if_pos f, if_pos (Or.inr ⟨rfl, f⟩)]
    · rw [if_neg f, if_neg (by rintro (⟨z, -⟩ | ⟨-, z⟩) <;> omega)]
  · rw [vu_o (fun z => e z.2)]
    by_cases f : a = p
    · subst f
      rw [vu_s, setb_bit (h a ha) hq]
      by_cases g : c = q
      · rw [if_pos g, if_pos (Or.inl ⟨rfl, g⟩)]
      · rw [if_neg g, if_neg (by rintro (⟨-, z⟩ | ⟨z, -⟩) <;> omega)]
    · rw [vu_o (fun z => f z.2), if_neg (by rintro (⟨z, -⟩ | ⟨z, -⟩) <;> omega)]
/-- both told: tied (1), shunned (2), neither (0) -/
def bindV (V : qV) (p q : Nat) (a b : Bool) : qV := relV (relV V 4 p q a) 5 p q b
theorem WF.b4 {V : qV} (h : WF V) {i : Nat} (hi : i = 4 ∨ i = 5) : ∀ a, a < 8 → V i a < 2 ^ V 7 0 := fun a ha => by
  rcases hi with rfl | rfl
  · exact (h.2.2.1 a ha).2.2.2.2.1
  · exact (h.2.2.1 a ha).2.2.2.2.2
theorem WF.b8 {V : qV} (h : WF V) {i : Nat} (hi : i = 4 ∨ i = 5) : ∀ a, a < 8 → V i a < 256 := fun a ha => Nat.lt_of_lt_of_le (h.b4 hi a ha) h.all
theorem WF.bind {V : qV} (h : WF V) {p q : Nat} {a b : Bool} (hpq : p ≠ q) (hp : p < V 7 0) (hq : q < V 7 0) (hab : (a && b) = false) : WF (bindV V p q a b) := by
  have hn := h.n
  have e4 : ∀ c, bindV V p q a b 4 c = relV V 4 p q a 4 c := fun c => relV_r (by decide)
  have e5 : ∀ c, bindV V p q a b 5 c = relV V 5 p q b 5 c := fun c => by
    have r : ∀ d, relV V 4 p q a 5 d = V 5 d := fun d => relV_r (by decide)
    unfold bindV
    show relV (relV V 4 p q a) 5 p q b 5 c = relV V 5 p q b 5 c
    unfold relV at r ⊢
    by_cases e : c = q
    · subst e; rw [vu_s, vu_s, r]
    · rw [vu_o (fun z => e z.2), vu_o (fun z => e z.2)]
      by_cases f : c = p
      · subst f; rw [vu_s, vu_s, r]
      · rw [vu_o (fun z => f z.2), vu_o (fun z => f z.2), r]
  have eo : ∀ i c, i ≠ 4 → i ≠ 5 → bindV V p q a b i c = V i c := fun i c h4 h5 => by
    unfold bindV
    rw [relV_r h5, relV_r h4]
  have t4 := fun c (hc : c < 8) => relV_bit (v := a) hpq (by omega) (by omega) (h.b8 (Or.inl rfl)) hc
  have t5 := fun c (hc : c < 8) => relV_bit (v := b) hpq (by omega) (by omega) (h.b8 (Or.inr rfl)) hc
  have l4 := fun c (hc : c < 8) => relV_lt (v := a) hp hq (h.b4 (Or.inl rfl)) hn hc
  have l5 := fun c (hc : c < 8) => relV_lt (v := b) hp hq (h.b4 (Or.inr rfl)) hn hc
  obtain ⟨⟨a1, a2⟩, tt, f, g, s, d, r⟩ := h
  unfold WF
  simp only [e4, e5, eo 7 _ (by decide) (by decide), eo 8 _ (by decide) (by decide), eo 6 _ (by decide) (by decide), eo 0 _ (by decide) (by decide), eo 1 _ (by decide) (by decide), eo 2 _ (by decide) (by decide), eo 3 _ (by decide) (by decide)]
  refine ⟨⟨a1, a2⟩, tt, fun c hc => ?_, fun c h1 h2 => ?_, fun c e hc he => ?_, fun c e hc => ?_, fun c hc => ?_⟩
  · obtain ⟨f0, f1, f2, f3, -⟩ := f c hc
    exact ⟨f0, f1, f2, f3, l4 c hc, l5 c hc⟩
  · have k4 : relV V 4 p q a 4 c = V 4 c := by
      unfold relV
      rw [vu_o (by omega), vu_o (by omega)]
    have k5 : relV V 5 p q b 5 c = V 5 c := by
      unfold relV
      rw [vu_o (by omega), vu_o (by omega)]
    rw [k4, k5]
    exact g c h1 h2
  · rw [t4 c (by omega), t4 e (by omega), t5 c (by omega), t5 e (by omega), (s c e hc he).1, (s c e hc he).2]
    have : ((c = p ∧ e = q) ∨ (c = q ∧ e = p)) ↔ ((e = p ∧ c = q) ∨ (e = q ∧ c = p)) := by omega
    simp only [this, and_self]
  · rw [t4 c (by omega), t5 c (by omega)]
    split
    · exact hab
    · exact d c e hc
  · rw [t4 c (by omega), t5 c (by omega), if_neg (by omega), if_neg (by omega)]
    exact r c hc
section S6
variable {t : qF} {I : qI} {J : qJ} {A : qI} {B : qJ} {V : qV} {Z : qW}
theorem set_I {x p : Nat} (hx : x < 256) (hp : p < 8) : nI x ||| ((1 : Int32) <<< (nI p &&& (31 : Int32))) = nI (setb x p true) := by
  rw [one_shl (by omega), or_nI]; rfl
theorem del_I {x p : Nat} (hx : x < 256) (hp : p < 8) : nI x &&& (((1 : Int32) <<< (nI p &&& (31 : Int32))) ^^^ (-1 : Int32)) = nI (setb x p false) := del_nI hx hp
theorem x_mark {b i : Nat} (hi : i < 6) (hx : XV I b V Z) (hb : ∀ a, a < 8 → V i a < 256) {p q : Nat} (hp : p < 8) (hq : q < 8) (hpq : p ≠ q) (v : Bool) : ∃ I', f_X2_mark (b + 1 + i) (nI p) (nI q) (b2i v) I = some I' ∧ XV I' b (relV V i p q v) Z ∧ ∀ k j, k ≠ b + 1 + i → I' k j = I k j := by
  have ap := hx.a hi hp
  have h1 := hx.up (j := p) (x := nI (setb (V i p) q v)) hi rfl
  have aq : qu I (b + 1 + i) p (nI (setb (V i p) q v)) (b + 1 + i) q = nI (V i q) := by rw [qu_i (Ne.symm hpq)]; exact hx.a hi hq
  have h2 := h1.up (j := q) (x := nI (setb (V i q) p v)) hi rfl
  have np := qin_n hp (by decide)
  have nq := qin_n hq (by decide)
  have cp := clampI (show p < 2 ^ 31 by omega)
  have cq := clampI (show q < 2 ^ 31 by omega)
  have e : vu (vu V i p (setb (V i p) q v)) i q (setb (V i q) p v) = relV V i p q v := rfl
  rw [e] at h2
  refine ⟨_, ?_, h2, fun k j hk => by rw [qu_k hk, qu_k hk]⟩
  unfold f_X2_mark f_X2_mark_25 f_X2_mark_51
  cases v
  · simp only [b2i_f, eq_self, if_true, gd_t np, gd_t nq, lt_e, cp, cq, ap, del_I (hb p hp) hq, aq, del_I (hb q hq) hp]
  · simp only [b2i_t, e10, if_false, gd_t np, gd_t nq, lt_e, cp, cq, ap, set_I (hb p hp) hq, aq, set_I (hb q hq) hp]
theorem x_two (b : Nat) (hx : XV I b V Z) (hW : WF V) {p q : Nat} (hp : p < V 7 0) (hq : q < V 7 0) (hpq : p ≠ q) : f_X2_hasTwo b (nI p) (nI q) I = some 1 := by
  have hn := hW.n
  have k : ∀ p : Nat, p < V 7 0 → f_X2_hasParty b (nI p) I = some 1 := fun p hp => by
    unfold f_X2_hasParty
    rw [within_s, bd_s, gd_b, hx.2.2.1.1, decide_eq_true]
    · rfl
    · refine ⟨nI_pos' (by omega), ?_⟩
      rw [sub1_nI (by omega)]
      exact (nle_i (by omega) (by omega)).mpr (by omega)
  unfold f_X2_hasTwo
  rw [k p hp, k q hq, bd_s, bd_s, if_neg (by decide), if_neg (by decide), if_neg (fun z => hpq ((nI_inj (by omega) (by omega)).mp z))]
theorem x_relate (b : Nat) (hx : XV I b V Z) (hW : WF V) {p q r : Nat} (hp : p < V 7 0) (hq : q < V 7 0) (hpq : p ≠ q) (hr : r < 3) : ∃ I', f_X2_relate b (nI p) (nI q) (nI r) I = some I' ∧ XV I' b (bindV V p q (decide (r = 1)) (decide (r = 2))) Z ∧ WF (bindV V p q (decide (r = 1)) (decide (r = 2))) ∧ ∀ k j, (k < b + 5 ∨ b + 6 < k) → I' k j = I k j := by
  have hn := hW.n
  have hp8 : p < 8 := by omega
  have hq8 : q < 8 := by omega
  obtain ⟨I1, e1, x1, f1⟩ := x_mark (i := 4) (by decide) hx (hW.b8 (Or.inl rfl)) hp8 hq8 hpq (decide (r = 1))
  obtain ⟨I2, e2, x2, f2⟩ := x_mark (i := 5) (by decide) x1 (fun a ha => by rw [relV_r (by decide)]; exact hW.b8 (Or.inr rfl) a ha) hp8 hq8 hpq (decide (r = 2))
  refine ⟨I2, ?_, x2, hW.bind hpq hp hq (by rcases (show r = 0 ∨ r = 1 ∨ r = 2 by omega) with rfl | rfl | rfl <;> rfl), fun k j hk => by rw [f2 k j (by omega), f1 k j (by omega)]⟩
  have e1 : f_X2_mark (b + 5) (nI p) (nI q) (b2i (decide (r = 1))) I = some I1 := e1
  have e2 : f_X2_mark (b + 6) (nI p) (nI q) (b2i (decide (r = 2))) I1 = some I2 := e2
  unfold f_X2_relate f_X2_relate_25 f_X2_relate_44
  rw [x_two b hx hW hp hq hpq, bd_s, if_neg (by decide)]
  rcases (show r = 0 ∨ r = 1 ∨ r = 2 by omega) with rfl | rfl | rfl
  · rw [show b2i (decide (0 = 1)) = 0 from rfl] at e1
    rw [show b2i (decide (0 = 2)) = 0 from rfl] at e2
    simp only [n0i, e01, e02, if_false, e1, bd_s, e2]
  · rw [show b2i (decide (1 = 1)) = 1 from rfl] at e1
    rw [show b2i (decide (1 = 2)) = 0 from rfl] at e2
    simp only [n1i, eq_self, if_true, e12, if_false, e1, bd_s, e2]
  · rw [show b2i (decide (2 = 1)) = 0 from rfl] at e1
    rw [show b2i (decide (2 = 2)) = 1 from rfl] at e2
    simp only [n2i, eq_self, if_true, e21, if_false, e1, bd_s, e2]
theorem m_binds (hm : MV A 0 V Z) (hW : WF V) {p q r : Nat} (hp : p < V 7 0) (hq : q < V 7 0) (hpq : p ≠ q) (hr : r < 3) : ∃ A', f_X9_binds (nI p) (nI q) (nI r) A = some A' ∧ MV A' 0 (bindV V p q (decide (r = 1)) (decide (r = 2))) Z ∧ ∀ k j, (k ≠ 21 ∧ k ≠ 22) → A' k j = A k j := by
  have hn := hW.n
  have hp8 : p < 8 := by omega
  have hq8 : q < 8 := by omega
  have np := qin_n hp8 (by decide)
  have nq := qin_n hq8 (by decide)
  have cp := clampI (show p < 2 ^ 31 by omega)
  have cq := clampI (show q < 2 ^ 31 by omega)
  have b4 := hW.b8 (i := 4) (Or.inl rfl)
  have b5 := hW.b8 (i := 5) (Or.inr rfl)
  have key : ∀ (v w : Bool), MV (qu (qu (qu (qu A 21 p (nI (setb (V 4 p) q v))) 21 q (nI (setb (V 4 q) p v))) 22 p (nI (setb (V 5 p) q w))) 22 q (nI (setb (V 5 q) p w))) 0 (bindV V p q v w) Z := fun v w => by
    have h1 := hm.up (i := 4) (j := p) (x := nI (setb (V 4 p) q v)) (by decide) rfl
    have h2 := h1.up (i := 4) (j := q) (x := nI (setb (V 4 q) p v)) (by decide) rfl
    have h3 := h2.up (i := 5) (j := p) (x := nI (setb (V 5 p) q w)) (by decide) rfl
    have h4 := h3.up (i := 5) (j := q) (x := nI (setb (V 5 q) p w)) (by decide) rfl
    have e : bindV V p q v w = vu (vu (vu (vu V 4 p (setb (V 4 p) q v)) 4 q (setb (V 4 q) p v)) 5 p (setb (V 5 p) q w)) 5 q (setb (V 5 q) p w) := by
      unfold bindV
      rw [relV, relV_r (by decide), relV_r (by decide)]
      rfl
    rw [e]
    exact h4
  have fr : ∀ (x1 x2 x3 x4 : Int32) (k j : Nat), (k ≠ 21 ∧ k ≠ 22) → qu (qu (qu (qu A 21 p x1) 21 q x2) 22 p x3) 22 q x4 k j = A k j := fun x1 x2 x3 x4 k j hk => by rw [qu_k hk.2, qu_k hk.2, qu_k hk.1, qu_k hk.1]
  have a4p : A 21 p = nI (V 4 p) := hm.a (i := 4) (by decide) hp8
  have a4q : ∀ x, qu A 21 p x 21 q = nI (V 4 q) := fun x => by rw [qu_i (Ne.symm hpq)]; exact hm.a (i := 4) (by decide) hq8
  have a5p : ∀ x y, qu (qu A 21 p x) 21 q y 22 p = nI (V 5 p) := fun x y => by rw [qu_k (by decide), qu_k (by decide)]; exact hm.a (i := 5) (by decide) hp8
  have a5q : ∀ x y z, qu (qu (qu A 21 p x) 21 q y) 22 p z 22 q = nI (V 5 q) := fun x y z => by rw [qu_i (Ne.symm hpq), qu_k (by decide), qu_k (by decide)]; exact hm.a (i := 5) (by decide) hq8
  unfold f_X9_binds f_X9_binds_35 f_X9_binds_71 f_X9_binds_107 f_X9_binds_143
  rcases (show r = 0 ∨ r = 1 ∨ r = 2 by omega) with rfl | rfl | rfl
  · refine ⟨_, ?_, key false false, fr _ _ _ _⟩
    simp only [n0i, e01, e02, if_false, gd_t np, gd_t nq, lt_e, cp, cq, a4p, a4q, a5p, a5q, del_I (b4 p hp8) hq8, del_I (b4 q hq8) hp8, del_I (b5 p hp8) hq8, del_I (b5 q hq8) hp8]
  · refine ⟨_, ?_, key true false, fr _ _ _ _⟩
    simp only [n1i, eq_self, if_true, e12, if_false, gd_t np, gd_t nq, lt_e, cp, cq, a4p, a4q, a5p, a5q, set_I (b4 p hp8) hq8, set_I (b4 q hq8) hp8, del_I (b5 p hp8) hq8, del_I (b5 q hq8) hp8]
  · refine ⟨_, ?_, key false true, fr _ _ _ _⟩
    simp only [n2i, eq_self, if_true, e21, if_false, gd_t np, gd_t nq, lt_e, cp, cq, a4p, a4q, a5p, a5q, del_I (b4 p hp8) hq8, del_I (b4 q hq8) hp8, set_I (b5 p hp8) hq8, set_I (b5 q hq8) hp8]
theorem s_bind (h : Rel t I J A B) (p o r : Int32) : Sim t J B (f_X8_bind p o r I) (f_X9_bind p o r A) := by
  obtain ⟨V, Z, ⟨hx, hm, hW⟩, -⟩ := id h
  have hn := hW.n
  refine sim_two h hx hm hW p o (sim_bad h) (fun a b ha ha8 hb hb8 hab ea eb => ?_)
  subst ea
  subst eb
  refine sim_in r 0 2 (a := 0) (b := 2) rfl rfl (by decide) (by decide) rfl rfl (fun g _ hg e => ?_) (sim_bad h)
  subst e
  obtain ⟨I', e1, x1, w1, f1⟩ := x_relate 1 hx hW ha hb hab (show g < 3 by omega)
  obtain ⟨A', e2, x2, f2⟩ := m_binds hm hW ha hb hab (show g < 3 by omega)
  have q8 := qin_n ha8 (by decide)
  have ca := clampI (show a < 2 ^ 31 by omega)
  have b4 := hW.b8 (i := 4) (Or.inl rfl) a ha8
  have b5 := hW.b8 (i := 5) (Or.inr rfl) a ha8
  have x4 : I (1 + 5) a = nI (V 4 a) := hx.a (i := 4) (by decide) ha8
  have x5 : I (1 + 6) a = nI (V 5 a) := hx.a (i := 5) (by decide) ha8
  have m4 : A 21 a = nI (V 4 a) := hm.a (i := 4) (by decide) ha8
  have m5 : A 22 a = nI (V 5 a) := hm.a (i := 5) (by decide) ha8
  have r1 : f_X2_relation 1 (nI a) (nI b) I = some (if (V 4 a).testBit b then 1 else if (V 5 a).testBit b then 2 else 0) := by
    unfold f_X2_relation
    rw [x_two 1 hx hW ha hb hab, bd_s, if_neg (by decide), gd_t q8, gd_t q8, ca, x4, x5, f_has (by omega) (by omega), f_has (by omega) (by omega), bd_b, bd_b, if_b, if_b]
    cases (V 4 a).testBit b <;> cases (V 5 a).testBit b <;> rfl
  have r2 : f_X9_boundOf (nI a) (nI b) A = some (if (V 4 a).testBit b then 1 else if (V 5 a).testBit b then 2 else 0) := by
    unfold f_X9_boundOf
    rw [gd_t q8, gd_t q8, ca, m4, m5, if_d (has_nI (by omega) (by omega)), if_d (has_nI (by omega) (by omega))]
    cases (V 4 a).testBit b <;> cases (V 5 a).testBit b <;> rfl
  rw [r1, r2, bd_s, bd_s, e1, e2, bd_s, bd_s]
  exact ⟨_, _, _, rfl, rfl, h.bank hx hW ⟨x1, x2, w1⟩ (Nat.le_of_eq (by unfold bindV; rw [relV_r (by decide), relV_r (by decide)])) (fun k j q => f1 k j (by omega)) (fun k j q => f2 k j (by omega)) FJ.rf⟩
/-- one party more -/
def addV (V : qV) (a b c d : Nat) : qV := vu (vu (vu (vu (vu V 0 (V 7 0) a) 1 (V 7 0) b) 2 (V 7 0) c) 3 (V 7 0) d) 7 0 (V 7 0 + 1)
theorem addV_hi {V : qV} {a b c d i j : Nat} (h : i = 4 ∨ i = 5 ∨ i = 6 ∨ i = 8) : addV V a b c d i j = V i j := by
  unfold addV
  rw [vu_r (by omega), vu_r (by omega), vu_r (by omega), vu_r (by omega), vu_r (by omega)]
theorem WF.add {V : qV} (h : WF V) {a b c d : Nat} (hn : V 7 0 < 8) (ha : a < 6) (hb : b ≤ 9) (hc : c ≤ 40) (hd : d ≤ 99) : WF (addV V a b c d) := by
  have h1 := (((h.small (i := 0) (p := V 7 0) (v := a) (by decide) (by omega)).small (i := 1) (p := V 7 0) (v := b) (by decide) (by omega)).small (i := 2) (p := V 7 0) (v := c) (by decide) (by omega)).small (i := 3) (p := V 7 0) (v := d) (by decide) (by omega)
  obtain ⟨⟨-, a2⟩, tt, -, g, s, dd, r⟩ := h
  obtain ⟨-, -, f, -⟩ := h1
  have lo : ∀ i j, i < 4 → addV V a b c d i j = vu (vu (vu (vu V 0 (V 7 0) a) 1 (V 7 0) b) 2 (V 7 0) c) 3 (V 7 0) d i j := fun i j hi => vu_r (by omega)
  have hi : ∀ i j, i = 4 ∨ i = 5 → vu (vu (vu (vu V 0 (V 7 0) a) 1 (V 7 0) b) 2 (V 7 0) c) 3 (V 7 0) d i j = V i j := fun i j hi => by rw [vu_r (by omega), vu_r (by omega), vu_r (by omega), vu_r (by omega)]
  have h7 : addV V a b c d 7 0 = V 7 0 + 1 := vu_s
  have h70 : vu (vu (vu (vu V 0 (V 7 0) a) 1 (V 7 0) b) 2 (V 7 0) c) 3 (V 7 0) d 7 0 = V 7 0 := by rw [vu_r (by omega), vu_r (by omega), vu_r (by omega), vu_r (by omega)]
  have p1 : 2 ^ V 7 0 ≤ 2 ^ (V 7 0 + 1) := Nat.pow_le_pow_right (by decide) (by omega)
  have e4 : ∀ j, addV V a b c d 4 j = V 4 j := fun j => addV_hi (by omega)
  have e5 : ∀ j, addV V a b c d 5 j = V 5 j := fun j => addV_hi (by omega)
  have e6 : ∀ j, addV V a b c d 6 j = V 6 j := fun j => addV_hi (by omega)
  have e8 : ∀ j, addV V a b c d 8 j = V 8 j := fun j => addV_hi (by omega)
  have z := g (V 7 0) (Nat.le_refl _) hn
  have out : ∀ i p, (i = 4 ∨ i = 5) → p < 8 → (V i p).testBit (V 7 0) = false := fun i p hi2 hp => by
    have := f p hp
    rw [hi 4 p (Or.inl rfl), hi 5 p (Or.inr rfl), h70] at this
    rcases hi2 with rfl | rfl
    · exact Nat.testBit_lt_two_pow this.2.2.2.2.1
    · exact Nat.testBit_lt_two_pow this.2.2.2.2.2
  unfold WF
  simp only [h7, e4, e5, e6, e8, lo 0 _ (by decide), lo 1 _ (by decide), lo 2 _ (by decide), lo 3 _ (by decide)]
  refine ⟨⟨by omega, by omega⟩, tt, fun p hp => ?_, fun p h1 h2 => g p (by omega) h2, fun p q hp hq => ?_, fun p q hp => ?_, fun p hp => ?_⟩
  · obtain ⟨f0, f1, f2, f3, f4, f5⟩ := f p hp
    rw [hi 4 p (Or.inl rfl), h70] at f4
    rw [hi 5 p (Or.inr rfl), h70] at f5
    exact ⟨f0, f1, f2, f3, by omega, by omega⟩
  · by_cases x : p = V 7 0
    · subst x
      rw [z.1, z.2, out 4 q (Or.inl rfl) (by omega), out 5 q (Or.inr rfl) (by omega), Nat.zero_testBit]
      exact ⟨rfl, rfl⟩
    · by_cases y : q = V 7 0
      · subst y
        rw [z.1, z.2, out 4 p (Or.inl rfl) (by omega), out 5 p (Or.inr rfl) (by omega), Nat.zero_testBit]
        exact ⟨rfl, rfl⟩
      · exact s p q (by omega) (by omega)
  · by_cases x : p = V 7 0
    · subst x
      rw [z.1, Nat.zero_testBit]; rfl
    · exact dd p q (by omega)
  · by_cases x : p = V 7 0
    · subst x
      rw [z.1, z.2, Nat.zero_testBit]; exact ⟨rfl, rfl⟩
    · exact r p (by omega)
theorem x_room (b : Nat) (hx : XV I b V Z) (hW : WF V) : f_X2_hasRoom b I = some (b2i (decide (V 7 0 < 8))) := by
  have hn := hW.n
  unfold f_X2_hasRoom
  rw [hx.2.2.1.1, if_d (show ((8 : Int32) ≤ nI (V 7 0)) ↔ ¬ V 7 0 < 8 from (nle_i (a := 8) (by decide) (by omega)).trans (by omega))]
  by_cases c : V 7 0 < 8
  · rw [if_neg (fun z => z c), decide_eq_true c]; rfl
  · rw [if_pos c, decide_eq_false c]; rfl
theorem x_add (b : Nat) (hx : XV I b V Z) (hW : WF V) (hn : V 7 0 < 8) {a c d e : Nat} : ∃ I', f_X2_add b (nI a) (nI c) (nI d) (nI e) I = some (nI (V 7 0), I') ∧ XV I' b (addV V a c d e) Z ∧ ∀ k j, (k < b ∨ b + 4 < k) → I' k j = I k j := by
  have h1 := hx.up (i := 0) (j := V 7 0) (x := nI a) (by decide) rfl
  have h2 := h1.up (i := 1) (j := V 7 0) (x := nI c) (by decide) rfl
  have h3 := h2.up (i := 2) (j := V 7 0) (x := nI d) (by decide) rfl
  have h4 := h3.up (i := 3) (j := V 7 0) (x := nI e) (by decide) rfl
  have s7 : qu (qu (qu (qu I (b + 1) (V 7 0) (nI a)) (b + 2) (V 7 0) (nI c)) (b + 3) (V 7 0) (nI d)) (b + 4) (V 7 0) (nI e) b 7 = nI (V 7 0) := by
    rw [qu_k (by omega), qu_k (by omega), qu_k (by omega), qu_k (by omega)]; exact hx.2.2.1.1
  have h5 := h4.n (x := nI (V 7 0) + 1) (v := V 7 0 + 1) (nI_1 _)
  refine ⟨_, ?_, h5, fun k j hk => by rw [qu_k (by omega), qu_k (by omega), qu_k (by omega), qu_k (by omega), qu_k (by omega)]⟩
  have q8 := qin_n hn (by decide)
  unfold f_X2_add
  rw [x_room b hx hW, decide_eq_true hn, bd_b, if_b, if_pos rfl, hx.2.2.1.1]
  simp only [gd_t q8, lt_e, clampI (show V 7 0 < 2 ^ 31 by omega)]
  rw [s7]
  try rfl
theorem m_add (hm : MV A 0 V Z) (hW : WF V) (hn : V 7 0 < 8) {a c d e : Nat} : ∃ A', f_X9_addParty (nI a) (nI c) (nI d) (nI e) A = some A' ∧ A' 0 17 = nI (V 7 0 + 1) ∧ MV A' 0 (addV V a c d e) Z ∧ ∀ k j, (k ≠ 0 ∨ j ≠ 17) → (k < 17 ∨ 20 < k) → A' k j = A k j := by
  have h1 := hm.up (i := 0) (j := V 7 0) (x := nI a) (by decide) rfl
  have h2 := h1.up (i := 1) (j := V 7 0) (x := nI c) (by decide) rfl
  have h3 := h2.up (i := 2) (j := V 7 0) (x := nI d) (by decide) rfl
  have h4 := h3.up (i := 3) (j := V 7 0) (x := nI e) (by decide) rfl
  have h5 := h4.n (x := nI (V 7 0) + 1) (v := V 7 0 + 1) (nI_1 _)
  have q8 := qin_n hn (by decide)
  have z := hW.2.2.2.1 (V 7 0) (Nat.le_refl _) hn
  have s7 : A 0 17 = nI (V 7 0) := hm.2.2.1.1
  have s8 : A 0 18 = nI (V 8 0) := hm.2.2.1.2
  have s21 : A 21 (V 7 0) = 0 := by
    have := hm.a (i := 4) (by decide) hn
    rw [z.1] at this
    exact this
  have s22 : A 22 (V 7 0) = 0 := by
    have := hm.a (i := 5) (by decide) hn
    rw [z.2] at this
    exact this
  have qs : ∀ (X : qI) (k i : Nat) (v : Int32), X k i = v → qu X k i v = X := fun X k i v hv => by rw [← hv]; exact qu_id X k i
  have k0 : ∀ (X : qI) (k i j : Nat) (v : Int32), 17 ≤ k → qu X k i v 0 j = X 0 j := fun X k i j v hk => by rw [qu_k (by omega)]
  have hov : nI (V 8 0) &&& (((1 : Int32) <<< (nI (V 7 0) &&& (31 : Int32))) ^^^ (-1 : Int32)) = nI (V 8 0) := by
    rw [del_I (ov_lt hW) hn]
    congr 1
    apply Nat.eq_of_testBit_eq
    intro i
    rw [setb_bit (ov_lt hW) hn]
    split
    · rename_i e; subst e; exact (Nat.testBit_lt_two_pow hW.1.2).symm
    · rfl
  refine ⟨_, ?_, ?_, h5, fun k j hk h2 => ?_⟩
  · unfold f_X9_addParty
    simp only [lt_e, k0 _ _ _ _ _ (show 17 ≤ 17 by decide), k0 _ _ _ _ _ (show 17 ≤ 18 by decide), k0 _ _ _ _ _ (show 17 ≤ 19 by decide), k0 _ _ _ _ _ (show 17 ≤ 20 by decide), k0 _ _ _ _ _ (show 17 ≤ 21 by decide), k0 _ _ _ _ _ (show 17 ≤ 22 by decide), s7, s8, gd_t q8, clampI (show V 7 0 < 2 ^ 31 by omega), hov]
    rw [qs _ 21 (V 7 0) 0 (by rw [qu_k (by decide), qu_k (by decide), qu_k (by decide), qu_k (by decide)]; exact s21), qs _ 22 (V 7 0) 0 (by rw [qu_k (by decide), qu_k (by decide), qu_k (by decide), qu_k (by decide)]; exact s22), qs _ 0 18 (nI (V 8 0)) (by rw [qu_k (by decide), qu_k (by decide), qu_k (by decide), qu_k (by decide)]; exact s8)]
    rw [qu_k (show (0 : Nat) ≠ 20 by decide), qu_k (show (0 : Nat) ≠ 19 by decide), qu_k (show (0 : Nat) ≠ 18 by decide), qu_k (show (0 : Nat) ≠ 17 by decide), s7]
  · rw [qu_s, nI_1]
  · rw [qu_at]
    by_cases e : k = 0
    · subst e
      rw [if_pos rfl, if_neg (by omega), qu_k (by omega), qu_k (by omega), qu_k (by omega), qu_k (by omega)]
    · rw [if_neg e, qu_k (by omega), qu_k (by omega), qu_k (by omega), qu_k (by omega)]
theorem s_party (h : Rel t I J A B) (p q r s : Int32) : Sim t J B (f_X8_party p q r s I) (f_X9_party p q r s A) := by
  obtain ⟨V, Z, ⟨hx, hm, hW⟩, -⟩ := id h
  have hn := hW.n
  unfold f_X8_party f_X9_party
  rw [isKind_s]
  refine sim_in p 0 5 (a := 0) (b := 5) rfl rfl (by decide) (by decide) rfl rfl (fun a _ ha e => ?_) (sim_bad h)
  subst e
  refine sim_in q 0 9 (a := 0) (b := 9) rfl rfl (by decide) (by decide) rfl rfl (fun b _ hb e => ?_) (sim_bad h)
  subst e
  refine sim_in r 1 40 (a := 1) (b := 40) rfl rfl (by decide) (by decide) rfl rfl (fun c _ hc e => ?_) (sim_bad h)
  subst e
  refine sim_in s 0 99 (a := 0) (b := 99) rfl rfl (by decide) (by decide) rfl rfl (fun d _ hd e => ?_) (sim_bad h)
  subst e
  rw [x_room 1 hx hW, bd_b, if_b, hm.2.2.1.1, if_d (show nI (V 7 0) = (8 : Int32) ↔ V 7 0 = 8 from nI_inj (b := 8) (by omega) (by decide))]
  by_cases c8 : V 7 0 < 8
  · rw [decide_eq_true c8, if_pos rfl, if_neg (by omega)]
    obtain ⟨I', e1, x1, f1⟩ := x_add 1 hx hW c8 (a := a) (c := b) (d := c) (e := d)
    obtain ⟨A', e2, y2, x2, f2⟩ := m_add hm hW c8 (a := a) (c := b) (d := c) (e := d)
    rw [e1, e2, bd2_s, bd_s, y2, sub1_nI (by omega), Nat.add_sub_cancel]
    exact ⟨_, _, _, rfl, rfl, h.bank hx hW ⟨x1, x2, hW.add c8 (by omega) hb hc hd⟩ (by show V 7 0 ≤ vu _ 7 0 (V 7 0 + 1) 7 0; rw [vu_s]; omega) (fun k j q => f1 k j (by omega)) (fun k j q => f2 k j (by omega) (by omega)) FJ.rf⟩
  · rw [decide_eq_false c8, if_neg (by decide), if_pos (by omega)]
    exact sim_full h
end S6
