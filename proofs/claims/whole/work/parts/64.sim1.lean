/-! Pure: single calls, side by side (1). -/
section S1
variable {t : qF} {I : qI} {J : qJ} {A : qI} {B : qJ} {V : qV} {Z : qW}
theorem pow_sub {n : Nat} (hn : n ≤ 8) : ((1 : Int32) <<< (nI n &&& (31 : Int32))) - (1 : Int32) = nI (2 ^ n - 1) := by
  rw [one_shl (by omega), sub1_nI (Nat.one_le_two_pow)]
theorem x_every (hV : XV I 1 V Z) (hW : WF V) : f_X2_everybody 1 I = some (nI (2 ^ V 7 0 - 1)) := by
  unfold f_X2_everybody
  rw [hV.2.2.1.1, pow_sub hW.n]
theorem x_grp (hV : XV I 1 V Z) (hW : WF V) (p : Int32) : f_X2_hasGroup 1 p I = some (b2i (decide (0 ≤ p ∧ p ≤ nI (2 ^ V 7 0 - 1)))) := by
  unfold f_X2_hasGroup
  rw [x_every hV hW, bd_s, within_s, bd_s, gd_b]
theorem m_grp (hV : MV A 0 V Z) (hW : WF V) (p : Int32) : f_X9_isGroup p.toInt64 A = some (b2i (decide (0 ≤ p ∧ p ≤ nI (2 ^ V 7 0 - 1)))) := by
  unfold f_X9_isGroup
  rw [in_i (b := 0) (B := 0) (c := ((1 : Int32) <<< ((A 0 17) &&& (31 : Int32))) - (1 : Int32)) rfl rfl, bd_s, gd_b, hV.2.2.1.1, pow_sub hW.n]
theorem x_pty (hV : XV I 1 V Z) (p : Int32) : f_X2_hasParty 1 p I = some (b2i (decide (0 ≤ p ∧ p ≤ nI (V 7 0) - 1))) := by
  unfold f_X2_hasParty
  rw [within_s, bd_s, gd_b, hV.2.2.1.1]
theorem m_pty (hV : MV A 0 V Z) (p : Int32) : f_X9_isParty p A = some (b2i (decide (0 ≤ p ∧ p ≤ nI (V 7 0) - 1))) := by
  unfold f_X9_isParty
  rw [in_i (b := 0) (B := 0) (c := (A 0 17) - (1 : Int32)) rfl rfl, bd_s, gd_b, hV.2.2.1.1]
/-- a told group is a set of those there -/
theorem grp_of (hW : WF V) {p : Int32} (h : 0 ≤ p ∧ p ≤ nI (2 ^ V 7 0 - 1)) : ∃ g, g < 2 ^ V 7 0 ∧ g < 256 ∧ p = nI g := by
  have ha := hW.all
  have h1 : 1 ≤ 2 ^ V 7 0 := Nat.one_le_two_pow
  obtain ⟨k, -, hk, rfl⟩ := nI_btw (a := 0) (by omega) h (by decide)
  exact ⟨k, by omega, by omega, rfl⟩
theorem sub1_pty : ∀ n, n ≤ 8 → ∀ p : Int32, 0 ≤ p ∧ p ≤ nI n - 1 → ∃ k, k < n ∧ p = nI k := by
  intro n hn p h
  cases n with
  | zero =>
    exfalso
    have h1 : (0 : Int32) ≤ nI 0 - 1 := Int32.le_trans h.1 h.2
    exact absurd h1 (by decide)
  | succ n =>
    rw [sub1_nI (by omega)] at h
    obtain ⟨k, -, hk, rfl⟩ := nI_btw (a := 0) (by omega) h (by decide)
    exact ⟨k, by omega, rfl⟩
theorem pty_of (hW : WF V) {p : Int32} (h : 0 ≤ p ∧ p ≤ nI (V 7 0) - 1) : ∃ k, k < V 7 0 ∧ k < 8 ∧ p = nI k := by
  obtain ⟨k, hk, e⟩ := sub1_pty _ hW.n p h
  exact ⟨k, hk, by have := hW.n; omega, e⟩
theorem sim_same (h : Rel t I J A B) (r : Int32) : Sim t J B (some (r, I)) (some (r, A)) := ⟨r, I, A, rfl, rfl, h⟩
theorem oI_m1 {o : Option Nat} (h : ∀ k, o = some k → k < 2 ^ 31) : oI o = -1 ↔ o = none := by
  cases o with
  | none => exact ⟨fun _ => rfl, fun _ => rfl⟩
  | some k =>
    refine ⟨fun q => ?_, fun q => by cases q⟩
    exfalso
    have hk := h k rfl
    have h1 : ¬ nI k < 0 := nI_pos hk
    have h2 : nI k = -1 := q
    rw [h2] at h1
    exact h1 (by decide)
theorem sLH_le {V : qV} {hd : Nat} : ∀ {j k h : Nat}, sLH V hd j k = some h → k ≤ h ∧ h < k + j
  | 0, k, h, q => by cases q
  | j + 1, k, h, q => by
    unfold sLH at q
    split at q
    · cases q; omega
    · have := sLH_le q
      omega
theorem sHire_le {V : qV} {g ov m h : Nat} (q : sHire V g ov m = some h) : h ≤ m := by
  unfold sHire at q
  split at q
  · have := sLH_le q
    omega
  · cases q
theorem hire_m1 {V : qV} {g ov m : Nat} (hm : m ≤ 100) : oI (sHire V g ov m) = -1 ↔ sHire V g ov m = none := oI_m1 fun k q => by have := sHire_le q; omega
theorem sim_grp (hx : XV I 1 V Z) (hm : MV A 0 V Z) (hW : WF V) (p : Int32) {x1 x2 m1 m2 : Option (Int32 × qI)} (h2 : ∀ g, g < 2 ^ V 7 0 → g < 256 → p = nI g → Sim t J B x2 m2) (h1 : Sim t J B x1 m1) :
    Sim t J B (bd (f_X2_hasGroup 1 p I) fun v1 => if v1 = 0 then x1 else x2) (bd (f_X9_isGroup p.toInt64 A) fun v1 => if v1 = 0 then m1 else m2) := by
  rw [x_grp hx hW, m_grp hm hW, bd_b, bd_b, if_b, if_b]
  by_cases c : 0 ≤ p ∧ p ≤ nI (2 ^ V 7 0 - 1)
  · rw [decide_eq_true c, if_pos rfl, if_pos rfl]
    obtain ⟨g, hg, hg2, e⟩ := grp_of hW c
    exact h2 g hg hg2 e
  · rw [decide_eq_false c, if_neg (by decide), if_neg (by decide)]
    exact h1
theorem sim_pty (hx : XV I 1 V Z) (hm : MV A 0 V Z) (hW : WF V) (p : Int32) {x1 x2 m1 m2 : Option (Int32 × qI)} (h2 : ∀ k, k < V 7 0 → k < 8 → p = nI k → Sim t J B x2 m2) (h1 : Sim t J B x1 m1) :
    Sim t J B (bd (f_X2_hasParty 1 p I) fun v1 => if v1 = 0 then x1 else x2) (bd (f_X9_isParty p A) fun v1 => if v1 = 0 then m1 else m2) := by
  rw [x_pty hx, m_pty hm, bd_b, bd_b, if_b, if_b]
  by_cases c : 0 ≤ p ∧ p ≤ nI (V 7 0) - 1
  · rw [decide_eq_true c, if_pos rfl, if_pos rfl]
    obtain ⟨g, hg, hg2, e⟩ := pty_of hW c
    exact h2 g hg hg2 e
  · rw [decide_eq_false c, if_neg (by decide), if_neg (by decide)]
    exact h1
/-- a number between two told ones -/
theorem sim_in (p lo hi : Int32) {a b : Nat} (ha : lo = nI a) (hb : hi = nI b) (ha2 : a < 2 ^ 31) (hb2 : b < 2 ^ 31) {L0 L1 : Int64} (e0 : L0 = lo.toInt64) (e1 : L1 = hi.toInt64) {x1 x2 m1 m2 : Option (Int32 × qI)} (h2 : ∀ k, a ≤ k → k ≤ b → p = nI k → Sim t J B x2 m2) (h1 : Sim t J B x1 m1) :
    Sim t J B (bd (f_X8_within p lo hi) fun v1 => if v1 = 0 then x1 else x2) (bd (f_X9_in p.toInt64 L0 L1) fun v1 => if v1 = 0 then m1 else m2) := by
  rw [within_s, in_i e0 e1, bd_b, bd_b, if_b, if_b]
  by_cases c : lo ≤ p ∧ p ≤ hi
  · rw [decide_eq_true c, if_pos rfl, if_pos rfl]
    subst ha; subst hb
    obtain ⟨k, q1, q2, e⟩ := nI_btw hb2 c ha2
    exact h2 k q1 q2 e
  · rw [decide_eq_false c, if_neg (by decide), if_neg (by decide)]
    exact h1
theorem sim_bad (h : Rel t I J A B) : Sim t J B (bd2 (f_X8_refuse (-1002 : Int32) I) fun v I => some (v, I)) (bd2 (f_X9_refuse (-1002 : Int32) A) fun v I => some (v, I)) := bd2_id (sim_ref h (c := 0) (by decide) (by decide))
theorem sim_stuck (h : Rel t I J A B) : Sim t J B (bd2 (f_X8_refuse (-1005 : Int32) I) fun v I => some (v, I)) (bd2 (f_X9_refuse (-1005 : Int32) A) fun v I => some (v, I)) := bd2_id (sim_ref h (c := 3) (by decide) (by decide))
theorem sim_full (h : Rel t I J A B) : Sim t J B (bd2 (f_X8_refuse (-1006 : Int32) I) fun v I => some (v, I)) (bd2 (f_X9_refuse (-1006 : Int32) A) fun v I => some (v, I)) := bd2_id (sim_ref h (c := 4) (by decide) (by decide))
theorem sim_other (h : Rel t I J A B) : Sim t J B (bd2 (f_X8_refuse (-1003 : Int32) I) fun v I => some (v, I)) (bd2 (f_X9_refuse (-1003 : Int32) A) fun v I => some (v, I)) := bd2_id (sim_ref h (c := 1) (by decide) (by decide))
theorem sim_nothing (h : Rel t I J A B) : Sim t J B (bd2 (f_X8_refuse (-1004 : Int32) I) fun v I => some (v, I)) (bd2 (f_X9_refuse (-1004 : Int32) A) fun v I => some (v, I)) := bd2_id (sim_ref h (c := 2) (by decide) (by decide))
theorem s_heads (h : Rel t I J A B) (p : Int32) : Sim t J B (f_X8_heads p I) (f_X9_heads p A) := by
  obtain ⟨V, Z, ⟨hx, hm, hW⟩, -⟩ := id h
  refine sim_grp hx hm hW p (fun g hg hg2 e => ?_) (sim_bad h)
  rw [e, x_HT hx hW (by omega), m_HT hm hW (by omega)]
  exact sim_same h _
theorem s_hire (h : Rel t I J A B) (p : Int32) : Sim t J B (f_X8_hire p I) (f_X9_hire p A) := by
  obtain ⟨V, Z, ⟨hx, hm, hW⟩, -⟩ := id h
  refine sim_grp hx hm hW p (fun g hg hg2 e => ?_) (sim_bad h)
  rw [e, x_hireNow hx hW (by omega), m_hireOf hm hW (by omega)]
  exact sim_same h _
theorem s_lacks (h : Rel t I J A B) (p : Int32) : Sim t J B (f_X8_lacks p I) (f_X9_lacks p A) := by
  obtain ⟨V, Z, ⟨hx, hm, hW⟩, -⟩ := id h
  refine sim_grp hx hm hW p (fun g hg hg2 e => ?_) (sim_bad h)
  have ho := ov_lt hW
  have hl := sHT_le hW g
  rw [e, hx.2.2.1.2, x_ag hx hW (by omega) (by omega), show (99 : Int32) = nI 99 from rfl, m_hireUpTo hm hW (by omega) (by omega) hm.2.2.1.2 (by omega), bd_b, if_b, sHire]
  by_cases c : sAg V g (V 8 0) = true
  · rw [if_pos c, if_pos c, x_HT hx hW (by omega), bd_s, x_LH hx hW (by omega) (by omega)]
    exact sim_same h _
  · rw [if_neg c, if_neg c]
    exact sim_same h _
theorem s_fare (h : Rel t I J A B) (p : Int32) : Sim t J B (f_X8_fare p I) (f_X9_fare p A) := by
  obtain ⟨V, Z, ⟨hx, hm, hW⟩, -⟩ := id h
  refine sim_grp hx hm hW p (fun g hg hg2 e => ?_) (sim_bad h)
  have e4 : I (1 + 7) 4 = nI (V 6 4) := hx.2.1 4 (by decide)
  have f4 : A 0 13 = nI (V 6 4) := hm.2.1 4 (by decide)
  rw [e, x_hireNow hx hW (by omega), m_hireOf hm hW (by omega), bd_s, bd_s, e4, f4]
  split
  · exact sim_same h _
  · exact sim_same h _
theorem s_spare (h : Rel t I J A B) (p : Int32) : Sim t J B (f_X8_spare p I) (f_X9_spare p A) := by
  obtain ⟨V, Z, ⟨hx, hm, hW⟩, -⟩ := id h
  refine sim_grp hx hm hW p (fun g hg hg2 e => ?_) (sim_bad h)
  have e4 : I (1 + 7) 0 = nI (V 6 0) := hx.2.1 0 (by decide)
  have f4 : A 0 9 = nI (V 6 0) := hm.2.1 0 (by decide)
  rw [e, x_hireNow hx hW (by omega), m_hireOf hm hW (by omega), bd_s, bd_s, e4, f4, x_HT hx hW (by omega), m_HT hm hW (by omega), bd_s, bd_s]
  split
  · exact sim_same h _
  · exact sim_same h _
theorem s_goes (h : Rel t I J A B) (p : Int32) : Sim t J B (f_X8_goes p I) (f_X9_goes p A) := by
  obtain ⟨V, Z, ⟨hx, hm, hW⟩, -⟩ := id h
  refine sim_in p 0 999 (a := 0) (b := 999) rfl rfl (by decide) (by decide) rfl rfl (fun k _ hk e => ?_) (sim_bad h)
  rw [e, x_lets hx hW (by omega), m_goes hm hW (by omega), bd_b, bd_b]
  split
  · exact sim_same h _
  · exact sim_same h _
theorem s_waiting (h : Rel t I J A B) : ∃ r, f_X8_waiting I = some r ∧ f_X9_waiting A = some r := by
  obtain ⟨V, Z, ⟨hx, hm, hW⟩, -⟩ := id h
  have ho := ov_lt hW
  have ha := hW.all
  have h1 : 1 ≤ 2 ^ V 7 0 := Nat.one_le_two_pow
  have e : nI (2 ^ V 7 0 - 1) &&& (nI (V 8 0) ^^^ (-1 : Int32)) = nI ((2 ^ V 7 0 - 1) &&& (V 8 0 ^^^ (2 ^ 32 - 1))) := by
    rw [m1_nI, xor_nI, and_nI]
  have hl : (2 ^ V 7 0 - 1) &&& (V 8 0 ^^^ (2 ^ 32 - 1)) < 2 ^ 31 := Nat.lt_of_le_of_lt Nat.and_le_left (by omega)
  unfold f_X8_waiting f_X9_waiting f_X2_here
  rw [x_every hx hW, bd_s, hx.2.2.1.2, hm.2.2.1.1, hm.2.2.1.2, pow_sub hW.n, e, bd_s, x_HT hx hW hl, m_HT hm hW hl]
  exact ⟨_, rfl, rfl⟩
end S1
