/-! Pure: judge, behind (2). -/
section FO
variable {t : qF} {I : qI} {J : qJ} {A : qI} {B : qJ} {V : qV} {Z : qW}
theorem sLH_c {V V' : qV} {hd : Nat} (h : ∀ x, sLets V' x = sLets V x) : ∀ j k, sLH V' hd j k = sLH V hd j k := by
  intro j
  induction j with
  | zero => intro k; rfl
  | succ j ih => intro k; rw [sLH, sLH, h, ih]
theorem sHire_ov {x g ov m : Nat} : sHire (vu V 8 0 x) g ov m = sHire V g ov m := by
  have o : ∀ i j, i ≠ 8 → vu V 8 0 x i j = V i j := fun i j hi => vu_r hi
  have e1 : sHT (vu V 8 0 x) g = sHT V g := by
    unfold sHT
    rw [o 7 0 (by decide)]
    refine sSum_c fun k _ => ?_
    unfold sHeads sHeadsIf
    rw [o 6 2 (by decide), o 0 k (by decide), o 1 k (by decide), o 2 k (by decide)]
  have e2 : ∀ n, sLets (vu V 8 0 x) n = sLets V n := fun n => by
    unfold sLets
    rw [o 6 0 (by decide), o 6 1 (by decide)]
  unfold sHire
  rw [sAg_c (fun k => o 4 k (by decide)) (fun k => o 5 k (by decide)) (o 7 0 (by decide)), e1, sLH_c e2]
theorem l2i_grp {v : Int64} {n : Nat} (hn : n ≤ 8) (h : 0 ≤ v ∧ v ≤ (nI (2 ^ n - 1)).toInt64) : ∃ g, g < 2 ^ n ∧ v.toInt32 = nI g := by
  have p8 := pow8 hn
  have p1 : 1 ≤ 2 ^ n := Nat.one_le_two_pow
  have e : v = v.toInt32.toInt64 := by
    apply Int64.toInt_inj.mp
    have h1 := Int64.le_iff_toInt_le.mp h.1
    have h2 := Int64.le_iff_toInt_le.mp h.2
    rw [Int32.toInt_toInt64, nI_toInt (by omega)] at h2
    rw [Int32.toInt_toInt64, Int64.toInt_toInt32]
    have h1 : (0 : Int) ≤ v.toInt := h1
    rw [Int.bmod_eq_of_le (by omega) (by omega)]
  rw [e] at h
  have h1 : (0 : Int32) ≤ v.toInt32 := (le_i2l 0 v.toInt32).mp h.1
  have h2 : v.toInt32 ≤ nI (2 ^ n - 1) := (le_i2l v.toInt32 _).mp h.2
  obtain ⟨g, -, hg, e2⟩ := nI_btw (a := 0) (b := 2 ^ n - 1) (by omega) ⟨h1, h2⟩ (by decide)
  exact ⟨g, by omega, e2⟩
theorem m_follow {s k m n : Nat} (hs : s < 8) (hk : k < 5) (hm' : m ≤ 40) (hn : n ≤ m) (hx : XV I 1 V Z) (hm : MV A 0 V Z) (hW : WF V) (e1 : I (28 + 2 * s) 1 = nI k) (l1 : I (28 + 2 * s) 2 = nI m) (hj : ∀ j, j < 40 → J (29 + 2 * s) j = B (5 + s) j) :
    ∃ I' A', f_X3_follow 1 (28 + 2 * s) (nI n) I J = some I' ∧ f_X9_goesAsTold (nI s) (nI n) A B = some A' ∧ (∀ a j, a ≠ 57 → I' a j = I a j) ∧ (∀ a j, ¬ (a = 0 ∧ (j = 18 ∨ j = 40 ∨ j = 41)) → A' a j = A a j) ∧ I' 57 0 = A' 0 40 ∧ (I' 57 0 = -1 → I' 57 1 = A' 0 18 ∧ I' 57 2 = A' 0 41) := by
  have h8 := hW.n
  have ha := hW.all
  have q8 := qin_n hs (by decide)
  have c8 := clampI (show s < 2 ^ 31 by omega)
  have loop : ∀ f i f', i ≤ n → n - i < f → n - i + 1 < f' → ∀ (ov : Nat) (y : Int32) (I1 A1 : qI), ov < 2 ^ V 7 0 → (∀ a j, a ≠ 57 → I1 a j = I a j) → (∀ a j, ¬ (a = 0 ∧ (j = 18 ∨ j = 40 ∨ j = 41)) → A1 a j = A a j) → I1 57 0 = -1 → I1 57 1 = nI ov → I1 57 2 = y → A1 0 40 = -1 → A1 0 18 = nI ov → A1 0 41 = y →
      ∃ I' A', f_X3_follow_21 1 (28 + 2 * s) f (nI n) (nI i) I1 J = some I' ∧ f_X9_goesAsTold_12 f' (nI s) (nI n) (nI i) A1 B = some A' ∧ (∀ a j, a ≠ 57 → I' a j = I a j) ∧ (∀ a j, ¬ (a = 0 ∧ (j = 18 ∨ j = 40 ∨ j = 41)) → A' a j = A a j) ∧ I' 57 0 = A' 0 40 ∧ (I' 57 0 = -1 → I' 57 1 = A' 0 18 ∧ I' 57 2 = A' 0 41) := by
    intro f
    induction f with
    | zero => intro i _ _ h; omega
    | succ f ih =>
      intro i f' hi hf hf' ov y I1 A1 hov fr fm i0 i1 i2 a0 a1 a2
      obtain ⟨f', rfl⟩ : ∃ g, f' = g + 1 := ⟨f' - 1, by omega⟩
      rw [f_X3_follow_21, f_X9_goesAsTold_12, stopN' hi (by omega), stopN' hi (by omega)]
      by_cases q : i = n
      · rw [if_pos q, if_pos q]
        exact ⟨I1, A1, rfl, rfl, fr, fm, by rw [i0, a0], fun _ => ⟨by rw [i1, a1], by rw [i2, a2]⟩⟩
      · have qi := qin_n (show i < 40 by omega) (by decide)
        have ci := clampI (show i < 2 ^ 31 by omega)
        have x1 : XV I1 1 V Z := hx.fr fun k j g1 g2 => fr k j (by omega)
        have m1 : MV A1 0 (vu V 8 0 ov) Z := by
          have m0 := hm.ov (v := ov) (x := nI ov) rfl
          refine m0.fr fun k j g => ?_
          rw [qu_at]
          by_cases e : k = 0
          · rw [if_pos e]
            by_cases e2 : j = 18
            · rw [if_pos e2, e, e2]; exact a1
            · rw [if_neg e2, e]; exact fm 0 j (by omega)
          · rw [if_neg e]; exact fm k j (by omega)
        have W1 : WF (vu V 8 0 ov) := hW.over hov
        have at1 : f_X6_at (28 + 2 * s) (nI i) I1 J = some (B (5 + s) i) := by
          unfold f_X6_at
          rw [places1 hk hm' (by rw [fr _ _ (by omega)]; exact e1) (by rw [fr _ _ (by omega)]; exact l1), decide_eq_true (show (0 : Int32) ≤ nI i ∧ nI i ≤ nI m - 1 from ⟨nI_pos' (by omega), by rw [sub1_nI (by omega)]; exact (nle_i (by omega) (by omega)).mpr (by omega)⟩), bd_b, if_b, if_pos rfl, gd_t qi, ci, show 28 + 2 * s + 1 = 29 + 2 * s by omega, hj i (by omega)]
        have grp : f_X9_isGroup (B (5 + s) i) A1 = some (b2i (decide (0 ≤ B (5 + s) i ∧ B (5 + s) i ≤ (nI (2 ^ V 7 0 - 1)).toInt64))) := by
          unfold f_X9_isGroup
          rw [in_s, bd_s, gd_b, show A1 0 17 = nI (V 7 0) from (fm 0 17 (by omega)).trans hm.2.2.1.1, pow_sub h8]
        have bad : ∃ I' A', f_X3_follow_80 1 (28 + 2 * s) (f_X3_follow_21 1 (28 + 2 * s) f) (nI n) (nI i) (B (5 + s) i) (-1) I1 J = some I' ∧ f_X9_goesAsTold_57 (f_X9_goesAsTold_12 f') (nI s) (nI n) (nI i) (-1) A1 B = some A' ∧ (∀ a j, a ≠ 57 → I' a j = I a j) ∧ (∀ a j, ¬ (a = 0 ∧ (j = 18 ∨ j = 40 ∨ j = 41)) → A' a j = A a j) ∧ I' 57 0 = A' 0 40 ∧ (I' 57 0 = -1 → I' 57 1 = A' 0 18 ∧ I' 57 2 = A' 0 41) := by
          obtain ⟨f'', rfl⟩ : ∃ g, f' = g + 1 := ⟨f' - 1, by omega⟩
          have ni : ¬ nI i = -1 := nI_ne_m1 (by omega)
          refine ⟨qu I1 57 0 (nI i), qu (qu (qu A1 0 40 (nI i)) 0 41 (qu A1 0 40 (nI i) 0 41 + 0)) 0 18 (qu (qu A1 0 40 (nI i)) 0 41 (qu A1 0 40 (nI i) 0 41 + 0) 0 18 ||| 0), ?_, ?_, fun a j hk => by rw [qu_k hk]; exact fr a j hk, fun a j hk => ?_, ?_, fun z => absurd (qu_s.symm.trans z) ni⟩
          · unfold f_X3_follow_80
            rw [if_pos rfl, lt_e]
          · unfold f_X9_goesAsTold_57 f_X9_goesAsTold_71 f_X9_goesAsTold_91 f_X9_goesAsTold_119
            simp only [eq_self, if_true, lt_e]
            rw [f_X9_goesAsTold_12]
            split
            · rfl
            · rw [if_neg (show ¬ qu (qu (qu A1 0 40 (nI i)) 0 41 (qu A1 0 40 (nI i) 0 41 + 0)) 0 18 (qu (qu A1 0 40 (nI i)) 0 41 (qu A1 0 40 (nI i) 0 41 + 0) 0 18 ||| 0) 0 40 = -1 from fun z => ni (by rw [qu_i (by decide), qu_i (by decide), qu_s] at z; exact z))]
          · rw [qu_at]
            by_cases e : a = 0
            · rw [if_pos e, if_neg (by omega), qu_i (by omega), qu_i (by omega), ← e]; exact fm a j hk
            · rw [if_neg e, qu_k e, qu_k e]; exact fm a j hk
          · rw [qu_s, qu_i (by decide), qu_i (by decide), qu_s]
        have ev : f_X2_everybody 1 I1 = some (nI (2 ^ V 7 0 - 1)) := x_every x1 hW
        rw [if_neg q, if_neg q, at1, bd_s, ev, bd_s, if_pos a0]
        simp only [gd_t q8, gd_t qi, c8, ci, grp, bd_b, if_b]
        unfold f_X3_follow_57 f_X3_follow_58
        rw [if_pos rfl, if_neg (show ¬ (1 : Int32) = 0 by decide)]
        by_cases d : 0 ≤ B (5 + s) i ∧ B (5 + s) i ≤ (nI (2 ^ V 7 0 - 1)).toInt64
        · rw [decide_eq_true d, if_pos rfl, if_neg (fun z => absurd ((lg_cmp_lt _ _).mp z) (Int64.not_lt.mpr d.1)), if_neg (fun z => absurd ((lg_cmp_gt _ _).mp z) (Int64.not_lt.mpr d.2))]
          obtain ⟨g, hg, eg⟩ := l2i_grp h8 d
          have hh : sHire (vu V 8 0 ov) g (vu V 8 0 ov 8 0) (vu V 8 0 ov 6 3) = sHire V g ov (V 6 3) := by
            rw [vu_s, vu_r (by decide), sHire_ov]
          rw [eg, i1, x_hireBy x1 hW (by omega) (by omega), bd_s, m_hireOf m1 W1 (by omega), hh, bd_s]
          cases hc : sHire V g ov (V 6 3) with
          | none => exact bad
          | some h =>
            have h9 := sHire_le hc
            have h9' := hW.2.1.2.2.2.2.1
            have nh : ¬ nI h = -1 := nI_ne_m1 (by omega)
            rw [show oI (some h) = nI h from rfl]
            unfold f_X3_follow_80 f_X9_goesAsTold_57 f_X9_goesAsTold_71 f_X9_goesAsTold_91 f_X9_goesAsTold_119
            simp only [if_neg nh, lt_e, gd_t q8, gd_t qi, c8, ci, eg, nI_1]
            refine ih (i + 1) f' (by omega) (by omega) (by omega) (ov ||| g) (y + nI h) _ _ (Nat.or_lt_two_pow hov hg) (fun a j hk => by rw [qu_k hk, qu_k hk]; exact fr a j hk) (fun a j hk => ?_) ?_ ?_ ?_ ?_ ?_ ?_
            · rw [qu_at]
              by_cases e : a = 0
              · rw [if_pos e, if_neg (by omega), qu_i (by omega), qu_i (by omega), ← e]; exact fm a j hk
              · rw [if_neg e, qu_k e, qu_k e]; exact fm a j hk
            · rw [qu_i (by decide), qu_i (by decide)]; exact i0
            · rw [qu_i (by decide), qu_s, i1, or_nI]
            · rw [qu_s, qu_i (by decide), i2]
            · rw [qu_i (by decide), qu_i (by decide), qu_s]
            · rw [qu_s, qu_i (by decide), qu_i (by decide), a1, or_nI]
            · rw [qu_i (by decide), qu_s, qu_i (by decide), a2]
        · rw [decide_eq_false d, if_neg (show ¬ (false = true) by decide)]
          by_cases z0 : lg_cmp (B (5 + s) i) 0 < 0
          · rw [if_pos z0]; exact bad
          · rw [if_neg z0, if_pos]
            · exact bad
            · apply Classical.byContradiction
              intro z1
              exact d ⟨Int64.not_lt.mp fun w => z0 ((lg_cmp_lt _ _).mpr w), Int64.not_lt.mp fun w => z1 ((lg_cmp_gt _ _).mpr w)⟩
  unfold f_X3_follow f_X9_goesAsTold
  simp only [lt_e]
  refine loop 1000 0 1000 (Nat.zero_le _) (by omega) (by omega) (V 8 0) 0 _ _ hW.1.2 (fun a j hk => by rw [qu_k hk, qu_k hk, qu_k hk]) (fun a j hk => ?_) ?_ ?_ ?_ ?_ ?_ ?_
  · rw [qu_at]
    by_cases e : a = 0
    · rw [if_pos e, if_neg (by omega), qu_i (by omega), ← e]
    · rw [if_neg e, qu_k e]
  · rw [qu_i (by decide), qu_i (by decide), qu_s]
  · rw [qu_i (by decide), qu_s, qu_k (by decide)]; exact hx.2.2.1.2
  · rw [qu_s]
  · rw [qu_i (by decide), qu_s]
  · rw [qu_i (by decide), qu_i (by decide)]; exact hm.2.2.1.2
  · rw [qu_s]
theorem Rel.fol {I' A' : qI} (h : Rel t I J A B) (f1 : ∀ a j, a ≠ 57 → I' a j = I a j) (f2 : ∀ a j, ¬ (a = 0 ∧ (j = 18 ∨ j = 40 ∨ j = 41)) → A' a j = A a j) : Rel t I' J (qu A' 0 18 (A 0 18)) B := h.fr (fun k j g => f1 k j (by omega)) (fun k j g => by
  rw [qu_at]
  by_cases e : k = 0
  · rw [if_pos e]
    by_cases e2 : j = 18
    · rw [if_pos e2, e, e2]
    · rw [if_neg e2, e]; exact f2 0 j (by omega)
  · rw [if_neg e]; exact f2 k j (by omega)) FJ.rf
theorem s_judge (h : Rel t I J A B) (p q : Int32) : Sim t J B (f_X8_judge p q I J) (f_X9_judge p q A B) := by
  obtain ⟨V, Z, ⟨hx, hm, hW⟩, -⟩ := id h
  unfold f_X8_judge f_X9_judge
  rcases told_t h p q 0 (most := 40) (by decide) (ok := true) (ow := 1) rfl rfl with ⟨s, k, m, n, hs8, hk, hm', hn, -, rfl, rfl, -, t1, t2, e1, a1, a2, l1, l2, hj⟩ | ⟨c, v, hc, hv, v0, t1, t2⟩
  · have q8 := qin_n hs8 (by decide)
    have c8 := clampI (show s < 2 ^ 31 by omega)
    obtain ⟨I', A', g1, g2, f1, f2, r1, -⟩ := m_follow (A := A) (J := J) hs8 hk hm' hn hx hm hW e1 l1 hj
    rw [show f_X8_toldTrouble (nI s) (nI n) 40 0 I = some 0 from t1, show f_X9_noTold (nI s) (nI n) 40 1 A = some (0, A) from t2, bd_s, bd2_s, if_pos rfl, if_pos rfl, gd_t q8, c8, g1, g2, bd_s, bd_s, lt_e, qu_i (by decide), ← r1]
    exact ⟨_, _, _, rfl, rfl, h.fol f1 f2⟩
  · rw [show f_X8_toldTrouble p q 40 0 I = some v from t1, show f_X9_noTold p q 40 1 A = _ from t2, bd_s, bd2_s, if_neg v0, if_neg v0, hv, x_refuse I c hc]
    exact ⟨_, _, _, rfl, rfl, h.ref hc⟩
theorem s_behind (h : Rel t I J A B) (p q w : Int32) : Sim t J B (f_X8_behind p q w I J) (f_X9_behind p q w A B) := by
  obtain ⟨V, Z, ⟨hx, hm, hW⟩, -⟩ := id h
  unfold f_X8_behind f_X9_behind
  rw [in_i (b := 0) (B := 0) (c := 1) (C := 1) rfl rfl, bd_s]
  rcases told_t h p q w (most := 40) (by decide) (ok := decide ((0 : Int32) ≤ w ∧ w ≤ 1)) rfl (within_s w 0 1) with ⟨s, k, m, n, hs8, hk, hm', hn, -, rfl, rfl, -, t1, t2, e1, a1, a2, l1, l2, hj⟩ | ⟨c, v, hc, hv, v0, t1, t2⟩
  · have q8 := qin_n hs8 (by decide)
    have c8 := clampI (show s < 2 ^ 31 by omega)
    obtain ⟨I', A', g1, g2, f1, f2, r1, r2⟩ := m_follow (A := A) (J := J) hs8 hk hm' hn hx hm hW e1 l1 hj
    have r := h.fol f1 f2
    rw [show f_X8_toldTrouble (nI s) (nI n) 40 w I = some 0 from t1, show f_X9_noTold (nI s) (nI n) 40 _ A = some (0, A) from t2, bd_s, bd2_s, if_pos rfl, if_pos rfl, gd_t q8, c8, g1, g2, bd_s, bd_s, lt_e, qu_i (show (40 : Nat) ≠ 18 by decide), ← r1]
    by_cases y : I' 57 0 = -1
    · obtain ⟨y1, y2⟩ := r2 y
      rw [if_pos y, if_pos y]
      by_cases w0 : w = 0
      · rw [if_pos w0, if_pos w0, y1]; exact sim_same r _
      · rw [if_neg w0, if_neg w0, qu_i (show (41 : Nat) ≠ 18 by decide), y2]; exact sim_same r _
    · rw [if_neg y, if_neg y]
      exact sim_stuck r
  · rw [show f_X8_toldTrouble p q 40 w I = some v from t1, show f_X9_noTold p q 40 _ A = _ from t2, bd_s, bd2_s, if_neg v0, if_neg v0, hv, x_refuse I c hc]
    exact ⟨_, _, _, rfl, rfl, h.ref hc⟩
end FO
