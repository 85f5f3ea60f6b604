/-! Pure: ways (4). -/
section WR
variable {t : qF} {I : qI} {J : qJ} {A : qI} {B : qJ} {V : qV} {Z : qW}
theorem m_ways_init {p : Nat} (hp : p ≤ 60) : ∀ f k, k ≤ p + 1 → p + 1 - k < f → f_X9_ways_22 f (nI p) (nI k) (quR A 24 (fun a => if a < k then w0 a else A 24 a)) = f_X9_ways_50 1000 (nI p) 1 (quR A 24 (fun a => if a < p + 1 then w0 a else A 24 a)) := by
  intro f
  induction f with
  | zero => intro k _ h; omega
  | succ f ih =>
    intro k hk hf
    rw [f_X9_ways_22, if_d (nlt_i (show p < 2 ^ 31 by omega) (show k < 2 ^ 31 by omega))]
    by_cases q : p < k
    · rw [if_pos q, show k = p + 1 by omega]
    · unfold f_X9_ways_41
      have qk := qin_n (show k < 401 by omega) (by decide)
      have st : qu (quR A 24 (fun a => if a < k then w0 a else A 24 a)) 24 k (w0 k) = quR A 24 (fun a => if a < k + 1 then w0 a else A 24 a) := by
        funext a b
        rw [qu_at]
        unfold quR
        by_cases e : a = 24
        · subst e
          rw [if_pos rfl, if_pos rfl, if_pos rfl]
          by_cases e2 : b = k
          · rw [if_pos e2, if_pos (by omega), e2]
          · rw [if_neg e2]
            by_cases l : b < k
            · rw [if_pos l, if_pos (by omega)]
            · rw [if_neg l, if_neg (by omega)]
        · rw [if_neg e, if_neg e, if_neg e]
      have ih := ih (k + 1) (by omega) (by omega)
      rw [← st] at ih
      simp only [gd_t qk, clampI (show k < 2 ^ 31 by omega), lt_e, nI_1]
      rw [if_neg q]
      by_cases e : k = 0
      · subst e
        rw [if_pos (show nI 0 = 0 from rfl)]
        exact ih
      · rw [if_neg (fun z => e ((nI_z (show k < 2 ^ 31 by omega)).mp z))]
        have w : w0 k = 0 := if_neg e
        rw [w] at ih
        exact ih
theorem s_ways (h : Rel t I J A B) (p : Int32) : Sim t J B (f_X8_ways p I) (f_X9_ways p A) := by
  obtain ⟨V, Z, ⟨hx, hm, hW⟩, -⟩ := id h
  refine sim_in p 0 60 (a := 0) (b := 60) rfl rfl (by decide) (by decide) rfl rfl (fun p _ hp e => ?_) (sim_bad h)
  subst e
  obtain ⟨I1, e1, f1, c1, c2⟩ := x_collect hx hW
  have hl := gL_len (V := V) 99
  have cls : ∃ I', f_X4_waysToSum 1 (nI p) I = some (wF V p 99 p, I') ∧ (∀ k j, k ≠ 48 → k ≠ 49 → k ≠ 50 → I' k j = I k j) := by
    unfold f_X4_waysToSum
    rw [e1, bd_s, nofill, bd_s, lt_e]
    have hM : qu (quR I1 50 (fun a => if a < 401 then 0 else I1 50 a)) 50 0 1 = quR (qu (quR I1 50 (fun a => if a < 401 then 0 else I1 50 a)) 50 0 1) 50 (fun a => if a ≤ p then w0 a else qu (quR I1 50 (fun a => if a < 401 then 0 else I1 50 a)) 50 0 1 50 a) := by
      funext a b
      unfold quR
      by_cases e : a = 50
      · subst e
        rw [if_pos rfl]
        by_cases l : b ≤ p
        · rw [if_pos l, qu_at, if_pos rfl]
          unfold w0
          by_cases z : b = 0
          · rw [if_pos z, if_pos z]
          · rw [if_neg z, if_neg z, if_pos rfl, if_pos (by omega)]
        · rw [if_neg l]
      · rw [if_neg e]
    obtain ⟨I', r1, r2⟩ := x_ways_out hp (qu (quR I1 50 (fun a => if a < 401 then 0 else I1 50 a)) 50 0 1) (gL V 99) hl (fun x hx => by
      obtain ⟨a, b, -⟩ := gL_mem.mp hx
      exact ⟨a, b⟩) (by rw [qu_k (by decide)]; unfold quR; rw [if_neg (by decide)]; exact c1) (fun i hi => by rw [qu_k (by decide)]; unfold quR; rw [if_neg (by decide)]; exact c2 i hi) 1000 0 (Nat.zero_le _) (by omega) w0
    rw [← hM] at r1
    exact ⟨I', r1, fun k j h1 h2 h3 => by rw [r2 k j h3, qu_k h3]; unfold quR; rw [if_neg h3]; exact f1 k j h1 h2⟩
  obtain ⟨I', g1, g2⟩ := cls
  have i0 := m_ways_init (A := A) hp 1000 0 (Nat.zero_le _) (by omega)
  have eA : quR A 24 (fun a => if a < 0 then w0 a else A 24 a) = A := by
    funext a b
    unfold quR
    by_cases e : a = 24
    · rw [if_pos e, if_neg (Nat.not_lt_zero _), e]
    · rw [if_neg e]
  rw [eA] at i0
  obtain ⟨A', k1, k2⟩ := m_ways_out hp hm hW 1000 0 (Nat.zero_le _) (by omega)
  have eB : (fun a => if a < p + 1 then w0 a else A 24 a) = fun a => if a ≤ p then wF V p 0 a else A 24 a := by
    funext a
    by_cases l : a ≤ p
    · rw [if_pos l, if_pos (by omega)]; rfl
    · rw [if_neg l, if_neg (by omega)]
  rw [eB] at i0
  have i0 : f_X9_ways_22 1000 (nI p) 0 A = _ := i0.trans k1
  have ew : wF V p 99 = wF V p p := by
    have := wF_end V p (99 - p)
    rwa [show p + (99 - p) = 99 by omega] at this
  rw [g1, i0, bd2_s, ew]
  exact ⟨_, _, _, rfl, rfl, h.fr (fun k j g => g2 k j (by omega) (by omega) (by omega)) (fun k j g => k2 k j (by omega)) FJ.rf⟩
end WR
