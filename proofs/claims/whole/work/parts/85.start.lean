/-! the law's start (written by wip/gen/mk85.py) -/
abbrev qGv : List Cond := flatC (Cond.and given_1 narrow_1)
theorem st_of {b : Nat} {s : State} {f : String} {tab : List Int32} {A : Nat → Prop} (hs : ∀ c ∈ qGv, c.before #[Value.ref b] s = true) (hl : (Cond.laysStatic RX8 f "[I").before #[Value.ref b] s = true) (hini : (Cond.initialized RX8).before #[Value.ref b] s = true) (hA : ∀ a : Nat, a < s.heap.size → ¬ A a) (hN : tab.length < 2 ^ 31) (h1 : Cond.arrayOf (.static RX8 f "[I") .int ∈ qGv) (h2 : Cond.eq (.length (.static RX8 f "[I")) (.int (Int32.ofNat tab.length)) ∈ qGv) (h3 : ∀ j, j < tab.length → Cond.eq (.elem (.static RX8 f "[I") (.int (Int32.ofNat j))) (.int (tab.getD j 0)) ∈ qGv) : qSt f tab A s s.heap := by
  obtain ⟨t, e, hT⟩ := va_Tof (f := fun j => .int (tab.getD j 0)) hN (hs _ h1) (va_eqt (hs _ h2)) (fun j hj => va_eqt (hs _ (h3 j hj))) hA
  exact ⟨t, va_Zof hl hini e hA, hT⟩
def qTm : Nat → Term := fun i => ([.string RX7 40, .string RX7 49, .string RX7 55, .string RX7 57, .string RX7 59, .string RX7 64, .string RX7 66, .string RX7 68, .string RX7 70] : List Term).getD i (.string RX7 40)
def qTn : Nat → Term := fun i => ([.string RX9 209, .string RX9 218, .string RX9 223, .string RX9 225, .string RX9 227, .string RX9 231, .string RX9 232, .string RX9 233, .string RX9 234] : List Term).getD i (.string RX9 209)
set_option maxRecDepth 100000 in
theorem tm_ex : ∀ i, i < 9 → Cond.exactly (qTm i) "java/lang/String" ∈ qGv := by decide +kernel
set_option maxRecDepth 100000 in
theorem tm_co : ∀ i, i < 9 → Cond.eq (.field (qTm i) "java/lang/String" "coder" "B") (.int 0) ∈ qGv := by decide +kernel
set_option maxRecDepth 100000 in
theorem tm_ar : ∀ i, i < 9 → Cond.arrayOf (.field (qTm i) "java/lang/String" "value" "[B") .byte ∈ qGv := by decide +kernel
set_option maxRecDepth 100000 in
theorem tm_le : ∀ i, i < 9 → Cond.eq (.length (.field (qTm i) "java/lang/String" "value" "[B")) (.int (Int32.ofNat ((qWordL.map List.length).getD i 0))) ∈ qGv := by decide +kernel
set_option maxRecDepth 100000 in
theorem tm_el : ∀ i, i < 9 → ∀ j, j < (qWordL.map List.length).getD i 0 → Cond.eq (.elem (.field (qTm i) "java/lang/String" "value" "[B") (.int (Int32.ofNat j))) (.int ((qWordL.getD i []).getD j 0)) ∈ qGv := by decide +kernel
set_option maxRecDepth 100000 in
theorem tm_ne : ∀ i, i < 9 → ∀ j, j < 9 → i < j → Cond.not (Cond.eq (qTm i) (qTm j)) ∈ qGv := by decide +kernel
set_option maxRecDepth 100000 in
theorem tm_eq : ∀ i, i < 9 → Cond.eq (qTm i) (qTn i) ∈ qGv := by decide +kernel
theorem tm_ln : ∀ i, i < 9 → (qWordL.map List.length).getD i 0 < 2 ^ 31 := by decide
theorem ws_of {b : Nat} {s : State} {A : Nat → Prop} (hs : ∀ c ∈ qGv, c.before #[Value.ref b] s = true) (hA : ∀ a : Nat, a < s.heap.size → ¬ A a) : ∃ sa va : Nat → Nat, qWs sa va A s s.heap ∧ ∀ i, i < 9 → (qTm i).eval #[Value.ref b] s none [] s = some (.ref (sa i)) :=
  vk_Sof tm_ln (fun i hi => hs _ (tm_ex i hi)) (fun i hi => hs _ (tm_co i hi)) (fun i hi => hs _ (tm_ar i hi)) (fun i hi => hs _ (tm_le i hi)) (fun i hi j hj => hs _ (tm_el i hi j hj)) (fun i j hi hj hij => by
    rcases Nat.lt_or_gt_of_ne hij with h | h
    · exact Or.inl (hs _ (tm_ne i hi j hj h))
    · exact Or.inr (hs _ (tm_ne j hj i hi h))) hA
theorem va_eqr {args : Array Value} {s : State} {t u : Term} {v : Value} (h : (Cond.eq t u).before args s = true) (ht : t.eval args s none [] s = some v) : u.eval args s none [] s = some v := by
  cases hu : u.eval args s none [] s with
  | none => simp [Cond.before, Cond.holds, Cond.value, ht, hu] at h
  | some w =>
    simp only [Cond.before, Cond.holds, Cond.value, ht, hu] at h
    cases w <;> cases v <;> simp_all
theorem arr_of {s : State} {c : ClassId} {k : Class} {comp : ClassId} {ty : FieldType} (h1 : s.vm.classes[c]? = some k) (h2 : k.kind = .array comp ty) : ArrOfT s c ty := fun _ _ => ⟨fun _ h => (by cases h), k, h1, comp, h2⟩
set_option maxHeartbeats 4000000 in
set_option maxRecDepth 100000 in
theorem known_of {b : Nat} {s : State} (hts : ∀ w ∈ lw_tbl, w.before #[Value.ref b] s = true) : ∃ (D : va_G) (cy : Nat → ClassId), va_K D vwCl (qT cy) s := by
  obtain ⟨c0, iS0, hKn0⟩ := u_known (C := RX0) (T := TX0) (N := 3) (n := 3) hts inX0 (hts (.instantiable RX0 3) (by decide +kernel))
  obtain ⟨c1, iS1, hKn1⟩ := u_known (C := RX1) (T := TX1) (N := 2) (n := 2) hts inX1 (hts (.instantiable RX1 2) (by decide +kernel))
  obtain ⟨c2, iS2, hKn2⟩ := u_known (C := RX2) (T := TX2) (N := 13) (n := 13) hts inX2 (hts (.instantiable RX2 13) (by decide +kernel))
  obtain ⟨c3, iS3, hKn3⟩ := u_known (C := RX3) (T := TX3) (N := 3) (n := 3) hts inX3 (hts (.instantiable RX3 3) (by decide +kernel))
  obtain ⟨c4, iS4, hKn4⟩ := u_known (C := RX4) (T := TX4) (N := 3) (n := 3) hts inX4 (hts (.instantiable RX4 3) (by decide +kernel))
  obtain ⟨c5, iS5, hKn5⟩ := u_known (C := RX5) (T := TX5) (N := 3) (n := 3) hts inX5 (hts (.instantiable RX5 3) (by decide +kernel))
  obtain ⟨c6, iS6, hKn6⟩ := u_known (C := RX6) (T := TX6) (N := 3) (n := 3) hts inX6 (hts (.instantiable RX6 3) (by decide +kernel))
  obtain ⟨c7, iS7, hKn7⟩ := u_known (C := RX7) (T := TX7) (N := 6) (n := 6) hts inX7 (hts (.instantiable RX7 6) (by decide +kernel))
  obtain ⟨c8, iS8, hKn8⟩ := u_known (C := RX8) (T := TX8) (N := 12) (n := 12) hts inX8 (hts (.instantiable RX8 12) (by decide +kernel))
  obtain ⟨c9, iS9, hKn9⟩ := u_known (C := RX9) (T := TX9) (N := 42) (n := 42) hts inX9 (hts (.instantiable RX9 42) (by decide +kernel))
  obtain ⟨t0, k0, p0, f0, g0, d0⟩ := Cond.arrayClass_spec (hts (.arrayClass .int) (by decide +kernel))
  obtain ⟨t1, k1, p1, f1, g1, d1⟩ := Cond.arrayClass_spec (hts (.arrayClass .long) (by decide +kernel))
  obtain ⟨t2, k2, p2, f2, g2, d2⟩ := Cond.arrayClass_spec (hts (.arrayClass .boolean) (by decide +kernel))
  obtain ⟨p3, t3, k3, e3, x3, g3, d3, f3⟩ := Cond.arrayOver_spec (hts (.arrayOver (.object "RowsOnlyPrimes$Shelf")) (by decide +kernel))
  obtain ⟨p4, t4, k4, e4, x4, g4, d4, f4⟩ := qOA_spec (t := .int) (U := s) (hts (.arrayOver (.array .int)) (by decide +kernel))
  obtain ⟨p5, t5, k5, e5, x5, g5, d5, f5⟩ := qOA_spec (t := .long) (U := s) (hts (.arrayOver (.array .long)) (by decide +kernel))
  obtain ⟨p6, t6, k6, e6, x6, g6, d6, f6⟩ := qOA_spec (t := .boolean) (U := s) (hts (.arrayOver (.array .boolean)) (by decide +kernel))
  refine ⟨(fun k => if k = 0 then c0 else if k = 1 then c1 else if k = 2 then c2 else if k = 3 then c3 else if k = 4 then c4 else if k = 5 then c5 else if k = 6 then c6 else if k = 7 then c7 else if k = 8 then c8 else c9, fun k => if k = 0 then iS0 else if k = 1 then iS1 else if k = 2 then iS2 else if k = 3 then iS3 else if k = 4 then iS4 else if k = 5 then iS5 else if k = 6 then iS6 else if k = 7 then iS7 else if k = 8 then iS8 else iS9), fun k => if k = 0 then t0 else if k = 1 then t1 else if k = 2 then t2 else if k = 3 then t3 else if k = 4 then t4 else if k = 5 then t5 else t6, fun k q hq => ?_, fun k q hq => ?_⟩
  · match k, hq with
    | 0, hq => cases hq; exact hKn0
    | 1, hq => cases hq; exact hKn1
    | 2, hq => cases hq; exact hKn2
    | 3, hq => cases hq; exact hKn3
    | 4, hq => cases hq; exact hKn4
    | 5, hq => cases hq; exact hKn5
    | 6, hq => cases hq; exact hKn6
    | 7, hq => cases hq; exact hKn7
    | 8, hq => cases hq; exact hKn8
    | 9, hq => cases hq; exact hKn9
    | k + 10, hq => simp [vwCl] at hq
  · match k, hq with
    | 0, hq => cases hq; exact ⟨arr_of g0 d0, f0⟩
    | 1, hq => cases hq; exact ⟨arr_of g1 d1, f1⟩
    | 2, hq => cases hq; exact ⟨arr_of g2 d2, f2⟩
    | 3, hq => cases hq; exact ⟨arr_of g3 d3, ⟨k3, p3, g3, d3, e3, f3⟩⟩
    | 4, hq => cases hq; exact ⟨arr_of g4 d4, f4⟩
    | 5, hq => cases hq; exact ⟨arr_of g5 d5, f5⟩
    | 6, hq => cases hq; exact ⟨arr_of g6 d6, f6⟩
    | k + 7, hq => simp [qT] at hq
set_option maxRecDepth 100000 in
theorem nest_of {b : Nat} {s : State} (hts : ∀ w ∈ lw_tbl, w.before #[Value.ref b] s = true) : qNest s :=
  ⟨⟨va_Nw.of rfl (hts (.methodLinkNest RX8 24 yX7_init RX8) (by decide +kernel)), va_Nw.of rfl (hts (.methodLinkNest RX8 41 yX5_init RX8) (by decide +kernel)), va_Nw.of rfl (hts (.methodLinkNest RX8 48 yX4_init RX8) (by decide +kernel)), va_Nw.of rfl (hts (.methodLinkNest RX8 55 yX1_init RX8) (by decide +kernel)), va_Nw.of rfl (hts (.methodLinkNest RX8 62 yX0_init RX8) (by decide +kernel)), va_Nw.of rfl (hts (.methodLinkNest RX8 69 yX3_init RX8) (by decide +kernel)), va_Nw.of rfl (hts (.methodLinkNest RX8 74 yX6_init RX8) (by decide +kernel))⟩, ⟨va_Nw.of rfl (hts (.methodLinkNest RX6 19 yX8_within RX8) (by decide +kernel)), va_Nw.of rfl (hts (.methodLinkNest RX2 65 yX8_within RX8) (by decide +kernel)), va_Nw.of rfl (hts (.methodLinkNest RX2 77 yX8_has RX8) (by decide +kernel)), va_Nw.of rfl (hts (.methodLinkNest RX7 19 yX8_within RX8) (by decide +kernel))⟩, ⟨va_Nw.of rfl (hts (.fieldLinkNest RX2 37 RX8 "TOLD_FIRST" "[I" RX8) (by decide +kernel)), va_Nw.of rfl (hts (.fieldLinkNest RX7 93 RX8 "TOLD_LEAST" "[I" RX8) (by decide +kernel)), va_Nw.of rfl (hts (.fieldLinkNest RX7 96 RX8 "TOLD_MOST" "[I" RX8) (by decide +kernel))⟩⟩
set_option maxRecDepth 100000 in
theorem wr_of {b : Nat} {s : State} {sa : Nat → Nat} (hs : ∀ c ∈ qGv, c.before #[Value.ref b] s = true) (hts : ∀ w ∈ lw_tbl, w.before #[Value.ref b] s = true) (he : ∀ i, i < 9 → (qTm i).eval #[Value.ref b] s none [] s = some (.ref (sa i))) : qWR sa s :=
  ⟨⟨vk_R.of (A := #[Value.ref b]) (hts (.stringRef RX7 40 "party") (by decide +kernel)) (he 0 (by decide)), vk_R.of (A := #[Value.ref b]) (hts (.stringRef RX7 49 "tie") (by decide +kernel)) (he 1 (by decide)), vk_R.of (A := #[Value.ref b]) (hts (.stringRef RX7 55 "shun") (by decide +kernel)) (he 2 (by decide)), vk_R.of (A := #[Value.ref b]) (hts (.stringRef RX7 57 "free") (by decide +kernel)) (he 3 (by decide)), vk_R.of (A := #[Value.ref b]) (hts (.stringRef RX7 59 "seats") (by decide +kernel)) (he 4 (by decide)), vk_R.of (A := #[Value.ref b]) (hts (.stringRef RX7 64 "law") (by decide +kernel)) (he 5 (by decide)), vk_R.of (A := #[Value.ref b]) (hts (.stringRef RX7 66 "rule") (by decide +kernel)) (he 6 (by decide)), vk_R.of (A := #[Value.ref b]) (hts (.stringRef RX7 68 "hermits") (by decide +kernel)) (he 7 (by decide)), vk_R.of (A := #[Value.ref b]) (hts (.stringRef RX7 70 "cost") (by decide +kernel)) (he 8 (by decide))⟩, ⟨vk_R.of (A := #[Value.ref b]) (hts (.stringRef RX9 209 "party") (by decide +kernel)) (va_eqr (hs _ (tm_eq 0 (by decide))) (he 0 (by decide))), vk_R.of (A := #[Value.ref b]) (hts (.stringRef RX9 218 "tie") (by decide +kernel)) (va_eqr (hs _ (tm_eq 1 (by decide))) (he 1 (by decide))), vk_R.of (A := #[Value.ref b]) (hts (.stringRef RX9 223 "shun") (by decide +kernel)) (va_eqr (hs _ (tm_eq 2 (by decide))) (he 2 (by decide))), vk_R.of (A := #[Value.ref b]) (hts (.stringRef RX9 225 "free") (by decide +kernel)) (va_eqr (hs _ (tm_eq 3 (by decide))) (he 3 (by decide))), vk_R.of (A := #[Value.ref b]) (hts (.stringRef RX9 227 "seats") (by decide +kernel)) (va_eqr (hs _ (tm_eq 4 (by decide))) (he 4 (by decide))), vk_R.of (A := #[Value.ref b]) (hts (.stringRef RX9 231 "law") (by decide +kernel)) (va_eqr (hs _ (tm_eq 5 (by decide))) (he 5 (by decide))), vk_R.of (A := #[Value.ref b]) (hts (.stringRef RX9 232 "rule") (by decide +kernel)) (va_eqr (hs _ (tm_eq 6 (by decide))) (he 6 (by decide))), vk_R.of (A := #[Value.ref b]) (hts (.stringRef RX9 233 "hermits") (by decide +kernel)) (va_eqr (hs _ (tm_eq 7 (by decide))) (he 7 (by decide))), vk_R.of (A := #[Value.ref b]) (hts (.stringRef RX9 234 "cost") (by decide +kernel)) (va_eqr (hs _ (tm_eq 8 (by decide))) (he 8 (by decide)))⟩⟩
set_option maxRecDepth 100000 in
theorem env_of {b : Nat} {s : State} {sa va : Nat → Nat} (hs : ∀ c ∈ qGv, c.before #[Value.ref b] s = true) (hts : ∀ w ∈ lw_tbl, w.before #[Value.ref b] s = true) (hW : qWs sa va (fun q => s.heap.size ≤ q) s s.heap) : qEnv sa va (fun q => s.heap.size ≤ q) s s.heap := by
  have hA : ∀ a : Nat, a < s.heap.size → ¬ (fun q : Nat => s.heap.size ≤ q) a := fun a h => Nat.not_le.mpr h
  have hini := hts (.initialized RX8) (by decide +kernel)
  exact ⟨⟨st_of hs (hts (.laysStatic RX8 "KIND_ABOVE" "[I") (by decide +kernel)) hini hA (by decide) (by decide +kernel) (by decide +kernel) (by decide +kernel), st_of hs (hts (.laysStatic RX8 "TOLD_FIRST" "[I") (by decide +kernel)) hini hA (by decide) (by decide +kernel) (by decide +kernel) (by decide +kernel), st_of hs (hts (.laysStatic RX8 "TOLD_LEAST" "[I") (by decide +kernel)) hini hA (by decide) (by decide +kernel) (by decide +kernel) (by decide +kernel), st_of hs (hts (.laysStatic RX8 "TOLD_MOST" "[I") (by decide +kernel)) hini hA (by decide) (by decide +kernel) (by decide +kernel) (by decide +kernel)⟩, hW,
    va_Zof (hts (.laysStatic "java/lang/String" "COMPACT_STRINGS" "Z") (by decide +kernel)) (hts (.initialized "java/lang/String") (by decide +kernel)) (va_eqi (hs _ (show Cond.eq (.static "java/lang/String" "COMPACT_STRINGS" "Z") (.int 1) ∈ qGv by decide +kernel))) hA,
    va_Zqof (hts (.laysStatic "jdk/internal/util/Preconditions" "SIOOBE_FORMATTER" "Ljava/util/function/BiFunction;") (by decide +kernel)) (hts (.initialized "jdk/internal/util/Preconditions") (by decide +kernel)) (hs _ (show Cond.isRef (.static "jdk/internal/util/Preconditions" "SIOOBE_FORMATTER" "Ljava/util/function/BiFunction;") ∈ qGv by decide +kernel)) hA⟩
theorem mk_of {b : Nat} {s : State} (hts : ∀ w ∈ lw_tbl, w.before #[Value.ref b] s = true) : qMk s :=
  ⟨va_AO.of (hts (.arrayOver (.object "RowsOnlyPrimes$Shelf")) (by decide +kernel)), hts (.arrayOver (.array .int)) (by decide +kernel), hts (.arrayOver (.array .long)) (by decide +kernel), hts (.arrayOver (.array .boolean)) (by decide +kernel)⟩
/-- both sides at first -/
def V0 : qV := fun i p => if i = 6 then (if p = 0 then 13 else if p = 2 then 3 else if p = 3 then 3 else if p = 4 then 2 else 0) else 0
def Z0 : qW := fun i => if i = 12 then 1 else 0
theorem V0_z {i p : Nat} (h : i ≠ 6) : V0 i p = 0 := if_neg h
theorem wf0 : WF V0 := by
  refine ⟨⟨by decide, by decide⟩, ⟨by decide, by decide, by decide, by decide, by decide, by decide⟩, fun p hp => ?_, fun p _ hp => ⟨V0_z (by decide), V0_z (by decide)⟩, fun p q hp => ?_, fun p q hp => ?_, fun p hp => ?_⟩
  · rw [V0_z (by decide), V0_z (by decide), V0_z (by decide), V0_z (by decide), V0_z (by decide), V0_z (by decide), V0_z (by decide)]
    decide
  · rw [V0_z (by decide)] at hp; omega
  · rw [V0_z (by decide)] at hp; omega
  · rw [V0_z (by decide)] at hp; omega
theorem j5 {j : Nat} (h : j < 5) : j = 0 ∨ j = 1 ∨ j = 2 ∨ j = 3 ∨ j = 4 := by omega
theorem rel0 : Rel (b2i false, b2i false) xI0 xJ0 nI0 nJ0 := by
  refine ⟨V0, Z0, ⟨⟨⟨fun j _ => rfl, fun j _ => rfl, fun j _ => rfl, fun j _ => rfl, fun j _ => rfl, fun j _ => rfl⟩, fun j hj => ?_, ⟨rfl, rfl⟩, rfl, rfl, rfl, rfl⟩, ⟨⟨fun j _ => rfl, fun j _ => rfl, fun j _ => rfl, fun j _ => rfl, fun j _ => rfl, fun j _ => rfl⟩, fun j hj => ?_, ⟨rfl, rfl⟩, rfl, rfl, rfl, rfl⟩, wf0⟩, ⟨rfl, Or.inl rfl⟩, ⟨⟨0, by decide, rfl, rfl⟩, fun j _ => ⟨0, by decide, rfl, rfl⟩⟩, fun s hs => ?_, fun j _ => rfl, ⟨rfl, rfl⟩, ⟨rfl, rfl⟩, rfl, rfl⟩
  · rcases j5 hj with rfl | rfl | rfl | rfl | rfl <;> first | rfl | decide
  · rcases j5 hj with rfl | rfl | rfl | rfl | rfl <;> first | rfl | decide
  · refine ⟨fun j _ => rfl, ⟨0, by decide, ?_, ?_⟩, Or.inl ⟨?_, ?_⟩⟩ <;> (rcases (show s = 0 ∨ s = 1 ∨ s = 2 ∨ s = 3 ∨ s = 4 ∨ s = 5 ∨ s = 6 ∨ s = 7 by omega) with rfl | rfl | rfl | rfl | rfl | rfl | rfl | rfl <;> rfl)
abbrev fsX8 : List Value := [.null, .null, .null, .null, .null, .null, .null, .null, .null, .null, .null, .int 0]
theorem fsX8_ok : ∀ j, j < 12 → defaultValue (tyX8 j) = vp_V fsX8 j := fun j hj => by
  rcases (show j = 0 ∨ j = 1 ∨ j = 2 ∨ j = 3 ∨ j = 4 ∨ j = 5 ∨ j = 6 ∨ j = 7 ∨ j = 8 ∨ j = 9 ∨ j = 10 ∨ j = 11 by omega) with rfl | rfl | rfl | rfl | rfl | rfl | rfl | rfl | rfl | rfl | rfl | rfl <;> rfl
/-- what a made object's own world may touch, when the object itself is new -/
theorem new_hi {S0 q : Nat} {ci : Nat} {fs : List Value} {sz : Nat} (hq : S0 ≤ q) (hz : S0 ≤ sz) : ∀ x, va_A [(q, .inr (ci, fs))] sz x → S0 ≤ x := by
  intro x h
  rcases h with ⟨k, e, h⟩ | h
  · have : k < 1 := (List.getElem?_eq_some_iff.mp h).1
    rw [show k = 0 by omega] at h
    cases h
    exact hq
  · exact Nat.le_trans hz h
set_option maxHeartbeats 4000000 in
set_option maxRecDepth 100000 in
theorem whole_start {p : Program} {e : Env} {s : State} {m : MethodId} {below : List Frame} {meth : Method} {c : Code} (l : Launch) (hflags : l.flags = flags0) {b L : Nat} {xs : Nat → Int32} (hL : L ≤ 3072) (C0 : lw_At p s m meth c b L xs) : W p l e room_1 s m #[Value.ref b] below meth c s.heap [] 0 0 (lw_Z below #[Value.ref b] s) (entryFrame m ([Value.ref b] : List Value).toArray 4) := by
  obtain ⟨hx, hb, hr, hml, hown, htbl, hX, hbl, hlocks, hgv⟩ := id C0
  have hs : ∀ c ∈ qGv, c.before #[Value.ref b] s = true := flat_of_before _ hgv
  obtain ⟨D, cy, hK0⟩ := known_of htbl
  obtain ⟨sa, va, hWs, hev⟩ := ws_of (A := fun q => s.heap.size ≤ q) hs (fun a h => Nat.not_le.mpr h)
  have hK : qK D cy sa s := ⟨hK0, nest_of htbl, wr_of hs htbl hev⟩
  have hE := env_of hs htbl hWs
  have hM := mk_of htbl
  have hown : s.vm.findClass RL = some m.cls := hown
  have hts : ∀ w ∈ wsL_law, w.before #[Value.ref b] s = true := fun w h => htbl w (wsL_law_in w h)
  have C : lwC p s m c b L xs D cy sa va := ⟨⟨hx, hb, hml, hown, hts⟩, ⟨hX, hbl⟩, hK, hE, hM⟩
  have hl := lv_entry ([.ref b]) (n := 4) (Nat.le_of_ble_eq_true rfl)
  rw [lg_entry_eq]
  generalize (lg_sl ([.ref b]) ++ List.replicate (4 - (lg_sl ([.ref b])).length) Slot.unset).toArray = ls at hl ⊢
  have hl : lv_has ls 4 [(0, .ref b)] := hl
  refine va_new (D := D) (cl := vwCl) (tys := qT cy) (ws := []) (A := fun q => s.heap.size ≤ q) (H0 := s.heap) (ci := 8) (fs := fsX8) (C := RX8) (T := TX8) (N := 12) hx hb hts inlX8 tyX8 tyX8_ok hown (hts (.classLink RL 7 RX8) (by decide +kernel)) (hts (.instantiable RX8 12) (by decide +kernel)) (hts (.initialized RX8) (by decide +kernel)) hK.1 (fun k q h => by simp at h) ⟨fun i j x y h _ _ => by simp at h, fun k q h => by simp at h⟩ va_S.rf (fun q h => h) rfl fsX8_ok (Nat.le_of_ble_eq_true rfl) (Nat.le_of_ble_eq_true rfl) dL_law_0 (fun q H1 hP1 hD1 hS1 => ?_)
  refine lv_dup hx hb dL_law_3 rfl ?_
  have hq : s.heap.size ≤ q := hD1.2 0 (q, .inr (8, fsX8)) rfl
  have hPc : va_P D vwCl [(q, .inr (8, fsX8))] H1 := hP1
  have hFc : ∀ x, va_A [(q, .inr (8, fsX8))] H1.size x → s.heap.size ≤ x := new_hi hq hS1.1
  have hTd : qSt "TOLD_FIRST" qTab1 (va_A [(q, .inr (8, fsX8))] H1.size) s H1 := (hE.1.2.1.narrow hFc).kept (fun x hlt _ => hS1.2.1 x hlt (Nat.not_le.mpr hlt))
  refine va_callv (A0 := fun q => s.heap.size ≤ q) (va_runI (As := []) (rest := [.ref q]) ⟨hx, hb, hml, hown, hts⟩ (c_X8_init l (D := D) (cy := cy) (sa := sa) q H1.size) (cwI 0 hts gL_law_X8_init rfl rfl rfl (hts (.initialized RX8) (by decide +kernel)) (hts (.methodLink RL 9 yX8_init) (by decide +kernel)) (hts (.instanceMethod yX8_init) (by decide +kernel)) rfl (by decide +kernel) ⟨Nat.le_of_ble_eq_true rfl, Nat.le_of_ble_eq_true rfl⟩) ⟨qIn_blind, fun U hU hW => ⟨rfl, by rw [hU], by rw [hU]; exact hPc, hK.warm hW, hM.moved hW.alike, by rw [hU]; exact hTd.moved hW.alike⟩⟩ rfl rfl hl.1 rfl (lv_room (Nat.le_of_ble_eq_true rfl)) dL_law_4 ⟨Nat.le_of_ble_eq_true rfl, Nat.le_of_ble_eq_true rfl⟩) hS1 (fun x _ h => hFc x h) hFc (fun u t H2 locs ht hvm hw hB hz1 hk1 hS2 => ?_)
  obtain ⟨adX, eX0, hPX, hNX, hfX⟩ := hB
  rw [ht] at hPX
  refine va_forget (fun x hx1 => hS2.2.2 x hx1) ?_
  have hloX : ∀ k, xS k → adX k < H2.size := fun k hk => (hPX k hk).lt
  have hhiX : ∀ k, xS k → s.heap.size ≤ adX k := fun k hk => by
    by_cases k0 : k = 0
    · rw [k0, eX0]; exact hq
    · exact Nat.le_trans hS1.1 (hfX k hk k0)
  refine lv_astore_n (lv' := [(1, .ref q), (0, .ref b)]) hx hb dL_law_7 rfl hl (by decide) rfl (fun ls hl => ?_)
  refine va_new (D := D) (cl := vwCl) (tys := qT cy) (ws := []) (A := fun q => H2.size ≤ q) (H0 := H2) (ci := 9) (fs := fsX9) (C := RX9) (T := TX9) (N := 42) hx hb hts inlX9 tyX9 tyX9_ok hown (hts (.classLink RL 10 RX9) (by decide +kernel)) (hts (.instantiable RX9 42) (by decide +kernel)) (hts (.initialized RX9) (by decide +kernel)) hK.1 (fun k q h => by simp at h) ⟨fun i j x y h _ _ => by simp at h, fun k q h => by simp at h⟩ va_S.rf (fun q h => h) rfl fsX9_ok (Nat.le_of_ble_eq_true rfl) (Nat.le_of_ble_eq_true rfl) dL_law_8 (fun q2 H3 hP3 hD3 hS3 => ?_)
  refine lv_dup hx hb dL_law_11 rfl ?_
  have hq2 : H2.size ≤ q2 := hD3.2 0 (q2, .inr (9, fsX9)) rfl
  have hPc3 : va_P D vwCl [(q2, .inr (9, fsX9))] H3 := hP3
  have hFc3 : ∀ x, va_A [(q2, .inr (9, fsX9))] H3.size x → H2.size ≤ x := new_hi hq2 hS3.1
  have hkp : ∀ x : Nat, x < s.heap.size → H3[x]? = s.heap[x]? := fun x hlt => (hS3.2.1 x (Nat.lt_of_lt_of_le hlt hS2.1) (Nat.not_le.mpr (Nat.lt_of_lt_of_le hlt hS2.1))).trans (hS2.2.1 x hlt (Nat.not_le.mpr hlt))
  have hTd3 : qSt "TOLD_FIRST" qTab1 (va_A [(q2, .inr (9, fsX9))] H3.size) s H3 := (hE.1.2.1.narrow (fun x h => Nat.le_trans hS2.1 (hFc3 x h))).kept (fun x hlt _ => hkp x hlt)
  refine va_callv (A0 := fun q => H2.size ≤ q) (va_runI (As := []) (rest := [.ref q2]) ⟨hx, hb, hml, hown, hts⟩ (c_X9_init l (D := D) (cy := cy) (sa := sa) q2 H3.size) (cwI 0 hts gL_law_X9_init rfl rfl rfl (hts (.initialized RX9) (by decide +kernel)) (hts (.methodLink RL 12 yX9_init) (by decide +kernel)) (hts (.instanceMethod yX9_init) (by decide +kernel)) rfl (by decide +kernel) ⟨Nat.le_of_ble_eq_true rfl, Nat.le_of_ble_eq_true rfl⟩) ⟨qIn_blind, fun U hU hW => ⟨rfl, by rw [hU], by rw [hU]; exact hPc3, hK.warm hW, hM.moved hW.alike, by rw [hU]; exact hTd3.moved hW.alike⟩⟩ rfl rfl hl.1 rfl (lv_room (Nat.le_of_ble_eq_true rfl)) dL_law_12 ⟨Nat.le_of_ble_eq_true rfl, Nat.le_of_ble_eq_true rfl⟩) hS3 (fun x _ h => hFc3 x h) hFc3 (fun u t H4 locs4 ht4 hvm4 hw4 hB4 hz4 hk4 hS4 => ?_)
  obtain ⟨adM, eM0, hPM, hNM, hfM⟩ := hB4
  rw [ht4] at hPM
  refine va_forget (fun x hx1 => Nat.le_trans hS2.1 (hS4.2.2 x hx1)) ?_
  have hhiM : ∀ k, k < 40 → H2.size ≤ adM k := fun k hk => by
    by_cases k0 : k = 0
    · rw [k0, eM0]; exact hq2
    · exact Nat.le_trans hS3.1 (hfM k hk k0)
  have m40 : ∀ k, mS false false k → k < 40 := fun k h => by
    rcases h with h | ⟨h, -⟩ | ⟨h, -⟩
    · exact h
    · cases h
    · cases h
  have hw0 : lwW s D cy adX adM false false xI0 xJ0 nI0 nJ0 H4 := ⟨⟨hPX.kept (fun x hlt _ => hS4.2.1 x hlt (Nat.not_le.mpr hlt)), hNX, hhiX⟩, ⟨fun k h => hPM k (m40 k h), fun i j hi hj => hNM i j (m40 i hi) (m40 j hj), fun k h => Nat.le_trans hS2.1 (hhiM k (m40 k h))⟩, fun j k hj hk e => absurd (hloX j hj) (by rw [e]; exact Nat.not_lt.mpr (hhiM k (m40 k hk))), Nat.le_trans hS2.1 hS4.1, fun x hlt => (hS4.2.1 x (Nat.lt_of_lt_of_le hlt hS2.1) (Nat.not_le.mpr (Nat.lt_of_lt_of_le hlt hS2.1))).trans (hS2.2.1 x hlt (Nat.not_le.mpr hlt))⟩
  refine lv_astore_n (lv' := [(2, .ref q2), (1, .ref q), (0, .ref b)]) hx hb dL_law_15 rfl hl (by decide) rfl (fun ls hl => ?_)
  refine lv_iconst (v := 0) hx hb dL_law_16 (by decide) ?_
  refine lv_istore_n (lv' := [(3, .int 0), (2, .ref q2), (1, .ref q), (0, .ref b)]) hx hb dL_law_17 rfl hl (by decide) rfl (fun ls hl => ?_)
  subst eX0
  exact law_loop (M0 := q2) C hr hlocks hL 1000 0 (by decide) (by decide) false false adM xI0 xJ0 nI0 nJ0 H4 ls eM0 hl hw0 rel0
