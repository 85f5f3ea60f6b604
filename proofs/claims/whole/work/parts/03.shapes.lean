/-! The two worlds: the class's 58 cells, the reference's 40 (and 40 for each of the two that it makes). -/
abbrev xS : Nat → Prop := fun k => k < 58
def flX8 (ad : Nat → Nat) : (Nat → Int32) → (Nat → Int64) → List Value := fun f _ => [.ref (ad 1), .ref (ad 9), .ref (ad 17), .ref (ad 25), .ref (ad 27), .ref (ad 44), .ref (ad 45), .ref (ad 48), .ref (ad 51), .ref (ad 54), .ref (ad 57), .int (f 11)]
def flX2 (ad : Nat → Nat) (b : Nat) : (Nat → Int32) → (Nat → Int64) → List Value := fun f _ => [.ref (ad (b + 1)), .ref (ad (b + 2)), .ref (ad (b + 3)), .ref (ad (b + 4)), .ref (ad (b + 5)), .ref (ad (b + 6)), .ref (ad (b + 7)), .int (f 7), .int (f 8), .int (f 9), .int (f 10), .int (f 11), .int (f 12)]
def flX7 (ad : Nat → Nat) : (Nat → Int32) → (Nat → Int64) → List Value := fun f _ => [.ref (ad 26), .int (f 1), .int (f 2), .int (f 3), .int (f 4), .int (f 5)]
def flX6 (ad : Nat → Nat) (k : Nat) : (Nat → Int32) → (Nat → Int64) → List Value := fun f _ => [.ref (ad (k + 1)), .int (f 1), .int (f 2)]
def flX5 (ad : Nat → Nat) : (Nat → Int32) → (Nat → Int64) → List Value := fun f _ => [.ref (ad 46), .ref (ad 47), .int (f 2)]
def flX4 (ad : Nat → Nat) : (Nat → Int32) → (Nat → Int64) → List Value := fun f _ => [.ref (ad 49), .ref (ad 50), .int (f 2)]
def flX1 (ad : Nat → Nat) : (Nat → Int32) → (Nat → Int64) → List Value := fun _ _ => [.ref (ad 52), .ref (ad 53)]
def flX0 (ad : Nat → Nat) : (Nat → Int32) → (Nat → Int64) → List Value := fun f _ => [.ref (ad 55), .ref (ad 56), .int (f 2)]
def flX3 : (Nat → Int32) → (Nat → Int64) → List Value := fun f _ => [.int (f 0), .int (f 1), .int (f 2)]
abbrev qeI (cy : Nat → ClassId) (n : Nat) : (Nat → Int32) → (Nat → Int64) → va_E := fun f _ => .inl (cy 0, n, .inl f)
abbrev qeJ (cy : Nat → ClassId) (n : Nat) : (Nat → Int32) → (Nat → Int64) → va_E := fun _ g => .inl (cy 1, n, .inr (.inl g))
abbrev qeZ (cy : Nat → ClassId) (n : Nat) : (Nat → Int32) → (Nat → Int64) → va_E := fun f _ => .inl (cy 2, n, .inl f)
abbrev qeR (cy : Nat → ClassId) (ad : Nat → Nat) (t n : Nat) (rf : Nat → Nat) : (Nat → Int32) → (Nat → Int64) → va_E := fun _ _ => .inl (cy t, n, .inr (.inr (.inr (.inr (fun i => some (ad (rf i)))))))
abbrev qeO (ci : Nat) (fl : (Nat → Int32) → (Nat → Int64) → List Value) : (Nat → Int32) → (Nat → Int64) → va_E := fun f g => .inr (ci, fl f g)
def eXl (ad : Nat → Nat) (cy : Nat → ClassId) : List ((Nat → Int32) → (Nat → Int64) → va_E) := [qeO 8 (flX8 ad), qeO 2 (flX2 ad 1), qeI cy 8, qeI cy 8, qeI cy 8, qeI cy 8, qeI cy 8, qeI cy 8, qeI cy 5, qeO 2 (flX2 ad 9), qeI cy 8, qeI cy 8, qeI cy 8, qeI cy 8, qeI cy 8, qeI cy 8, qeI cy 5, qeO 2 (flX2 ad 17), qeI cy 8, qeI cy 8, qeI cy 8, qeI cy 8, qeI cy 8, qeI cy 8, qeI cy 5, qeO 7 (flX7 ad), qeI cy 250, qeR cy ad 3 8 (fun i => 28 + 2 * i), qeO 6 (flX6 ad 28), qeJ cy 40, qeO 6 (flX6 ad 30), qeJ cy 40, qeO 6 (flX6 ad 32), qeJ cy 40, qeO 6 (flX6 ad 34), qeJ cy 40, qeO 6 (flX6 ad 36), qeJ cy 40, qeO 6 (flX6 ad 38), qeJ cy 40, qeO 6 (flX6 ad 40), qeJ cy 40, qeO 6 (flX6 ad 42), qeJ cy 40, qeI cy 5, qeO 5 (flX5 ad), qeI cy 256, qeI cy 256, qeO 4 (flX4 ad), qeI cy 99, qeI cy 401, qeO 1 (flX1 ad), qeZ cy 200, qeI cy 2, qeO 0 (flX0 ad), qeZ cy 256, qeI cy 256, qeO 3 flX3]
def eX (ad : Nat → Nat) (cy : Nat → ClassId) : qE := fun k f g => match (eXl ad cy)[k]? with
  | some h => h f g
  | none => .inr (0, [])
def isB (b : Nat) : Prop := b = 1 ∨ b = 9 ∨ b = 17
theorem isB_1 : isB 1 := Or.inl rfl
theorem isB_9 : isB 9 := Or.inr (Or.inl rfl)
theorem isB_17 : isB 17 := Or.inr (Or.inr rfl)
def isSh (k : Nat) : Prop := ∃ i, i < 8 ∧ k = 28 + 2 * i
theorem isSh_of {i : Int32} (h : qin i 8) : isSh (28 + 2 * i.toNatClampNeg) := ⟨_, qin_lt h, rfl⟩
section SX
variable {ad : Nat → Nat} {cy : Nat → ClassId}
theorem oX8 : qO xS (eX ad cy) 0 8 (flX8 ad) := ⟨by decide, fun _ _ => rfl⟩
theorem oX7 : qO xS (eX ad cy) 25 7 (flX7 ad) := ⟨by decide, fun _ _ => rfl⟩
theorem oX5 : qO xS (eX ad cy) 45 5 (flX5 ad) := ⟨by decide, fun _ _ => rfl⟩
theorem oX4 : qO xS (eX ad cy) 48 4 (flX4 ad) := ⟨by decide, fun _ _ => rfl⟩
theorem oX1 : qO xS (eX ad cy) 51 1 (flX1 ad) := ⟨by decide, fun _ _ => rfl⟩
theorem oX0 : qO xS (eX ad cy) 54 0 (flX0 ad) := ⟨by decide, fun _ _ => rfl⟩
theorem oX3 : qO xS (eX ad cy) 57 3 flX3 := ⟨by decide, fun _ _ => rfl⟩
theorem oX2 {b : Nat} (z : isB b) : qO xS (eX ad cy) b 2 (flX2 ad b) := by
  rcases z with rfl | rfl | rfl <;> exact ⟨by decide, fun _ _ => rfl⟩
theorem aX2_1 {b : Nat} (z : isB b) : qAI xS (eX ad cy) cy (b + 1) 8 := by
  rcases z with rfl | rfl | rfl <;> exact ⟨by decide, fun _ _ => rfl⟩
theorem aX2_2 {b : Nat} (z : isB b) : qAI xS (eX ad cy) cy (b + 2) 8 := by
  rcases z with rfl | rfl | rfl <;> exact ⟨by decide, fun _ _ => rfl⟩
theorem aX2_3 {b : Nat} (z : isB b) : qAI xS (eX ad cy) cy (b + 3) 8 := by
  rcases z with rfl | rfl | rfl <;> exact ⟨by decide, fun _ _ => rfl⟩
theorem aX2_4 {b : Nat} (z : isB b) : qAI xS (eX ad cy) cy (b + 4) 8 := by
  rcases z with rfl | rfl | rfl <;> exact ⟨by decide, fun _ _ => rfl⟩
theorem aX2_5 {b : Nat} (z : isB b) : qAI xS (eX ad cy) cy (b + 5) 8 := by
  rcases z with rfl | rfl | rfl <;> exact ⟨by decide, fun _ _ => rfl⟩
theorem aX2_6 {b : Nat} (z : isB b) : qAI xS (eX ad cy) cy (b + 6) 8 := by
  rcases z with rfl | rfl | rfl <;> exact ⟨by decide, fun _ _ => rfl⟩
theorem aX2_7 {b : Nat} (z : isB b) : qAI xS (eX ad cy) cy (b + 7) 5 := by
  rcases z with rfl | rfl | rfl <;> exact ⟨by decide, fun _ _ => rfl⟩
theorem oX6 {k : Nat} (z : isSh k) : qO xS (eX ad cy) k 6 (flX6 ad k) := by
  obtain ⟨i, hi, rfl⟩ := z
  rcases (show i = 0 ∨ i = 1 ∨ i = 2 ∨ i = 3 ∨ i = 4 ∨ i = 5 ∨ i = 6 ∨ i = 7 by omega) with rfl | rfl | rfl | rfl | rfl | rfl | rfl | rfl <;> exact ⟨by decide, fun _ _ => rfl⟩
theorem aX6_1 {k : Nat} (z : isSh k) : qAJ xS (eX ad cy) cy (k + 1) 40 := by
  obtain ⟨i, hi, rfl⟩ := z
  rcases (show i = 0 ∨ i = 1 ∨ i = 2 ∨ i = 3 ∨ i = 4 ∨ i = 5 ∨ i = 6 ∨ i = 7 by omega) with rfl | rfl | rfl | rfl | rfl | rfl | rfl | rfl <;> exact ⟨by decide, fun _ _ => rfl⟩
theorem aX8_27 : qAR xS (eX ad cy) cy ad 3 27 8 (fun i => 28 + 2 * i) := ⟨by decide, fun _ _ => rfl⟩
theorem aX8_44 : qAI xS (eX ad cy) cy 44 5 := ⟨by decide, fun _ _ => rfl⟩
theorem aX7_1 : qAI xS (eX ad cy) cy 26 250 := ⟨by decide, fun _ _ => rfl⟩
theorem aX5_1 : qAI xS (eX ad cy) cy 46 256 := ⟨by decide, fun _ _ => rfl⟩
theorem aX5_2 : qAI xS (eX ad cy) cy 47 256 := ⟨by decide, fun _ _ => rfl⟩
theorem aX4_1 : qAI xS (eX ad cy) cy 49 99 := ⟨by decide, fun _ _ => rfl⟩
theorem aX4_2 : qAI xS (eX ad cy) cy 50 401 := ⟨by decide, fun _ _ => rfl⟩
theorem aX1_1 : qAZ xS (eX ad cy) cy 52 200 := ⟨by decide, fun _ _ => rfl⟩
theorem aX1_2 : qAI xS (eX ad cy) cy 53 2 := ⟨by decide, fun _ _ => rfl⟩
theorem aX0_1 : qAZ xS (eX ad cy) cy 55 256 := ⟨by decide, fun _ _ => rfl⟩
theorem aX0_2 : qAI xS (eX ad cy) cy 56 256 := ⟨by decide, fun _ _ => rfl⟩
end SX
def flX9 (ad : Nat → Nat) (b : Nat) : (Nat → Int32) → (Nat → Int64) → List Value := fun f _ => [.ref (ad (b + 1)), .ref (ad (b + 2)), .ref (ad (b + 3)), .ref (ad (b + 4)), .ref (ad (b + 13)), .ref (ad (b + 14)), .ref (ad (b + 15)), .int (f 7), .ref (ad (b + 16)), .int (f 9), .int (f 10), .int (f 11), .int (f 12), .int (f 13), .int (f 14), .int (f 15), .int (f 16), .int (f 17), .int (f 18), .ref (ad (b + 17)), .ref (ad (b + 18)), .ref (ad (b + 19)), .ref (ad (b + 20)), .ref (ad (b + 21)), .ref (ad (b + 22)), .int (f 25), (if f 26 = 0 then .null else .ref (ad 80)), (if f 27 = 0 then .null else .ref (ad 40)), .int (f 28), .int (f 29), .int (f 30), .int (f 31), .int (f 32), .ref (ad (b + 23)), .int (f 34), .ref (ad (b + 24)), .ref (ad (b + 25)), .ref (ad (b + 26)), .ref (ad (b + 27)), .ref (ad (b + 30)), .int (f 40), .int (f 41)]
def eMl (ad : Nat → Nat) (cy : Nat → ClassId) (b : Nat) : List ((Nat → Int32) → (Nat → Int64) → va_E) := [qeO 9 (flX9 ad b), qeI cy 8, qeI cy 8, qeI cy 8, qeR cy ad 5 8 (fun i => b + 5 + i), qeJ cy 40, qeJ cy 40, qeJ cy 40, qeJ cy 40, qeJ cy 40, qeJ cy 40, qeJ cy 40, qeJ cy 40, qeJ cy 40, qeI cy 8, qeI cy 250, qeI cy 8, qeI cy 8, qeI cy 8, qeI cy 8, qeI cy 8, qeI cy 8, qeI cy 8, qeI cy 4, qeI cy 401, qeI cy 256, qeI cy 256, qeR cy ad 6 2 (fun i => b + 28 + i), qeZ cy 100, qeZ cy 100, qeR cy ad 4 9 (fun i => b + 31 + i), qeI cy 256, qeI cy 256, qeI cy 256, qeI cy 256, qeI cy 256, qeI cy 256, qeI cy 256, qeI cy 256, qeI cy 256]
def eM (ad : Nat → Nat) (cy : Nat → ClassId) : qE := fun k f g => match (if k < 40 then (eMl ad cy 0)[k]? else if k < 80 then (eMl ad cy 40)[k - 40]? else (eMl ad cy 80)[k - 80]?) with
  | some h => h f g
  | none => .inr (0, [])
def isM (S : Nat → Prop) (b : Nat) : Prop := (b = 0 ∨ b = 40 ∨ b = 80) ∧ ∀ k, k < 40 → S (b + k)
abbrev isM0 (S : Nat → Prop) : Prop := isM S 0
section SM
variable {S : Nat → Prop} {ad : Nat → Nat} {cy : Nat → ClassId}
theorem oX9 {b : Nat} (z : isM S b) : qO S (eM ad cy) b 9 (flX9 ad b) := by
  obtain ⟨hb, hs⟩ := z
  have h := hs 0 (by decide)
  rcases hb with rfl | rfl | rfl <;> exact ⟨h, fun _ _ => rfl⟩
theorem aX9_1 {b : Nat} (z : isM S b) : qAI S (eM ad cy) cy (b + 1) 8 := by
  obtain ⟨hb, hs⟩ := z
  have h := hs 1 (by decide)
  rcases hb with rfl | rfl | rfl <;> exact ⟨h, fun _ _ => rfl⟩
theorem a0X9_1 (z : isM S 0) : qAI S (eM ad cy) cy 1 8 := by
  have h := z.2 1 (by decide)
  rw [Nat.zero_add] at h
  exact ⟨h, fun _ _ => rfl⟩
theorem aX9_13 {b : Nat} (z : isM S b) : qAJ S (eM ad cy) cy (b + 13) 40 := by
  obtain ⟨hb, hs⟩ := z
  have h := hs 13 (by decide)
  rcases hb with rfl | rfl | rfl <;> exact ⟨h, fun _ _ => rfl⟩
theorem a0X9_13 (z : isM S 0) : qAJ S (eM ad cy) cy 13 40 := by
  have h := z.2 13 (by decide)
  rw [Nat.zero_add] at h
  exact ⟨h, fun _ _ => rfl⟩
theorem aX9_14 {b : Nat} (z : isM S b) : qAI S (eM ad cy) cy (b + 14) 8 := by
  obtain ⟨hb, hs⟩ := z
  have h := hs 14 (by decide)
  rcases hb with rfl | rfl | rfl <;> exact ⟨h, fun _ _ => rfl⟩
theorem a0X9_14 (z : isM S 0) : qAI S (eM ad cy) cy 14 8 := by
  have h := z.2 14 (by decide)
  rw [Nat.zero_add] at h
  exact ⟨h, fun _ _ => rfl⟩
theorem aX9_15 {b : Nat} (z : isM S b) : qAI S (eM ad cy) cy (b + 15) 250 := by
  obtain ⟨hb, hs⟩ := z
  have h := hs 15 (by decide)
  rcases hb with rfl | rfl | rfl <;> exact ⟨h, fun _ _ => rfl⟩
theorem a0X9_15 (z : isM S 0) : qAI S (eM ad cy) cy 15 250 := by
  have h := z.2 15 (by decide)
  rw [Nat.zero_add] at h
  exact ⟨h, fun _ _ => rfl⟩
theorem aX9_16 {b : Nat} (z : isM S b) : qAI S (eM ad cy) cy (b + 16) 8 := by
  obtain ⟨hb, hs⟩ := z
  have h := hs 16 (by decide)
  rcases hb with rfl | rfl | rfl <;> exact ⟨h, fun _ _ => rfl⟩
theorem a0X9_16 (z : isM S 0) : qAI S (eM ad cy) cy 16 8 := by
  have h := z.2 16 (by decide)
  rw [Nat.zero_add] at h
  exact ⟨h, fun _ _ => rfl⟩
theorem aX9_17 {b : Nat} (z : isM S b) : qAI S (eM ad cy) cy (b + 17) 8 := by
  obtain ⟨hb, hs⟩ := z
  have h := hs 17 (by decide)
  rcases hb with rfl | rfl | rfl <;> exact ⟨h, fun _ _ => rfl⟩
theorem a0X9_17 (z : isM S 0) : qAI S (eM ad cy) cy 17 8 := by
  have h := z.2 17 (by decide)
  rw [Nat.zero_add] at h
  exact ⟨h, fun _ _ => rfl⟩
theorem aX9_18 {b : Nat} (z : isM S b) : qAI S (eM ad cy) cy (b + 18) 8 := by
  obtain ⟨hb, hs⟩ := z
  have h := hs 18 (by decide)
  rcases hb with rfl | rfl | rfl <;> exact ⟨h, fun _ _ => rfl⟩
theorem a0X9_18 (z : isM S 0) : qAI S (eM ad cy) cy 18 8 := by
  have h := z.2 18 (by decide)
  rw [Nat.zero_add] at h
  exact ⟨h, fun _ _ => rfl⟩
theorem aX9_19 {b : Nat} (z : isM S b) : qAI S (eM ad cy) cy (b + 19) 8 := by
  obtain ⟨hb, hs⟩ := z
  have h := hs 19 (by decide)
  rcases hb with rfl | rfl | rfl <;> exact ⟨h, fun _ _ => rfl⟩
theorem a0X9_19 (z : isM S 0) : qAI S (eM ad cy) cy 19 8 := by
  have h := z.2 19 (by decide)
  rw [Nat.zero_add] at h
  exact ⟨h, fun _ _ => rfl⟩
theorem aX9_2 {b : Nat} (z : isM S b) : qAI S (eM ad cy) cy (b + 2) 8 := by
  obtain ⟨hb, hs⟩ := z
  have h := hs 2 (by decide)
  rcases hb with rfl | rfl | rfl <;> exact ⟨h, fun _ _ => rfl⟩
theorem a0X9_2 (z : isM S 0) : qAI S (eM ad cy) cy 2 8 := by
  have h := z.2 2 (by decide)
  rw [Nat.zero_add] at h
  exact ⟨h, fun _ _ => rfl⟩
theorem aX9_20 {b : Nat} (z : isM S b) : qAI S (eM ad cy) cy (b + 20) 8 := by
  obtain ⟨hb, hs⟩ := z
  have h := hs 20 (by decide)
  rcases hb with rfl | rfl | rfl <;> exact ⟨h, fun _ _ => rfl⟩
theorem a0X9_20 (z : isM S 0) : qAI S (eM ad cy) cy 20 8 := by
  have h := z.2 20 (by decide)
  rw [Nat.zero_add] at h
  exact ⟨h, fun _ _ => rfl⟩
theorem aX9_21 {b : Nat} (z : isM S b) : qAI S (eM ad cy) cy (b + 21) 8 := by
  obtain ⟨hb, hs⟩ := z
  have h := hs 21 (by decide)
  rcases hb with rfl | rfl | rfl <;> exact ⟨h, fun _ _ => rfl⟩
theorem a0X9_21 (z : isM S 0) : qAI S (eM ad cy) cy 21 8 := by
  have h := z.2 21 (by decide)
  rw [Nat.zero_add] at h
  exact ⟨h, fun _ _ => rfl⟩
theorem aX9_22 {b : Nat} (z : isM S b) : qAI S (eM ad cy) cy (b + 22) 8 := by
  obtain ⟨hb, hs⟩ := z
  have h := hs 22 (by decide)
  rcases hb with rfl | rfl | rfl <;> exact ⟨h, fun _ _ => rfl⟩
theorem a0X9_22 (z : isM S 0) : qAI S (eM ad cy) cy 22 8 := by
  have h := z.2 22 (by decide)
  rw [Nat.zero_add] at h
  exact ⟨h, fun _ _ => rfl⟩
theorem aX9_23 {b : Nat} (z : isM S b) : qAI S (eM ad cy) cy (b + 23) 4 := by
  obtain ⟨hb, hs⟩ := z
  have h := hs 23 (by decide)
  rcases hb with rfl | rfl | rfl <;> exact ⟨h, fun _ _ => rfl⟩
theorem a0X9_23 (z : isM S 0) : qAI S (eM ad cy) cy 23 4 := by
  have h := z.2 23 (by decide)
  rw [Nat.zero_add] at h
  exact ⟨h, fun _ _ => rfl⟩
theorem aX9_24 {b : Nat} (z : isM S b) : qAI S (eM ad cy) cy (b + 24) 401 := by
  obtain ⟨hb, hs⟩ := z
  have h := hs 24 (by decide)
  rcases hb with rfl | rfl | rfl <;> exact ⟨h, fun _ _ => rfl⟩
theorem a0X9_24 (z : isM S 0) : qAI S (eM ad cy) cy 24 401 := by
  have h := z.2 24 (by decide)
  rw [Nat.zero_add] at h
  exact ⟨h, fun _ _ => rfl⟩
theorem aX9_25 {b : Nat} (z : isM S b) : qAI S (eM ad cy) cy (b + 25) 256 := by
  obtain ⟨hb, hs⟩ := z
  have h := hs 25 (by decide)
  rcases hb with rfl | rfl | rfl <;> exact ⟨h, fun _ _ => rfl⟩
theorem a0X9_25 (z : isM S 0) : qAI S (eM ad cy) cy 25 256 := by
  have h := z.2 25 (by decide)
  rw [Nat.zero_add] at h
  exact ⟨h, fun _ _ => rfl⟩
theorem aX9_26 {b : Nat} (z : isM S b) : qAI S (eM ad cy) cy (b + 26) 256 := by
  obtain ⟨hb, hs⟩ := z
  have h := hs 26 (by decide)
  rcases hb with rfl | rfl | rfl <;> exact ⟨h, fun _ _ => rfl⟩
theorem a0X9_26 (z : isM S 0) : qAI S (eM ad cy) cy 26 256 := by
  have h := z.2 26 (by decide)
  rw [Nat.zero_add] at h
  exact ⟨h, fun _ _ => rfl⟩
theorem a0X9_27 (z : isM S 0) : qAR S (eM ad cy) cy ad 6 27 2 (fun i => 28 + i) := by
  have h := z.2 27 (by decide)
  rw [Nat.zero_add] at h
  exact ⟨h, fun _ _ => rfl⟩
theorem aX9_27k (z : isM S 0) {j : Nat} (hj : j < 2) : qAZ S (eM ad cy) cy (28 + j) 100 := by
  have h := z.2 (28 + j) (by omega)
  rw [Nat.zero_add] at h
  rcases (show j = 0 ∨ j = 1 by omega) with rfl | rfl <;> exact ⟨h, fun _ _ => rfl⟩
theorem aX9_3 {b : Nat} (z : isM S b) : qAI S (eM ad cy) cy (b + 3) 8 := by
  obtain ⟨hb, hs⟩ := z
  have h := hs 3 (by decide)
  rcases hb with rfl | rfl | rfl <;> exact ⟨h, fun _ _ => rfl⟩
theorem a0X9_3 (z : isM S 0) : qAI S (eM ad cy) cy 3 8 := by
  have h := z.2 3 (by decide)
  rw [Nat.zero_add] at h
  exact ⟨h, fun _ _ => rfl⟩
theorem a0X9_30 (z : isM S 0) : qAR S (eM ad cy) cy ad 4 30 9 (fun i => 31 + i) := by
  have h := z.2 30 (by decide)
  rw [Nat.zero_add] at h
  exact ⟨h, fun _ _ => rfl⟩
theorem aX9_30k (z : isM S 0) {j : Nat} (hj : j < 9) : qAI S (eM ad cy) cy (31 + j) 256 := by
  have h := z.2 (31 + j) (by omega)
  rw [Nat.zero_add] at h
  rcases (show j = 0 ∨ j = 1 ∨ j = 2 ∨ j = 3 ∨ j = 4 ∨ j = 5 ∨ j = 6 ∨ j = 7 ∨ j = 8 by omega) with rfl | rfl | rfl | rfl | rfl | rfl | rfl | rfl | rfl <;> exact ⟨h, fun _ _ => rfl⟩
theorem a0X9_4 (z : isM S 0) : qAR S (eM ad cy) cy ad 5 4 8 (fun i => 5 + i) := by
  have h := z.2 4 (by decide)
  rw [Nat.zero_add] at h
  exact ⟨h, fun _ _ => rfl⟩
theorem aX9_4k (z : isM S 0) {j : Nat} (hj : j < 8) : qAJ S (eM ad cy) cy (5 + j) 40 := by
  have h := z.2 (5 + j) (by omega)
  rw [Nat.zero_add] at h
  rcases (show j = 0 ∨ j = 1 ∨ j = 2 ∨ j = 3 ∨ j = 4 ∨ j = 5 ∨ j = 6 ∨ j = 7 by omega) with rfl | rfl | rfl | rfl | rfl | rfl | rfl | rfl <;> exact ⟨h, fun _ _ => rfl⟩
end SM
