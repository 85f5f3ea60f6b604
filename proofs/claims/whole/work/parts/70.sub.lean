/-! Pure: how both walk the parts of a set (sets below 256). -/
/-- how many -/
def sPc (s : Nat) : Nat → Nat
  | 0 => 0
  | k + 1 => sPc s k + (if s.testBit k then 1 else 0)
/-- the class's walk: the parts of s with its lowest one -/
def walkX (s low : Int32) : Nat → Int32 → List Int32
  | 0, _ => []
  | k + 1, g => g :: walkX s low k (((g - low) - (1 : Int32)) &&& s)
/-- the reference's walk: all parts of s but the empty one -/
def walkM (s : Int32) : Nat → Int32 → List Int32
  | 0, _ => []
  | k + 1, g => if (0 : Int32) < g then g :: walkM s k ((g - (1 : Int32)) &&& s) else []
def lowB (s : Nat) : Nat := s &&& (s ^^^ (s - 1))
def subX (s : Nat) : List Nat := ((List.range (s + 1)).filter (fun g => decide (g &&& s = g) && decide (g &&& lowB s = lowB s) && decide (g ≠ 0))).reverse
def subM (s : Nat) : List Nat := ((List.range (s + 1)).filter (fun g => decide (g &&& s = g) && decide (g ≠ 0))).reverse
theorem pc_tab : ∀ s, s < 256 → f_J6_bitCount_0f7a4 (nI s) = some (nI (sPc s 8)) := by decide +kernel
theorem walkX_tab : ∀ s, s < 256 → 1 ≤ s → walkX (nI s) (nI s &&& (-nI s)) (2 ^ (sPc s 8 - 1)) (nI s) = (subX s).map nI ∧ 1 ≤ sPc s 8 ∧ sPc s 8 ≤ 8 := by decide +kernel
theorem walkM_tab : ∀ s, s < 256 → 1 ≤ s → walkM (nI s) 257 (nI s) = (subM s).map nI := by decide +kernel
theorem subX_mem {s g : Nat} : g ∈ subX s ↔ (g &&& s = g ∧ g &&& lowB s = lowB s ∧ g ≠ 0) := by
  unfold subX
  simp only [List.mem_reverse, List.mem_filter, List.mem_range, Bool.and_eq_true, decide_eq_true_eq]
  constructor
  · rintro ⟨-, ⟨h1, h2⟩, h3⟩; exact ⟨h1, h2, h3⟩
  · rintro ⟨h1, h2, h3⟩
    refine ⟨?_, ⟨h1, h2⟩, h3⟩
    have : g &&& s ≤ s := Nat.and_le_right
    omega
theorem subM_mem {s g : Nat} : g ∈ subM s ↔ (g &&& s = g ∧ g ≠ 0) := by
  unfold subM
  simp only [List.mem_reverse, List.mem_filter, List.mem_range, Bool.and_eq_true, decide_eq_true_eq]
  constructor
  · rintro ⟨-, h1, h2⟩; exact ⟨h1, h2⟩
  · rintro ⟨h1, h2⟩
    refine ⟨?_, h1, h2⟩
    have : g &&& s ≤ s := Nat.and_le_right
    omega
