/-! ===== small facts for the walks ===== -/
theorem tab_cases (x : Int32) (n : Nat) (h : n < 2 ^ 31) : (x.toInt < 0 ∨ (n : Int) - 1 < x.toInt) ∨ ∃ k : Nat, k < n ∧ x = nI k := by
  rcases pk_ix x h with h1 | h1 | h1
  · exact Or.inl (Or.inl (by rw [i_lt] at h1; exact h1))
  · refine Or.inl (Or.inr ?_)
    rw [i_le, nI_toInt h] at h1
    omega
  · exact Or.inr h1
def swt (x : Int32) (n : Nat) : Nat := if x.toInt < 0 ∨ (n : Int) - 1 < x.toInt then n else x.toInt.toNat
theorem swt_out {x : Int32} {n : Nat} (h : x.toInt < 0 ∨ (n : Int) - 1 < x.toInt) : swt x n = n := if_pos h
theorem b2i_nar (b : Bool) : narrow .boolean (.int (b2i b)) = .int (b2i b) := by cases b <;> rfl
def bw (b : Nat) : Int32 := if b = 0 then 0 else 1
theorem bz_bw {b : Nat} (h : b < 2) : bz (bw b) = b := by
  rcases (by omega : b = 0 ∨ b = 1) with rfl | rfl <;> rfl
theorem lg_cmp_v (x y : Int64) : (y < x ∧ lg_cmp x y = 1) ∨ (x = y ∧ lg_cmp x y = 0) ∨ (x < y ∧ lg_cmp x y = -1) := by
  unfold lg_cmp
  by_cases h : y < x
  · simp [h]
  · by_cases h2 : x = y
    · simp [h2]
    · have : x < y := by
        rw [Int64.lt_iff_toInt_lt] at h ⊢
        have : x.toInt ≠ y.toInt := fun e => h2 (Int64.toInt_inj.mp e)
        omega
      simp [h, h2, this]
theorem lgc_le (x y : Int64) : lg_cmp x y ≤ 0 ↔ x ≤ y := by
  have h := lg_cmp_v x y
  simp only [Int64.lt_iff_toInt_lt, Int64.le_iff_toInt_le, ← Int64.toInt_inj] at h ⊢
  rcases h with ⟨h, e⟩ | ⟨h, e⟩ | ⟨h, e⟩ <;> rw [e]
  · exact ⟨fun q => absurd q (by decide), fun q => by omega⟩
  · exact ⟨fun _ => by omega, fun _ => by decide⟩
  · exact ⟨fun _ => by omega, fun _ => by decide⟩
theorem lgc_eq (x y : Int64) : lg_cmp x y = 0 ↔ x = y := by
  have h := lg_cmp_v x y
  simp only [Int64.lt_iff_toInt_lt, ← Int64.toInt_inj] at h ⊢
  rcases h with ⟨h, e⟩ | ⟨h, e⟩ | ⟨h, e⟩ <;> rw [e]
  · exact ⟨fun q => absurd q (by decide), fun q => by omega⟩
  · exact ⟨fun _ => by omega, fun _ => by decide⟩
  · exact ⟨fun q => absurd q (by decide), fun q => by omega⟩
theorem lgc_ne (x y : Int64) : lg_cmp x y = 0 ↔ x = y := lgc_eq x y
theorem lgc_lt (x y : Int64) : lg_cmp x y < 0 ↔ x < y := by
  have h := lg_cmp_v x y
  simp only [Int64.lt_iff_toInt_lt, ← Int64.toInt_inj] at h ⊢
  rcases h with ⟨h, e⟩ | ⟨h, e⟩ | ⟨h, e⟩ <;> rw [e]
  · exact ⟨fun q => absurd q (by decide), fun q => by omega⟩
  · exact ⟨fun q => absurd q (by decide), fun q => by omega⟩
  · exact ⟨fun _ => by omega, fun _ => by decide⟩
theorem lgc_ge (x y : Int64) : 0 ≤ lg_cmp x y ↔ y ≤ x := by
  have h := lg_cmp_v x y
  simp only [Int64.lt_iff_toInt_lt, Int64.le_iff_toInt_le, ← Int64.toInt_inj] at h ⊢
  rcases h with ⟨h, e⟩ | ⟨h, e⟩ | ⟨h, e⟩ <;> rw [e]
  · exact ⟨fun _ => by omega, fun _ => by decide⟩
  · exact ⟨fun _ => by omega, fun _ => by decide⟩
  · exact ⟨fun q => absurd q (by decide), fun q => by omega⟩
theorem lgc_gt (x y : Int64) : 0 < lg_cmp x y ↔ y < x := by
  have h := lg_cmp_v x y
  simp only [Int64.lt_iff_toInt_lt, ← Int64.toInt_inj] at h ⊢
  rcases h with ⟨h, e⟩ | ⟨h, e⟩ | ⟨h, e⟩ <;> rw [e]
  · exact ⟨fun _ => by omega, fun _ => by decide⟩
  · exact ⟨fun q => absurd q (by decide), fun q => by omega⟩
  · exact ⟨fun q => absurd q (by decide), fun q => by omega⟩
theorem clampI (x : Int32) : (x.toNatClampNeg : Int) = max x.toInt 0 := by
  simp only [Int32.toNatClampNeg]; omega
theorem clampN {x : Int32} {n : Nat} (h : vp_in x n) : x.toNatClampNeg < n := by
  rw [vp_in_iff] at h
  have := clampI x
  omega
/-- a number that is at least 0, below a count and below a bound -/
def inC (x n m : Int32) : Bool := if x < 0 then false else if n ≤ x then false else if m ≤ x then false else true
theorem inC_t {x n m : Int32} (h : inC x n m = true) : 0 ≤ x.toInt ∧ x.toInt < n.toInt ∧ x.toInt < m.toInt := by
  unfold inC at h
  by_cases h1 : x < 0
  · simp [h1] at h
  · by_cases h2 : n ≤ x
    · simp [h1, h2] at h
    · by_cases h3 : m ≤ x
      · simp [h1, h2, h3] at h
      · rw [i_lt] at h1
        rw [i_le] at h2 h3
        have : (0 : Int32).toInt = 0 := rfl
        omega
theorem inC_f {x n m : Int32} (h : inC x n m = false) : ¬ (0 ≤ x.toInt ∧ x.toInt < n.toInt ∧ x.toInt < m.toInt) := by
  unfold inC at h
  have e0 : (0 : Int32).toInt = 0 := rfl
  by_cases h1 : x < 0
  · rw [i_lt] at h1; omega
  · by_cases h2 : n ≤ x
    · rw [i_le] at h2; omega
    · by_cases h3 : m ≤ x
      · rw [i_le] at h3; omega
      · simp [h1, h2, h3] at h
theorem inC_6 {x n : Int32} (h : inC x n 6 = true) : x.toNatClampNeg < 6 := by
  have h1 := inC_t h
  have e : (6 : Int32).toInt = 6 := rfl
  have := clampI x
  omega
theorem inC_30 {x n : Int32} (h : inC x n 30 = true) : x.toNatClampNeg < 30 := by
  have h1 := inC_t h
  have e : (30 : Int32).toInt = 30 := rfl
  have := clampI x
  omega
theorem inC_3 {x n : Int32} (h : inC x n 3 = true) : x.toNatClampNeg < 3 := by
  have h1 := inC_t h
  have e : (3 : Int32).toInt = 3 := rfl
  have := clampI x
  omega
/-- months -/
def isMon (m : Int32) : Bool := if m < 0 then false else if 36 ≤ m then false else true
theorem isMon_t {m : Int32} (h : isMon m = true) : 0 ≤ m.toInt ∧ m.toInt < 36 := by
  unfold isMon at h
  have e0 : (0 : Int32).toInt = 0 := rfl
  have e1 : (36 : Int32).toInt = 36 := rfl
  by_cases h1 : m < 0
  · simp [h1] at h
  · by_cases h2 : 36 ≤ m
    · simp [h1, h2] at h
    · rw [i_lt] at h1
      rw [i_le] at h2
      omega
theorem isMon_f {m : Int32} (h : isMon m = false) : ¬ (0 ≤ m.toInt ∧ m.toInt < 36) := by
  unfold isMon at h
  have e0 : (0 : Int32).toInt = 0 := rfl
  have e1 : (36 : Int32).toInt = 36 := rfl
  by_cases h1 : m < 0
  · rw [i_lt] at h1; omega
  · by_cases h2 : 36 ≤ m
    · rw [i_le] at h2; omega
    · simp [h1, h2] at h
theorem isMon_in {m : Int32} (h : isMon m = true) : vp_in m 36 := by
  rw [vp_in_iff]
  exact isMon_t h
def isVal (v : Int32) : Bool := if v < 1 then false else if 999 < v then false else true
theorem isVal_iff {v : Int32} : isVal v = true ↔ 1 ≤ v.toInt ∧ v.toInt ≤ 999 := by
  unfold isVal
  have e0 : (1 : Int32).toInt = 1 := rfl
  have e1 : (999 : Int32).toInt = 999 := rfl
  by_cases h1 : v < 1
  · simp only [h1, ↓reduceIte]
    rw [i_lt] at h1
    constructor
    · intro h; cases h
    · intro h; omega
  · by_cases h2 : 999 < v
    · simp only [h1, h2, ↓reduceIte]
      rw [i_lt] at h2
      constructor
      · intro h; cases h
      · intro h; omega
    · simp only [h1, h2, ↓reduceIte]
      rw [i_lt] at h1 h2
      constructor
      · intro _; omega
      · intro _; trivial
