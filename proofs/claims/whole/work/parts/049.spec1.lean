/-! ===== what the class's small methods answer ===== -/
def kindS (f : Nat → Int32) (m : Int32) : Int32 := if isMon m = true then f m.toNatClampNeg else 0
def valS (v f : Nat → Int32) (m : Int32) : Int32 := if isMon m = true then (if f m.toNatClampNeg = 0 then -1 else v m.toNatClampNeg) else -1
def hasS (f : Nat → Int32) (m : Int32) : Bool := if kindS f m = 0 then false else true
def putS (σ : MI) (b i : Nat) (mo v k : Int32) : MI := if isMon mo = true then s2 (s2 σ (48 + 57 * b + 6 * i) mo.toNatClampNeg v) (49 + 57 * b + 6 * i) mo.toNatClampNeg k else σ
def lateS (r : Int32) (f : Nat → Int32) : Int32 := if inC (r - 1) r 3 = true then f (r - 1).toNatClampNeg else -1
def addRS (σ : MI) (b i : Nat) (mo v : Int32) : MI :=
  if σ (47 + 57 * b + 6 * i) 5 < 0 then σ else if 3 ≤ σ (47 + 57 * b + 6 * i) 5 then σ else
  s2 (s2 (s2 (s2 σ (50 + 57 * b + 6 * i) (σ (47 + 57 * b + 6 * i) 5).toNatClampNeg mo) (51 + 57 * b + 6 * i) (σ (47 + 57 * b + 6 * i) 5).toNatClampNeg (valS (σ (48 + 57 * b + 6 * i)) (σ (49 + 57 * b + 6 * i)) mo)) (52 + 57 * b + 6 * i) (σ (47 + 57 * b + 6 * i) 5).toNatClampNeg v) (47 + 57 * b + 6 * i) 5 (σ (47 + 57 * b + 6 * i) 5 + 1)
def clrS (σ : MI) (b i : Nat) : Nat → MI
  | 0 => σ
  | k + 1 => s2 (s2 (clrS σ b i k) (48 + 57 * b + 6 * i) k 0) (49 + 57 * b + 6 * i) k 0
def forgS (σ : MI) (b i : Nat) : MI := s2 (clrS σ b i 36) (47 + 57 * b + 6 * i) 5 0
def kn (f : Nat → Int32) : Nat → Int32
  | 0 => -1
  | k + 1 => if f k = 0 then kn f k else nI k
def cntM (m : Int32) : Nat := if m.toInt < 0 then 0 else if 35 < m.toInt then 36 else m.toInt.toNat + 1
def knowS (f : Nat → Int32) (m : Int32) : Int32 := kn f (cntM m)
def kmin (x : Int32) (M : Nat) : Nat := min x.toNatClampNeg M
def ratP (mo old new : Nat → Int32) (a z : Int32) (u d : Int64) : Nat → Int64 × Int64
  | 0 => (u, d)
  | k + 1 => if mo k < a then ratP mo old new a z u d k else if z ≤ mo k then ratP mo old new a z u d k else ((ratP mo old new a z u d k).1 * (old k).toInt64, (ratP mo old new a z u d k).2 * (new k).toInt64)
def ratQ (u d : Int64) : Int32 := if u ≤ 0 then 0 else if 0 < d then (if 99999999 < u * 1000000 / d then 99999999 else u * 1000000 / d).toInt32 else 0
def ratS (v f mo old new : Nat → Int32) (r a z : Int32) : Int32 := ratQ (ratP mo old new a z (valS v f z).toInt64 (valS v f a).toInt64 (kmin r 3)).1 (ratP mo old new a z (valS v f z).toInt64 (valS v f a).toInt64 (kmin r 3)).2
theorem in_lt {x n : Int32} {m : Nat} (h1 : ¬ x < 0) (h2 : ¬ n ≤ x) (hn : n.toInt = m) : vp_in x m := by
  rw [vp_in_iff]
  rw [i_lt] at h1
  rw [i_le] at h2
  have e0 : (0 : Int32).toInt = 0 := rfl
  omega
theorem in_lt2 {x n : Int32} {m : Nat} (h1 : ¬ x < 0) (h2 : x < n) (hn : n.toInt = m) : vp_in x m := by
  rw [vp_in_iff]
  rw [i_lt] at h1 h2
  have e0 : (0 : Int32).toInt = 0 := rfl
  omega
theorem inC_in3 {x n : Int32} (h : inC x n 3 = true) : vp_in x 3 := by
  rw [vp_in_iff]
  have h1 := inC_t h
  have e : (3 : Int32).toInt = 3 := rfl
  omega
theorem inC_in6 {x n : Int32} (h : inC x n 6 = true) : vp_in x 6 := by
  rw [vp_in_iff]
  have h1 := inC_t h
  have e : (6 : Int32).toInt = 6 := rfl
  omega
/-! Contract -/
def addTS (σ : MI) (b i : Nat) (w x : Int32) : MI :=
  if σ (83 + 57 * b + 3 * i) 6 < 0 then σ else if 6 ≤ σ (83 + 57 * b + 3 * i) 6 then σ else
  s2 (s2 (s2 σ (84 + 57 * b + 3 * i) (σ (83 + 57 * b + 3 * i) 6).toNatClampNeg w) (85 + 57 * b + 3 * i) (σ (83 + 57 * b + 3 * i) 6).toNatClampNeg x) (83 + 57 * b + 3 * i) 6 (σ (83 + 57 * b + 3 * i) 6 + 1)
def anyS (f : Nat → Int32) (x : Int32) (n : Nat) : Bool := (List.range n).any (fun k => f k == x)
theorem anyS_t {f : Nat → Int32} {x : Int32} {n k : Nat} (hk : k < n) (h : f k = x) : anyS f x n = true := by
  simp only [anyS, List.any_eq_true, List.mem_range, beq_iff_eq]
  exact ⟨k, hk, h⟩
theorem anyS_f {f : Nat → Int32} {x : Int32} {n : Nat} (h : ∀ k, k < n → f k ≠ x) : anyS f x n = false := by
  rw [Bool.eq_false_iff]
  intro q
  simp only [anyS, List.any_eq_true, List.mem_range, beq_iff_eq] at q
  obtain ⟨k, hk, e⟩ := q
  exact h k hk e
def sumI (f : Nat → Int32) (a : Int32) : Nat → Int32
  | 0 => a
  | k + 1 => sumI f a k + f k
def termS (w x : Nat → Int32) (t p : Int32) : Int32 := if p < 0 then -1 else if t ≤ p / 2 then -1 else if p / 2 < 6 then (if p - p / 2 * 2 = 0 then w (p / 2).toNatClampNeg else x (p / 2).toNatClampNeg) else -1
theorem half_in {p : Int32} (h1 : ¬ p < 0) (h2 : p / 2 < 6) : vp_in (p / 2) 6 := by
  obtain ⟨j, hj, rfl⟩ := nI_of h1
  have e : nI j / 2 = nI (j / 2) := pk_div (d := 2) hj (by decide) (by decide)
  rw [e] at h2 ⊢
  rw [i_lt, nI_toInt (by omega)] at h2
  have e6 : (6 : Int32).toInt = 6 := rfl
  exact vp_in_nI (by omega) (by decide)
def mvA (ch : Int32) : Int32 := if 0 ≤ ch then ch else 0 - ch
def mvF (part ch : Int32) : Int32 := (ch.toInt64 * part.toInt64 / 100).toInt32
def mvS (limit part bey fa : Int32) : Int32 := if limit * 1000 < mvA (fa - 1000000) then (if bey = 0 then mvF part (fa - 1000000) else if 0 ≤ fa - 1000000 then mvF part ((fa - 1000000) + -(limit * 1000)) else mvF part ((fa - 1000000) + limit * 1000)) else 0
def prS (price move : Int32) : Int32 := ((price.toInt64 * (1000000 + move).toInt64 + 500000) / 1000000).toInt32
/-! Delivery -/
def bilS (σ : MI) (d : Nat) (p q : Int32) : MI := if q < p then s2 (s2 σ (14 + d) 4 (σ (14 + d) 2)) (14 + d) 5 q else s2 (s2 σ (14 + d) 4 (σ (14 + d) 1)) (14 + d) 5 p
def isSet (x : Int32) : Bool := if x = -1 then false else true
def rm8 (x : Int32) : Int32 := x - x / 8 * 8
def mn8 (x : Int32) : Int32 := if 8 < x then 8 else x
/-! History -/
def keepS (σ : MI) (a i m n k : Int32) : MI := if σ 6 5 < 0 then σ else if σ 6 5 < 8 then
  s2 (s2 (s2 (s2 (s2 (s2 (s2 σ 7 (σ 6 5).toNatClampNeg a) 8 (σ 6 5).toNatClampNeg i) 9 (σ 6 5).toNatClampNeg m) 10 (σ 6 5).toNatClampNeg n) 11 (σ 6 5).toNatClampNeg k) 6 5 (rm8 (σ 6 5 + 1))) 6 6 (mn8 (σ 6 6 + 1)) else σ
def tlS (σ : MI) : MI := if 0 < σ 6 6 then s2 (s2 σ 6 5 (rm8 (σ 6 5 + 8 - 1))) 6 6 (σ 6 6 - 1) else σ
def tlR (σ : MI) : Int32 := if 0 < σ 6 6 then rm8 (σ 6 5 + 8 - 1) else -1
/-! Ledger -/
def cntS (f : Nat → Int32) : Nat → Int32
  | 0 => 0
  | k + 1 => if isSet (f k) = true then cntS f k + 1 else cntS f k
def unsS (σ : MI) (τ : ML) (mo : Int32) : Nat → MI × ML
  | 0 => (σ, τ)
  | k + 1 => if σ (14 + k) 6 = mo then (s2 (unsS σ τ mo k).1 (14 + k) 6 (-1), s2L (unsS σ τ mo k).2 (14 + k) 7 0) else unsS σ τ mo k
def bilF (σ : MI) (a z : Int32) : Nat → Int64
  | 0 => 0
  | k + 1 => if σ (14 + k) 2 < a then bilF σ a z k else if z < σ (14 + k) 2 then bilF σ a z k else bilF σ a z k + (σ (14 + k) 3).toInt64 * (σ (14 + k) 5).toInt64
def truF (σ : MI) (τ : ML) (a z : Int32) : Nat → Int64
  | 0 => 0
  | k + 1 => if σ (14 + k) 6 < a then truF σ τ a z k else if z < σ (14 + k) 6 then truF σ τ a z k else truF σ τ a z k + τ (14 + k) 7
/-! Book -/
def aiS (σ : MI) (b : Nat) : MI := s2 (forgS σ b (σ (44 + 57 * b) 1).toNatClampNeg) (44 + 57 * b) 1 (σ (44 + 57 * b) 1 + 1)
def acS (σ : MI) (b : Nat) : MI := s2 (s2 σ (83 + 57 * b + 3 * (σ (44 + 57 * b) 2).toNatClampNeg) 6 0) (44 + 57 * b) 2 (σ (44 + 57 * b) 2 + 1)
def ratI (σ : MI) (b i : Nat) (a z : Int32) : Int32 := ratS (σ (48 + 57 * b + 6 * i)) (σ (49 + 57 * b + 6 * i)) (σ (50 + 57 * b + 6 * i)) (σ (51 + 57 * b + 6 * i)) (σ (52 + 57 * b + 6 * i)) (σ (47 + 57 * b + 6 * i) 5) a z
def facP (σ : MI) (b i : Nat) (mo : Int32) : Nat → Int64
  | 0 => (σ (83 + 57 * b + 3 * i) 1).toInt64 * 1000000
  | k + 1 => if inC (σ (85 + 57 * b + 3 * i) k) (σ (44 + 57 * b) 1) 6 = true then facP σ b i mo k + (σ (84 + 57 * b + 3 * i) k).toInt64 * (ratI σ b (σ (85 + 57 * b + 3 * i) k).toNatClampNeg (σ (83 + 57 * b + 3 * i) 2) (knowS (σ (49 + 57 * b + 6 * (σ (85 + 57 * b + 3 * i) k).toNatClampNeg)) mo)).toInt64 else facP σ b i mo k
def facS (σ : MI) (b i : Nat) (mo : Int32) : Int32 := (facP σ b i mo (kmin (σ (83 + 57 * b + 3 * i) 6) 6) / 1000).toInt32
def pfS (σ : MI) (b i : Nat) (mo : Int32) : Int32 := prS (σ (83 + 57 * b + 3 * i) 0) (mvS (σ (83 + 57 * b + 3 * i) 3) (σ (83 + 57 * b + 3 * i) 4) (σ (83 + 57 * b + 3 * i) 5) (facS σ b i mo))
def pwM (σ : MI) (b i : Nat) (v : Int32) : MI := putS σ b i (σ (44 + 57 * b) 0) v 2
def pwB (σ : MI) (b i : Nat) (v : Int32) : MI := putS (pwM σ b i v) b i (σ (44 + 57 * b) 0) (valS (σ (48 + 57 * b + 6 * i)) (σ (49 + 57 * b + 6 * i)) (σ (44 + 57 * b) 0)) (kindS (σ (49 + 57 * b + 6 * i)) (σ (44 + 57 * b) 0))
def pwR (σ : MI) (b c i : Nat) (v : Int32) : Int32 := pfS (pwM σ b i v) b c (σ (44 + 57 * b) 0)
def waP (σ : MI) (b i : Nat) (mo : Int32) : Nat → Int32
  | 0 => 0
  | k + 1 => if inC (σ (85 + 57 * b + 3 * i) k) (σ (44 + 57 * b) 1) 6 = true then (if σ (84 + 57 * b + 3 * i) k ≤ 0 then waP σ b i mo k else if kindS (σ (49 + 57 * b + 6 * (σ (85 + 57 * b + 3 * i) k).toNatClampNeg)) mo = 2 then waP σ b i mo k else waP σ b i mo k ||| 1 <<< (σ (85 + 57 * b + 3 * i) k &&& 31)) else waP σ b i mo k
def waS (σ : MI) (b : Nat) (c mo : Int32) : Int32 := if inC c (σ (44 + 57 * b) 2) 6 = true then waP σ b c.toNatClampNeg mo (kmin (σ (83 + 57 * b + 3 * c.toNatClampNeg) 6) 6) else 0
def isPastS (now mo : Int32) : Bool := if mo < 0 then false else if now < mo then false else true
def isPricS (now base mo : Int32) : Bool := if mo < base then false else if now < mo then false else true
/-! Ledger.settle -/
def setlC (σ : MI) (b d : Nat) : Bool := if inC (σ (14 + d) 0) (σ (44 + 57 * b) 2) 6 = true then (if isSet (σ (14 + d) 6) = true then false else if waS σ b (σ (14 + d) 0) (σ (14 + d) 4) = 0 then true else false) else false
def setlM (σ : MI) (b : Nat) : Nat → MI
  | 0 => σ
  | k + 1 => if setlC (setlM σ b k) b k = true then s2 (setlM σ b k) (14 + k) 6 (setlM σ b k (44 + 57 * b) 0) else setlM σ b k
def setlT (σ : MI) (τ : ML) (b : Nat) : Nat → ML
  | 0 => τ
  | k + 1 => if setlC (setlM σ b k) b k = true then s2L (setlT σ τ b k) (14 + k) 7 ((setlM σ b k (14 + k) 3).toInt64 * (pfS (setlM σ b k) b (setlM σ b k (14 + k) 0).toNatClampNeg (setlM σ b k (14 + k) 4)).toInt64 - (setlM σ b k (14 + k) 3).toInt64 * (setlM σ b k (14 + k) 5).toInt64) else setlT σ τ b k
def setlN (σ : MI) (b : Nat) : Nat → Int32
  | 0 => 0
  | k + 1 => if setlC (setlM σ b k) b k = true then setlN σ b k + 1 else setlN σ b k
theorem cntM_le (m : Int32) : cntM m ≤ 36 := by unfold cntM; split <;> (try split) <;> omega
theorem cntM_x (m : Int32) : ((if (35 : Int32) < m then (35 : Int32) else m).toInt < 0 ∧ cntM m = 0) ∨ (if (35 : Int32) < m then (35 : Int32) else m).toInt = (cntM m : Int) - 1 := by
  have e : (35 : Int32).toInt = 35 := rfl
  unfold cntM
  by_cases h : (35 : Int32) < m
  · rw [if_pos h, if_neg (by rw [i_lt] at h; omega), if_pos (by rw [i_lt] at h; omega)]; omega
  · rw [if_neg h]
    rw [i_lt] at h
    by_cases h2 : m.toInt < 0
    · rw [if_pos h2]; omega
    · rw [if_neg h2, if_neg (by omega)]; omega
def inL (x m : Int32) : Bool := if x < 0 then false else if x < m then true else false
theorem inL_t {x m : Int32} (h : inL x m = true) : 0 ≤ x.toInt ∧ x.toInt < m.toInt := by
  unfold inL at h
  have e0 : (0 : Int32).toInt = 0 := rfl
  by_cases h1 : x < 0
  · simp [h1] at h
  · by_cases h2 : x < m
    · rw [i_lt] at h1 h2; omega
    · simp [h1, h2] at h
theorem inL_f {x m : Int32} (h : inL x m = false) : ¬ (0 ≤ x.toInt ∧ x.toInt < m.toInt) := by
  unfold inL at h
  have e0 : (0 : Int32).toInt = 0 := rfl
  by_cases h1 : x < 0
  · rw [i_lt] at h1; omega
  · by_cases h2 : x < m
    · simp [h1, h2] at h
    · rw [i_lt] at h2; omega
theorem inL_30 {x : Int32} (h : inL x 30 = true) : x.toNatClampNeg < 30 := by
  have h1 := inL_t h
  have e : (30 : Int32).toInt = 30 := rfl
  have := clampI x
  omega
theorem inL_6 {x : Int32} (h : inL x 6 = true) : x.toNatClampNeg < 6 := by
  have h1 := inL_t h
  have e : (6 : Int32).toInt = 6 := rfl
  have := clampI x
  omega
theorem cl_lt {x n : Int32} {m : Nat} (h1 : ¬ x < 0) (h2 : ¬ n ≤ x) (hn : n.toInt = m) : x.toNatClampNeg < m := clampN (in_lt h1 h2 hn)
theorem cl_lt2 {x n : Int32} {m : Nat} (h1 : ¬ x < 0) (h2 : x < n) (hn : n.toInt = m) : x.toNatClampNeg < m := clampN (in_lt2 h1 h2 hn)
theorem clrS_ne (σ : MI) {b i k : Nat} (h1 : k ≠ 48 + 57 * b + 6 * i) (h2 : k ≠ 49 + 57 * b + 6 * i) : ∀ n, clrS σ b i n k = σ k
  | 0 => rfl
  | n + 1 => by rw [clrS, s2_nk _ _ _ h2, s2_nk _ _ _ h1, clrS_ne σ h1 h2 n]
theorem forgS_ne (σ : MI) {b i k : Nat} (h0 : k ≠ 47 + 57 * b + 6 * i) (h1 : k ≠ 48 + 57 * b + 6 * i) (h2 : k ≠ 49 + 57 * b + 6 * i) : forgS σ b i k = σ k := by
  rw [forgS, s2_nk _ _ _ h0, clrS_ne σ h1 h2]
theorem putS_ne (σ : MI) {b i k : Nat} (mo v n : Int32) (h1 : k ≠ 48 + 57 * b + 6 * i) (h2 : k ≠ 49 + 57 * b + 6 * i) : putS σ b i mo v n k = σ k := by
  unfold putS
  split
  · rw [s2_nk _ _ _ h2, s2_nk _ _ _ h1]
  · rfl
theorem unsS_ne (σ : MI) (τ : ML) (mo : Int32) {k : Nat} : ∀ n, (k < 14 ∨ 14 + n ≤ k) → (unsS σ τ mo n).1 k = σ k
  | 0, _ => rfl
  | n + 1, h => by
    rw [unsS]
    split
    · show s2 _ _ _ _ k = _
      rw [s2_nk _ _ _ (by omega), unsS_ne σ τ mo n (by omega)]
    · exact unsS_ne σ τ mo n (by omega)
theorem setlM_ne (σ : MI) (b : Nat) {k : Nat} : ∀ n, (k < 14 ∨ 14 + n ≤ k) → setlM σ b n k = σ k
  | 0, _ => rfl
  | n + 1, h => by
    rw [setlM]
    split
    · rw [s2_nk _ _ _ (by omega), setlM_ne σ b n (by omega)]
    · exact setlM_ne σ b n (by omega)
def drS (σ : MI) : MI := if σ 12 1 ≤ 0 then σ else s2 σ 12 1 (σ 12 1 - 1)
