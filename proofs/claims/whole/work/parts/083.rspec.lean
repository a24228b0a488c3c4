/-! ===== the reader's lines ===== -/
theorem forgS_lo (σ : MI) {b i k : Nat} (h : k < 44) : forgS σ b i k = σ k := forgS_ne σ (by omega) (by omega) (by omega)
theorem aiS_lo (σ : MI) {b k : Nat} (h : k < 44) : aiS σ b k = σ k := by rw [aiS, s2_nk _ _ _ (by omega), forgS_lo σ h]
theorem acS_lo (σ : MI) {b k : Nat} (h : k < 44) : acS σ b k = σ k := by rw [acS, s2_nk _ _ _ (by omega), s2_nk _ _ _ (by omega)]
theorem addTS_lo (σ : MI) {b i k : Nat} (w x : Int32) (h : k < 44) : addTS σ b i w x k = σ k := by
  unfold addTS
  split
  · rfl
  · split
    · rfl
    · rw [s2_nk _ _ _ (by omega), s2_nk _ _ _ (by omega), s2_nk _ _ _ (by omega)]
theorem putS_lo (σ : MI) {b i k : Nat} (mo v n : Int32) (h : k < 44) : putS σ b i mo v n k = σ k := putS_ne σ mo v n (by omega) (by omega)
def nwB (σ : MI) : Bool := if isWd σ 0 = true then inB (rwM σ 0) 0 35 else false
def nwM (σ : MI) : MI := if isWd σ 0 = true then (if inB (rwM σ 0) 0 35 = true then s2 (rnM (rwM σ 0) 0 35) (44 + 57 * bz (σ 1 3)) 0 (rnM (rwM σ 0) 0 35 1 4) else rnM (rwM σ 0) 0 35) else rwM σ 0
def vmS (σ : MI) (mo : Int32) : Int32 := if σ (44 + 57 * bz (σ 1 3)) 0 < mo then 0 else 999
def rvM (σ : MI) (b i : Nat) (mo : Int32) : MI := if inB σ 1 (vmS σ mo) = true then putS (rnM σ 1 (vmS σ mo)) b i mo (rnM σ 1 (vmS σ mo) 1 4) 2 else rnM σ 1 (vmS σ mo)
def vsL (b i : Nat) : Nat → MI → Nat → Bool × MI
  | 0, ρ, _ => (true, ρ)
  | r + 1, ρ, k => if ρ 2 4 = 2 then (if inB ρ 1 (vmS ρ (nI k)) = true then vsL b i r (rvM ρ b i (nI k)) (k + 1) else (false, rvM ρ b i (nI k))) else (true, ρ)
def vsP (σ : MI) (b i : Nat) : Bool × MI := if inB σ 1 (vmS σ 0) = true then vsL b i 36 (rvM σ b i 0) 1 else (false, rvM σ b i 0)
/-- the values from month k on, as the class's one loop reads them: that of month 0 must come, the others while numbers come -/
def vsK (b i r : Nat) (ρ : MI) (k : Nat) : Bool × MI := if k = 0 then vsP ρ b i else vsL b i r ρ k
theorem vsK_end {b i r : Nat} {ρ : MI} {k : Nat} (hk : k ≠ 0) (h : r = 0 ∨ ρ 2 4 ≠ 2) : vsK b i r ρ k = (true, ρ) := by
  unfold vsK
  rw [if_neg hk]
  cases r with
  | zero => rfl
  | succ r => rw [vsL, if_neg (h.resolve_left (Nat.succ_ne_zero r))]
theorem vsK_step {b i r : Nat} {ρ : MI} {k : Nat} (hk : k + (r + 1) = 37) (h : k = 0 ∨ ρ 2 4 = 2) : vsK b i (r + 1) ρ k = if inB ρ 1 (vmS ρ (nI k)) = true then vsK b i r (rvM ρ b i (nI k)) (k + 1) else (false, rvM ρ b i (nI k)) := by
  unfold vsK
  rw [if_neg (Nat.succ_ne_zero k)]
  rcases Nat.eq_zero_or_pos k with rfl | hp
  · obtain rfl : r = 36 := by omega
    rw [if_pos rfl, vsP]
    rfl
  · rw [if_neg (by omega), vsL, if_pos (h.resolve_left (by omega))]
/-- readIndex -/
def riA (σ : MI) : MI := adS (aiS σ (bz (σ 1 3)))
def riK (σ : MI) : MI := adS (kpM (riA σ) (σ (44 + 57 * bz (σ 1 3)) 1))
def riP (σ : MI) : Bool × MI := if isWd σ 1 = true then (if inL (σ (44 + 57 * bz (σ 1 3)) 1) 6 = true then (if nmB' (riA σ) = true then (if ixN (riA σ) (σ (44 + 57 * bz (σ 1 3)) 1) = -1 then vsP (riK σ) (bz (σ 1 3)) (σ (44 + 57 * bz (σ 1 3)) 1).toNatClampNeg else (false, s2 (riA σ) 1 5 3)) else (false, s2 (riA σ) 1 5 1)) else (false, s2 σ 1 5 4)) else (false, s2 σ 1 5 1)
/-- readTerms -/
def rtN (ρ : MI) : MI := rnM (adS ρ) 0 1000
def rtX (ρ : MI) : Int32 := ixN (rtN ρ) (ρ (44 + 57 * bz (ρ 1 3)) 1)
def rtL (b c : Nat) : Nat → MI → Bool × MI
  | 0, ρ => (true, ρ)
  | r + 1, ρ => if sigS ρ 43 = true then (if inB (adS ρ) 0 1000 = true then (if nmB' (rtN ρ) = true then (if rtX ρ = -1 then (false, s2 (rtN ρ) 1 5 3) else if anyS (ρ (85 + 57 * b + 3 * c)) (rtX ρ) (kmin (ρ (83 + 57 * b + 3 * c) 6) 6) = true then (false, s2 (rtN ρ) 1 5 3) else rtL b c r (adS (addTS (rtN ρ) b c (rtN ρ 1 4) (rtX ρ)))) else (false, s2 (rtN ρ) 1 5 1)) else (false, rtN ρ)) else (true, ρ)
/-- readBase -/
def tkB (ρ : MI) (b c k : Nat) : Bool := if inC (ρ (85 + 57 * b + 3 * c) k) (ρ (44 + 57 * bz (ρ 1 3)) 1) 6 = true then hasS (ρ (49 + 57 * bz (ρ 1 3) + 6 * (ρ (85 + 57 * b + 3 * c) k).toNatClampNeg)) (ρ (83 + 57 * b + 3 * c) 2) else true
def rbW (σ : MI) (b c : Nat) : MI := s2 (adS σ) (83 + 57 * b + 3 * c) 2 (adS σ 2 5)
def rbL (ρ : MI) (b c : Nat) : Bool × MI := if allS (tkB ρ b c) (kmin (ρ (83 + 57 * b + 3 * c) 6) 6) = true then (true, adS ρ) else (false, s2 ρ 1 5 5)
def rbP (σ : MI) (b c : Nat) : Bool × MI := if isWd σ 3 = true then (if sumI (σ (84 + 57 * b + 3 * c)) (σ (83 + 57 * b + 3 * c) 1) (kmin (σ (83 + 57 * b + 3 * c) 6) 6) = 1000 then (if inB (adS σ) 0 (σ (44 + 57 * bz (σ 1 3)) 0) = true then rbL (rbW σ b c) b c else (false, inM (adS σ) 0 (σ (44 + 57 * bz (σ 1 3)) 0))) else (false, s2 σ 1 5 5)) else (false, s2 σ 1 5 1)
/-- readRule -/
def rrA (σ : MI) (b c : Nat) : MI := s2 σ (83 + 57 * b + 3 * c) 5 (b2i (isWd σ 5))
def rrB (σ : MI) (b c : Nat) : MI := rnM (adS (rrA σ b c)) 0 999
def rrC (σ : MI) (b c : Nat) : MI := s2 (rrB σ b c) (83 + 57 * b + 3 * c) 3 (rrB σ b c 1 4)
def rrD (σ : MI) (b c : Nat) : MI := rnM (rwM (rrC σ b c) 6) 0 100
def rrP (σ : MI) (b c : Nat) : Bool × MI := if (if isWd σ 5 = true then true else isWd (rrA σ b c) 4) = true then (if inB (adS (rrA σ b c)) 0 999 = true then (if isWd (rrC σ b c) 6 = true then (if inB (rwM (rrC σ b c) 6) 0 100 = true then (true, s2 (rrD σ b c) (83 + 57 * b + 3 * c) 4 (rrD σ b c 1 4)) else (false, rrD σ b c)) else (false, rwM (rrC σ b c) 6)) else (false, rrB σ b c)) else (false, s2 (rrA σ b c) 1 5 1)
/-- readContract -/
def rcA (σ : MI) : MI := rnM (adS (acS σ (bz (σ 1 3)))) 1 9999
def rcB (σ : MI) : MI := s2 (rcA σ) (83 + 57 * bz (σ 1 3) + 3 * (σ (44 + 57 * bz (σ 1 3)) 2).toNatClampNeg) 0 (rcA σ 1 4)
def rcC (σ : MI) : MI := rnM (rsM (rcB σ) 61) 0 1000
def rcD (σ : MI) : MI := s2 (rcC σ) (83 + 57 * bz (σ 1 3) + 3 * (σ (44 + 57 * bz (σ 1 3)) 2).toNatClampNeg) 1 (rcC σ 1 4)
def rcE (σ : MI) : Bool × MI := rtL (bz (σ 1 3)) (σ (44 + 57 * bz (σ 1 3)) 2).toNatClampNeg 7 (rcD σ)
def rcF (σ : MI) : Bool × MI := rbP (rcE σ).2 (bz (σ 1 3)) (σ (44 + 57 * bz (σ 1 3)) 2).toNatClampNeg
def rcG (σ : MI) : Bool × MI := rrP (rcF σ).2 (bz (σ 1 3)) (σ (44 + 57 * bz (σ 1 3)) 2).toNatClampNeg
def rcP (σ : MI) : Bool × MI := if inL (σ (44 + 57 * bz (σ 1 3)) 2) 6 = true then (if inB (adS (acS σ (bz (σ 1 3)))) 1 9999 = true then (if sigS (rcB σ) 61 = true then (if inB (rsM (rcB σ) 61) 0 1000 = true then (if (rcE σ).1 = true then (if (rcF σ).1 = true then rcG σ else (false, (rcF σ).2)) else (false, (rcE σ).2)) else (false, rcC σ)) else (false, rsM (rcB σ) 61)) else (false, rcA σ)) else (false, s2 σ 1 5 4)
/-- readText -/
def lnP (ρ : MI) (first : Bool) : Bool × MI := if first = true then (nwB ρ, nwM ρ) else if isWd ρ 2 = true then rcP ρ else riP ρ
def txL : Nat → MI → Nat → Int32 × MI
  | 0, ρ, _ => (-1 - ρ 2 2, ρ)
  | r + 1, ρ, k => if ρ 2 4 = 4 then (nI k, ρ) else if (lnP ρ (decide (k = 0))).1 = true then (if sigS (lnP ρ (decide (k = 0))).2 59 = true then txL r (rsM (lnP ρ (decide (k = 0))).2 59) (k + 1) else (-1 - rsM (lnP ρ (decide (k = 0))).2 59 2 2, rsM (lnP ρ (decide (k = 0))).2 59)) else (-1 - (lnP ρ (decide (k = 0))).2 2 2, (lnP ρ (decide (k = 0))).2)
def tx0 (σ : MI) : MI := adS (s2 (s2 (s2 (s2 (s2 σ (44 + 57 * bz (σ 1 3)) 0 0) (44 + 57 * bz (σ 1 3)) 1 0) (44 + 57 * bz (σ 1 3)) 2 0) 1 5 0) 2 3 0)
def txP (σ : MI) : Int32 × MI := txL 14 (tx0 σ) 0
/-- text -/
def teX (σ : MI) : MI := s2 (txP σ).2 2 1 0
def teM (σ : MI) : MI := if 0 ≤ (txP σ).1 then s2 (s2 (s2 (s2 (teX σ) 1 3 (bw (bz (teX σ 0 1)))) 0 1 (bw (bz (teX σ 1 3)))) 12 1 0) 6 6 0 else teX σ
theorem b2i_fit (b : Bool) : fits .boolean (.int (b2i b)) = true := by cases b <;> rfl
theorem bt_T {b : Bool} (h : b = true) : (b = true) = True := by rw [h]; exact propext ⟨fun _ => trivial, fun _ => rfl⟩
theorem bt_F {b : Bool} (h : b = false) : (b = true) = False := by rw [h]; exact propext ⟨fun q => (by cases q), fun q => q.elim⟩
