/-! ===== the reference: snapshots, publish, undo, statement ===== -/
def shS (σ : MI) : Nat → MI
  | 0 => σ
  | k + 1 => s2 (shS σ k) 4 k (shS σ k 4 (k + 880))
theorem shS_ne (σ : MI) {k : Nat} (h : k ≠ 4) : ∀ n, shS σ n k = σ k
  | 0 => rfl
  | n + 1 => by rw [shS, s2_nk _ _ _ h, shS_ne σ h n]
def cpS (σ : MI) (b : Nat) : Nat → MI
  | 0 => σ
  | k + 1 => s2 (cpS σ b k) 4 (b + k) (σ 2 k)
theorem cpS_ne (σ : MI) (b : Nat) {k : Nat} (h : k ≠ 4) : ∀ n, cpS σ b n k = σ k
  | 0 => rfl
  | n + 1 => by rw [cpS, s2_nk _ _ _ h, cpS_ne σ b h n]
def sn1 (σ : MI) : MI := if σ 0 16 = 8 then s2 (shS σ 6160) 0 16 (σ 0 16 - 1) else σ
def snC (σ : MI) : MI := s2 (cpS σ (880 * (σ 0 16).toNatClampNeg) 880) 0 16 (σ 0 16 + 1)
def snS (σ : MI) : MI := snC (sn1 σ)
theorem sn1_ne (σ : MI) {k : Nat} (h0 : k ≠ 0) (h4 : k ≠ 4) : sn1 σ k = σ k := by
  unfold sn1
  split
  · rw [s2_nk _ _ _ h0, shS_ne σ h4]
  · rfl
theorem snS_ne (σ : MI) {k : Nat} (h0 : k ≠ 0) (h4 : k ≠ 4) : snS σ k = σ k := by
  rw [snS, snC, s2_nk _ _ _ h0, cpS_ne _ _ h4, sn1_ne σ h0 h4]
theorem snS_0 (σ : MI) {j : Nat} (h : j ≠ 16) : snS σ 0 j = σ 0 j := by
  rw [snS, snC, s2_nj _ _ _ h, cpS_ne _ _ (by decide)]
  unfold sn1
  split
  · rw [s2_nj _ _ _ h, shS_ne _ (by decide)]
  · rfl
theorem ixS {x : Int32} {a k n : Nat} (hx : x.toNatClampNeg = a) (vx : vp_in x n) : 880 * x + nI k = nI (880 * a + k) := by
  rw [show (880 : Int32) = nI 880 from rfl, vpn vx hx, pk_mul, nI_add]
theorem ad880 (k : Nat) : nI k + 880 = nI (k + 880) := by rw [show (880 : Int32) = nI 880 from rfl, nI_add]
def mPbC (f : Nat → Int32) (x m v : Int32) : Int32 := if mIn x 0 (f 1 - 1) = true then (if mIn m 0 (f 0) = true then (if mIn v 1 999 = true then (if f (218 + 36 * x.toNatClampNeg + m.toNatClampNeg) = 2 then -2 else if mLate f x.toNatClampNeg < m then 1 else -3) else -1) else -1) else -1
def mPbR (f : Nat → Int32) (x m v : Int32) : Int32 := if mPbC f x m v = 1 then (if f (218 + 36 * x.toNatClampNeg + m.toNatClampNeg) = 0 then 0 else f (2 + 36 * x.toNatClampNeg + m.toNatClampNeg)) else mPbC f x m v
def mPbM (σ : MI) (x m v : Int32) (b : Bool) : MI := if mPbC (σ 2) x m v = 1 then s2 (s2 (snS (s2 σ 0 0 0)) 2 (2 + 36 * x.toNatClampNeg + m.toNatClampNeg) v) 2 (218 + 36 * x.toNatClampNeg + m.toNatClampNeg) (if b = true then 2 else 1) else s2 σ 0 0 0
theorem n11 : ¬ (-1 : Int32) = 1 := by decide
theorem n21 : ¬ (-2 : Int32) = 1 := by decide
theorem n31 : ¬ (-3 : Int32) = 1 := by decide
theorem mNx {f : Nat → Int32} (hR : RI f) {x : Int32} (h : mIn x 0 (f 0) = true) : vp_in x 36 := by
  have h1 := mIn_t h
  have h2 := hR.1
  unfold rg at h2
  have e0 : (0 : Int32).toInt = 0 := rfl
  rw [vp_in_iff]; omega
theorem vp_m1 {x : Int32} (h : rg x 0 3) (hn : ¬ x = 0) : vp_in (x - 1) 3 := by
  unfold rg at h
  have e0 : (0 : Int32).toInt = 0 := rfl
  rw [i_eq] at hn
  rw [vp_in_iff, sub1 h.1]; omega
/-! undo -/
def bkS (σ : MI) (b : Nat) : Nat → MI
  | 0 => σ
  | k + 1 => s2 (bkS σ b k) 2 k (σ 4 (b + k))
theorem bkS_ne (σ : MI) (b : Nat) {k : Nat} (h : k ≠ 2) : ∀ n, bkS σ b n k = σ k
  | 0 => rfl
  | n + 1 => by rw [bkS, s2_nk _ _ _ h, bkS_ne σ b h n]
def mUd (σ : MI) : MI := s2 (s2 σ 0 0 0) 0 16 (σ 0 16 - 1)
def mUnM (σ : MI) : MI := if σ 0 16 = 0 then s2 σ 0 0 0 else bkS (mUd σ) (880 * (σ 0 16 - 1).toNatClampNeg) 880
def mUnR (σ : MI) : Int32 := if σ 0 16 = 0 then -1 else σ 0 16 - 1
theorem vp_s {x : Int32} (h : rg x 0 8) (hn : ¬ x = 0) : vp_in (x - 1) 8 := by
  unfold rg at h
  have e0 : (0 : Int32).toInt = 0 := rfl
  rw [i_eq] at hn
  rw [vp_in_iff, sub1 h.1]; omega
/-! statement -/
def mStW (f : Nat → Int32) (m w : Int32) (d : Nat) : Bool := if w = 3 then (if m < f (610 + 9 * d + 2) then false else true) else (if f (610 + 9 * d + 2) = m then true else false)
def mStE (f : Nat → Int32) (m w : Int32) (d : Nat) : Bool := if f (610 + 9 * d + 6) = 1 then (if w = 3 then (if m < f (610 + 9 * d + 7) then false else true) else (if f (610 + 9 * d + 7) = m then true else false)) else false
def mSt1 (f : Nat → Int32) (m w : Int32) (d : Nat) (u : Int64) : Int64 := if mStW f m w d = true then (if w = 1 then u else u + mBil f d) else u
def mSt2 (f : Nat → Int32) (m w : Int32) (d : Nat) (u : Int64) : Int64 := if mStE f m w d = true then (if w = 0 then u else u + (f (610 + 9 * d + 8)).toInt64) else u
def mStS (f : Nat → Int32) (m w : Int32) : Nat → Int64
  | 0 => 0
  | d + 1 => mSt2 f m w d (mSt1 f m w d (mStS f m w d))
def mStC (m w : Int32) : Bool := if mIn m 0 35 = true then (if mIn w 0 3 = true then true else false) else false
def mStR (f : Nat → Int32) (m w : Int32) : Int64 := if mStC m w = true then mStS f m w (f 609).toNatClampNeg else (0 : Int32).toInt64
