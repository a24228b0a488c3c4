/-! ===== the reference: its small methods ===== -/
theorem vpn {x : Int32} {n a : Nat} (h : vp_in x n) (e : x.toNatClampNeg = a) : x = nI a := by
  rw [vp_in_iff] at h
  have h1 := clampI x
  have h2 := fb_rng x
  rw [i_eq, nI_toInt (by omega)]
  omega
theorem vpa {x : Int32} {n a : Nat} (h : vp_in x n) (e : x.toNatClampNeg = a) : a < n := by rw [← e]; exact clampN h
theorem vp_mono {x : Int32} {n k : Nat} (h : vp_in x n) (hk : n ≤ k) : vp_in x k := by
  rw [vp_in_iff] at h ⊢
  omega
/-- a place A + B * i + m -/
theorem ix2 {A B i m : Int32} (A' B' : Nat) {a c n1 n2 : Nat} (hA : A = nI A') (hB : B = nI B') (hi : i.toNatClampNeg = a) (vi : vp_in i n1) (hm : m.toNatClampNeg = c) (vm : vp_in m n2) : A + B * i + m = nI (A' + B' * a + c) := by
  rw [hA, hB, vpn vi hi, vpn vm hm, pk_mul, nI_add, nI_add]
theorem ix2c {A B i m : Int32} (A' B' N : Nat) {a c n1 n2 : Nat} (hA : A = nI A') (hB : B = nI B') (hi : i.toNatClampNeg = a) (vi : vp_in i n1) (hm : m.toNatClampNeg = c) (vm : vp_in m n2) (hN : A' + B' * a + c < N) (h31 : N ≤ 2 ^ 31) : (A + B * i + m).toNatClampNeg = A' + B' * a + c := by
  rw [ix2 A' B' hA hB hi vi hm vm, nI_clamp (by omega)]
theorem ix2v {A B i m : Int32} (A' B' N : Nat) {a c n1 n2 : Nat} (hA : A = nI A') (hB : B = nI B') (hi : i.toNatClampNeg = a) (vi : vp_in i n1) (hm : m.toNatClampNeg = c) (vm : vp_in m n2) (hN : A' + B' * a + c < N) (h31 : N < 2 ^ 31) : vp_in (A + B * i + m) N := by
  rw [ix2 A' B' hA hB hi vi hm vm]
  exact vp_in_nI hN h31
theorem ix1 {A B i : Int32} (A' B' : Nat) {a n1 : Nat} (hA : A = nI A') (hB : B = nI B') (hi : i.toNatClampNeg = a) (vi : vp_in i n1) : A + B * i = nI (A' + B' * a) := by
  rw [hA, hB, vpn vi hi, pk_mul, nI_add]
theorem ix1c {A B i : Int32} (A' B' N : Nat) {a n1 : Nat} (hA : A = nI A') (hB : B = nI B') (hi : i.toNatClampNeg = a) (vi : vp_in i n1) (hN : A' + B' * a < N) (h31 : N ≤ 2 ^ 31) : (A + B * i).toNatClampNeg = A' + B' * a := by
  rw [ix1 A' B' hA hB hi vi, nI_clamp (by omega)]
theorem ix1v {A B i : Int32} (A' B' N : Nat) {a n1 : Nat} (hA : A = nI A') (hB : B = nI B') (hi : i.toNatClampNeg = a) (vi : vp_in i n1) (hN : A' + B' * a < N) (h31 : N < 2 ^ 31) : vp_in (A + B * i) N := by
  rw [ix1 A' B' hA hB hi vi]
  exact vp_in_nI hN h31
theorem ix4 {i k w : Int32} {a c e : Nat} (hi : i.toNatClampNeg = a) (vi : vp_in i 6) (hk : k.toNatClampNeg = c) (vk : vp_in k 3) (hw : w.toNatClampNeg = e) (vw : vp_in w 3) : 434 + 10 * i + 1 + 3 * k + w = nI (434 + 10 * a + 1 + 3 * c + e) := by
  rw [show (434 : Int32) = nI 434 from rfl, show (10 : Int32) = nI 10 from rfl, show (1 : Int32) = nI 1 from rfl, show (3 : Int32) = nI 3 from rfl, vpn vi hi, vpn vk hk, vpn vw hw]
  simp only [pk_mul, nI_add]
def mIn (v a b : Int32) : Bool := if v < a then false else if b < v then false else true
theorem mIn_t {v a b : Int32} (h : mIn v a b = true) : a.toInt ≤ v.toInt ∧ v.toInt ≤ b.toInt := by
  unfold mIn at h
  by_cases h1 : v < a
  · simp [h1] at h
  · by_cases h2 : b < v
    · simp [h1, h2] at h
    · rw [i_lt] at h1 h2; omega
theorem mIn_f {v a b : Int32} (h : mIn v a b = false) : ¬ (a.toInt ≤ v.toInt ∧ v.toInt ≤ b.toInt) := by
  unfold mIn at h
  by_cases h1 : v < a
  · rw [i_lt] at h1; omega
  · by_cases h2 : b < v
    · rw [i_lt] at h2; omega
    · simp [h1, h2] at h
def mDig (c : Int32) : Bool := if c < 48 then false else if 57 < c then false else true
def mLet (c : Int32) : Bool := if c < 97 then false else if 122 < c then false else true
def mFour (a b c d : Int32) : Int64 := 27 * (27 * (27 * (a.toInt64 - 96) + b.toInt64 - 96) + c.toInt64 - 96) + d.toInt64 - 96
def mWord (w : Int32) : Int64 := match swt w 6 with
  | 0 => 27 * mFour 109 111 110 116 + 8
  | 1 => 27 * mFour 105 110 100 101 + 24
  | 2 => 531441 * mFour 99 111 110 116 + mFour 114 97 99 116
  | 3 => mFour 98 97 115 101
  | 4 => 1065
  | 5 => 729 * mFour 98 101 121 111 + 378 + 4
  | _ => 27 * mFour 115 104 97 114 + 5
def mIs (σ : MI) (τ : ML) (w : Int32) : Bool := if σ 0 6 = 2 then (if τ 0 11 = mWord w then true else false) else false
def mNm (x : Int64) : Nat → Bool → Bool
  | 0, b => b
  | k + 1, b => if mNm x k b = true then (if x = mWord (nI k) then false else true) else false
def mName (σ : MI) (τ : ML) : Bool := mNm (τ 0 11) 7 (if σ 0 6 = 2 then true else false)
def mSig (σ : MI) (c : Int32) : Bool := if σ 0 6 = 4 then (if σ 0 8 = c then true else false) else false
def mBad (σ : MI) (w : Int32) : MI := s2 (s2 σ 0 9 (if σ 0 6 = 1 then 1 else w)) 0 10 (σ 0 5)
def mTape (σ : MI) (p : Int32) : Int32 := if σ 0 3 ≤ p then 0 else σ 1 p.toNatClampNeg
/-- 4 bytes come -/
def lyS (σ : MI) (x : Int32) : Nat → MI
  | 0 => σ
  | k + 1 => s2 (s2 (lyS σ x k) 1 (lyS σ x k 0 2).toNatClampNeg ((x.toUInt32 >>> ((shf k).toUInt32 &&& Int32.toUInt32 31)).toInt32 &&& 255)) 0 2 (lyS σ x k 0 2 + 1)
theorem lyS_len (σ : MI) (x : Int32) : ∀ k, lyS σ x k 0 2 = σ 0 2 + nI k
  | 0 => by rw [lyS, nI_0, Int32.add_zero]
  | k + 1 => by rw [lyS, s2_eq, lyS_len σ x k, Int32.add_assoc, nI_1]
theorem lyS_ne (σ : MI) (x : Int32) {k : Nat} (h0 : k ≠ 0) (h1 : k ≠ 1) : ∀ n, lyS σ x n k = σ k
  | 0 => rfl
  | n + 1 => by rw [lyS, s2_nk _ _ _ h0, s2_nk _ _ _ h1, lyS_ne σ x h0 h1 n]
def mfR (σ : MI) (a b c d e : Int32) : Int32 := if σ 0 2 + 20 ≤ 740 then lyS (lyS (lyS (lyS (lyS (s2 σ 0 0 0) a 4) b 4) c 4) d 4) e 4 0 2 else -1
def mfM (σ : MI) (a b c d e : Int32) : MI := if σ 0 2 + 20 ≤ 740 then lyS (lyS (lyS (lyS (lyS (s2 σ 0 0 0) a 4) b 4) c 4) d 4) e 4 else s2 σ 0 0 0
/-- months known, counted down from n -/
def mKn (f : Nat → Int32) (i : Nat) (n : Nat) : Int32 := kn (fun j => f (218 + 36 * i + j)) n
def mSet (f : Nat → Int32) : Nat → Int32
  | 0 => 0
  | k + 1 => mSet f k + f (610 + 9 * k + 6)
def mLate (f : Nat → Int32) (i : Nat) : Int32 := if f (434 + 10 * i) = 0 then -1 else f (434 + 10 * i + 1 + 3 * (f (434 + 10 * i) - 1).toNatClampNeg + 0)
/-! what holds of a row of numbers -/
def fb_si (f : Nat → Int) : Nat → Int
  | 0 => 0
  | n + 1 => fb_si f n + f n
def rg (x : Int32) (a b : Int) : Prop := a ≤ x.toInt ∧ x.toInt ≤ b
def CI (f : Nat → Int32) (c : Nat) : Prop := rg (f (495 + 19 * c + 0)) 1 9999 ∧ rg (f (495 + 19 * c + 1)) 0 1000 ∧ rg (f (495 + 19 * c + 2)) 0 (f 0).toInt ∧ rg (f (495 + 19 * c + 3)) 0 999 ∧ rg (f (495 + 19 * c + 4)) 0 100 ∧ rg (f (495 + 19 * c + 5)) 0 1 ∧ rg (f (495 + 19 * c + 6)) 0 6 ∧
  (∀ k : Nat, (k : Int) < (f (495 + 19 * c + 6)).toInt → rg (f (495 + 19 * c + (7 + 2 * k))) 0 1000 ∧ 0 ≤ (f (495 + 19 * c + (8 + 2 * k))).toInt ∧ (f (495 + 19 * c + (8 + 2 * k))).toInt < (f 1).toInt ∧ f (218 + 36 * (f (495 + 19 * c + (8 + 2 * k))).toNatClampNeg + (f (495 + 19 * c + 2)).toNatClampNeg) ≠ 0) ∧
  (f (495 + 19 * c + 1)).toInt + fb_si (fun k => (f (495 + 19 * c + (7 + 2 * k))).toInt) (f (495 + 19 * c + 6)).toNatClampNeg = 1000
def DI (f : Nat → Int32) (d : Nat) : Prop := 0 ≤ (f (610 + 9 * d + 0)).toInt ∧ (f (610 + 9 * d + 0)).toInt < (f 494).toInt ∧ (f (495 + 19 * (f (610 + 9 * d + 0)).toNatClampNeg + 2)).toInt ≤ (f (610 + 9 * d + 4)).toInt ∧ (f (610 + 9 * d + 4)).toInt ≤ 35 ∧ rg (f (610 + 9 * d + 2)) 0 35 ∧ rg (f (610 + 9 * d + 3)) 1 999 ∧ rg (f (610 + 9 * d + 5)) 0 1000000 ∧ rg (f (610 + 9 * d + 6)) 0 1 ∧ rg (f (610 + 9 * d + 7)) (-1) 35
def RI (f : Nat → Int32) : Prop := rg (f 0) 0 35 ∧ rg (f 1) 0 6 ∧ rg (f 494) 0 6 ∧ rg (f 609) 0 30 ∧
  (∀ i m : Nat, i < 6 → m < 36 → rg (f (218 + 36 * i + m)) 0 2 ∧ (f (218 + 36 * i + m) ≠ 0 → rg (f (2 + 36 * i + m)) 1 999)) ∧
  (∀ i : Nat, i < 6 → rg (f (434 + 10 * i)) 0 3 ∧ ∀ k : Nat, (k : Int) < (f (434 + 10 * i)).toInt → rg (f (434 + 10 * i + 1 + 3 * k + 0)) 0 35 ∧ rg (f (434 + 10 * i + 1 + 3 * k + 1)) 1 999 ∧ rg (f (434 + 10 * i + 1 + 3 * k + 2)) 1 999) ∧
  (∀ c : Nat, (c : Int) < (f 494).toInt → CI f c) ∧ (∀ d : Nat, (d : Int) < (f 609).toInt → DI f d)
