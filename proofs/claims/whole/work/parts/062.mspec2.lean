/-! ===== the reference: ratios, prices ===== -/
def mrP (f : Nat → Int32) (i : Nat) (a z : Int32) (u d : Int64) : Nat → Int64 × Int64
  | 0 => (u, d)
  | k + 1 => if mIn (f (434 + 10 * i + 1 + 3 * k + 0)) a (z - 1) = true then ((mrP f i a z u d k).1 * (f (434 + 10 * i + 1 + 3 * k + 1)).toInt64, (mrP f i a z u d k).2 * (f (434 + 10 * i + 1 + 3 * k + 2)).toInt64) else mrP f i a z u d k
def mrQ (u d : Int64) : Int32 := if u * 1000000 / d ≤ 99999999 then (u * 1000000 / d).toInt32 else 99999999
def mRat (f : Nat → Int32) (i : Nat) (a z : Int32) : Int32 := mrQ (mrP f i a z (f (2 + 36 * i + z.toNatClampNeg)).toInt64 (f (2 + 36 * i + a.toNatClampNeg)).toInt64 (f (434 + 10 * i)).toNatClampNeg).1 (mrP f i a z (f (2 + 36 * i + z.toNatClampNeg)).toInt64 (f (2 + 36 * i + a.toNatClampNeg)).toInt64 (f (434 + 10 * i)).toNatClampNeg).2
theorem RI.base {f : Nat → Int32} (h : RI f) {i : Nat} (hi : i < 6) : rg (f (434 + 10 * i)) 0 3 := (h.2.2.2.2.2.1 i hi).1
theorem RI.reb {f : Nat → Int32} (h : RI f) {i : Nat} (hi : i < 6) {k : Nat} (hk : (k : Int) < (f (434 + 10 * i)).toInt) : rg (f (434 + 10 * i + 1 + 3 * k + 0)) 0 35 ∧ rg (f (434 + 10 * i + 1 + 3 * k + 1)) 1 999 ∧ rg (f (434 + 10 * i + 1 + 3 * k + 2)) 1 999 := (h.2.2.2.2.2.1 i hi).2 k hk
theorem RI.sure {f : Nat → Int32} (h : RI f) {i m : Nat} (hi : i < 6) (hm : m < 36) : rg (f (218 + 36 * i + m)) 0 2 := (h.2.2.2.2.1 i m hi hm).1
theorem RI.val {f : Nat → Int32} (h : RI f) {i m : Nat} (hi : i < 6) (hm : m < 36) (hs : f (218 + 36 * i + m) ≠ 0) : rg (f (2 + 36 * i + m)) 1 999 := (h.2.2.2.2.1 i m hi hm).2 hs
theorem RI.con {f : Nat → Int32} (h : RI f) {c : Nat} (hc : (c : Int) < (f 494).toInt) : CI f c := h.2.2.2.2.2.2.1 c hc
theorem RI.del {f : Nat → Int32} (h : RI f) {d : Nat} (hd : (d : Int) < (f 609).toInt) : DI f d := h.2.2.2.2.2.2.2 d hd
theorem i64 (x : Int32) : x.toInt64.toInt = x.toInt := Int32.toInt_toInt64 x
theorem mrP_pos {f : Nat → Int32} (h : RI f) {i : Nat} (hi : i < 6) (a z : Int32) (u : Int64) {d : Int32} (hd : rg d 1 999) : ∀ k : Nat, (k : Int) ≤ (f (434 + 10 * i)).toInt → 1 ≤ (mrP f i a z u d.toInt64 k).2.toInt ∧ (mrP f i a z u d.toInt64 k).2.toInt ≤ 999 * 999 ^ k
  | 0, _ => by
    rw [mrP, i64]
    exact ⟨hd.1, by have := hd.2; omega⟩
  | k + 1, hk => by
    have ih := mrP_pos h hi a z u hd k (by omega)
    have hb := h.base hi
    have hr := (h.reb hi (k := k) (by omega)).2.2
    rw [mrP]
    split
    · show 1 ≤ ((mrP f i a z u d.toInt64 k).2 * (f (434 + 10 * i + 1 + 3 * k + 2)).toInt64).toInt ∧ ((mrP f i a z u d.toInt64 k).2 * (f (434 + 10 * i + 1 + 3 * k + 2)).toInt64).toInt ≤ _
      have hk3 : k ≤ 2 := by have := hb.2; omega
      have hp : (999 : Int) * 999 ^ k ≤ 997002999 := by
        rcases (by omega : k = 0 ∨ k = 1 ∨ k = 2) with rfl | rfl | rfl <;> decide
      have hm1 : (mrP f i a z u d.toInt64 k).2.toInt * (f (434 + 10 * i + 1 + 3 * k + 2)).toInt ≤ (999 * 999 ^ k) * 999 := Int.mul_le_mul ih.2 hr.2 (by have := hr.1; omega) (by omega)
      have hm0 : 1 * 1 ≤ (mrP f i a z u d.toInt64 k).2.toInt * (f (434 + 10 * i + 1 + 3 * k + 2)).toInt := Int.mul_le_mul ih.1 hr.1 (by omega) (by omega)
      have e : ((mrP f i a z u d.toInt64 k).2 * (f (434 + 10 * i + 1 + 3 * k + 2)).toInt64).toInt = (mrP f i a z u d.toInt64 k).2.toInt * (f (434 + 10 * i + 1 + 3 * k + 2)).toInt := by
        rw [fb_mulL, i64]
        · rw [i64]; omega
        · rw [i64]; omega
      rw [e]
      refine ⟨by omega, ?_⟩
      have : (999 : Int) * 999 ^ (k + 1) = (999 * 999 ^ k) * 999 := by rw [Int.pow_succ, Int.mul_assoc]
      omega
    · refine ⟨ih.1, ?_⟩
      have h9 : (999 : Int) * 999 ^ k ≤ 999 * 999 ^ (k + 1) := by
        rw [Int.pow_succ]
        have : (0 : Int) < 999 ^ k := Int.pow_pos (by decide)
        omega
      omega
theorem mrP_ne {f : Nat → Int32} (h : RI f) {i : Nat} (hi : i < 6) (a z : Int32) (u : Int64) {d : Int32} (hd : rg d 1 999) {k : Nat} (hk : (k : Int) ≤ (f (434 + 10 * i)).toInt) : ¬ (mrP f i a z u d.toInt64 k).2 = 0 := fun q => by
  have := (mrP_pos h hi a z u hd k hk).1
  rw [q] at this
  exact absurd this (by decide)
def mfP (f : Nat → Int32) (c n : Nat) : Nat → Int64
  | 0 => 1000000 * (f (495 + 19 * c + 1)).toInt64
  | k + 1 => mfP f c n k + (f (495 + 19 * c + (7 + 2 * k))).toInt64 * (mRat f (f (495 + 19 * c + (8 + 2 * k))).toNatClampNeg (f (495 + 19 * c + 2)) (mKn f (f (495 + 19 * c + (8 + 2 * k))).toNatClampNeg n)).toInt64
def mFac (f : Nat → Int32) (c n : Nat) : Int32 := (mfP f c n (f (495 + 19 * c + 6)).toNatClampNeg / 1000).toInt32
def mMp (p mv far : Int32) : Int32 := if 0 ≤ mv then (far.toInt64 * p.toInt64 / 100).toInt32 else -(far.toInt64 * p.toInt64 / 100).toInt32
def mMw (lim bey p mv far : Int32) : Int32 := if 1000 * lim < far then (if bey = 1 then mMp p mv (far - 1000 * lim) else mMp p mv far) else 0
def mMv (lim bey p mv : Int32) : Int32 := if 0 ≤ mv then mMw lim bey p mv mv else mMw lim bey p mv (-mv)
def mMov (f : Nat → Int32) (c n : Nat) : Int32 := mMv (f (495 + 19 * c + 3)) (f (495 + 19 * c + 5)) (f (495 + 19 * c + 4)) (mFac f c n - 1000000)
def mPri (f : Nat → Int32) (c n : Nat) : Int32 := (((f (495 + 19 * c + 0)).toInt64 * (1000000 + (mMov f c n).toInt64) + 500000) / 1000000).toInt32
theorem kn_ge {f : Nat → Int32} {j : Nat} (hj : f j ≠ 0) : ∀ n, j < n → ∃ r, kn f n = nI r ∧ j ≤ r ∧ r < n ∧ f r ≠ 0
  | 0, h => absurd h (Nat.not_lt_zero j)
  | n + 1, h => by
    rw [kn]
    by_cases e : f n = 0
    · rw [if_pos e]
      have : j ≠ n := fun q => hj (q ▸ e)
      obtain ⟨r, h1, h2, h3, h4⟩ := kn_ge hj n (by omega)
      exact ⟨r, h1, h2, by omega, h4⟩
    · rw [if_neg e]
      exact ⟨n, rfl, by omega, by omega, e⟩
theorem mKn_ge {f : Nat → Int32} {i j n : Nat} (hj : f (218 + 36 * i + j) ≠ 0) (h : j < n) (hn : n ≤ 36) : vp_in (mKn f i n) 36 := by
  obtain ⟨r, h1, h2, h3, -⟩ := kn_ge (f := fun j => f (218 + 36 * i + j)) hj n h
  unfold mKn
  rw [h1]
  exact vp_in_nI (by omega) (by decide)
theorem tw8 (k : Nat) : (8 : Int32) + 2 * nI k = nI (8 + 2 * k) := by
  rw [show (8 : Int32) = nI 8 from rfl, show (2 : Int32) = nI 2 from rfl, pk_mul, nI_add]
theorem tw7 (k : Nat) : (7 : Int32) + 2 * nI k = nI (7 + 2 * k) := by
  rw [show (7 : Int32) = nI 7 from rfl, show (2 : Int32) = nI 2 from rfl, pk_mul, nI_add]
def mWa (f : Nat → Int32) (c : Nat) (at_ : Nat) : Nat → Int32
  | 0 => 0
  | k + 1 => if f (495 + 19 * c + (7 + 2 * k)) ≤ 0 then mWa f c at_ k else if f (218 + 36 * (f (495 + 19 * c + (8 + 2 * k))).toNatClampNeg + at_) = 2 then mWa f c at_ k else mWa f c at_ k ||| 1 <<< (f (495 + 19 * c + (8 + 2 * k)) &&& 31)
def mWai (f : Nat → Int32) (d : Nat) : Int32 := mWa f (f (610 + 9 * d + 0)).toNatClampNeg (f (610 + 9 * d + 4)).toNatClampNeg (f (495 + 19 * (f (610 + 9 * d + 0)).toNatClampNeg + 6)).toNatClampNeg
