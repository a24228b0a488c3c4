/-! ===== ratios, factors, moves, prices as numbers ===== -/
theorem z_div {x y : Int64} {X Y : Int} (hx : x.toInt = X) (hy : y.toInt = Y) (h0 : 0 ≤ X) (h1 : 1 ≤ Y) : (x / y).toInt = X / Y := by
  have hX := fb_rngL x
  rw [hx] at hX
  have hq : 0 ≤ X / Y := Int.ediv_nonneg h0 (by omega)
  have hl : X / Y ≤ X := Int.ediv_le_self Y h0
  rw [Int64.toInt_div, hx, hy, Int.tdiv_eq_ediv_of_nonneg h0, fb_bmodL (by omega) (by omega)]
theorem z_to32 {x : Int64} {X : Int} (hx : x.toInt = X) (h1 : -2147483648 ≤ X) (h2 : X < 2147483648) : x.toInt32.toInt = X := by
  rw [Int64.toInt_toInt32, hx, fb_bmod h1 h2]
theorem mrP_lin (f : Nat → Int32) (i : Nat) (a z : Int32) (u d : Int64) : ∀ k, mrP f i a z u d k = (u * (mrP f i a z 1 1 k).1, d * (mrP f i a z 1 1 k).2)
  | 0 => by show (u, d) = (u * 1, d * 1); rw [Int64.mul_one, Int64.mul_one]
  | k + 1 => by
    have e1 : mrP f i a z u d (k + 1) = if mIn (f (434 + 10 * i + 1 + 3 * k + 0)) a (z - 1) = true then ((mrP f i a z u d k).1 * (f (434 + 10 * i + 1 + 3 * k + 1)).toInt64, (mrP f i a z u d k).2 * (f (434 + 10 * i + 1 + 3 * k + 2)).toInt64) else mrP f i a z u d k := rfl
    have e2 : mrP f i a z 1 1 (k + 1) = if mIn (f (434 + 10 * i + 1 + 3 * k + 0)) a (z - 1) = true then ((mrP f i a z 1 1 k).1 * (f (434 + 10 * i + 1 + 3 * k + 1)).toInt64, (mrP f i a z 1 1 k).2 * (f (434 + 10 * i + 1 + 3 * k + 2)).toInt64) else mrP f i a z 1 1 k := rfl
    rw [e1, e2, mrP_lin f i a z u d k]
    split
    · simp only [Int64.mul_assoc]
    · rfl
theorem z_mulb {x : Int64} {y : Int32} {M : Int} (hx : 1 ≤ x.toInt) (hM : x.toInt ≤ M) (hy : rg y 1 999) (hs : M * 999 < 9223372036854775808) : 1 ≤ (x * y.toInt64).toInt ∧ (x * y.toInt64).toInt ≤ M * 999 := by
  unfold rg at hy
  have hm1 : x.toInt * y.toInt ≤ M * 999 := Int.mul_le_mul hM hy.2 (by omega) (by omega)
  have hm0 : 1 * 1 ≤ x.toInt * y.toInt := Int.mul_le_mul hx hy.1 (by omega) (by omega)
  have e : (x * y.toInt64).toInt = x.toInt * y.toInt := by
    rw [fb_mulL, i64]
    · rw [i64]; omega
    · rw [i64]; omega
  rw [e]
  omega
theorem mrP_bd {f : Nat → Int32} (h : RI f) {i : Nat} (hi : i < 6) (a z : Int32) : ∀ k : Nat, (k : Int) ≤ (f (434 + 10 * i)).toInt → (1 ≤ (mrP f i a z 1 1 k).1.toInt ∧ (mrP f i a z 1 1 k).1.toInt ≤ 999 ^ k) ∧ 1 ≤ (mrP f i a z 1 1 k).2.toInt ∧ (mrP f i a z 1 1 k).2.toInt ≤ 999 ^ k
  | 0, _ => by
    rw [mrP]
    exact ⟨⟨by decide, by decide⟩, by decide, by decide⟩
  | k + 1, hk => by
    have ih := mrP_bd h hi a z k (by omega)
    have hb := h.base hi
    have hr := (h.reb hi (k := k) (by omega)).2
    unfold rg at hb
    have e2 : mrP f i a z 1 1 (k + 1) = if mIn (f (434 + 10 * i + 1 + 3 * k + 0)) a (z - 1) = true then ((mrP f i a z 1 1 k).1 * (f (434 + 10 * i + 1 + 3 * k + 1)).toInt64, (mrP f i a z 1 1 k).2 * (f (434 + 10 * i + 1 + 3 * k + 2)).toInt64) else mrP f i a z 1 1 k := rfl
    have hk3 : k ≤ 2 := by omega
    have hp : (999 : Int) ^ k ≤ 998001 := by
      rcases (by omega : k = 0 ∨ k = 1 ∨ k = 2) with rfl | rfl | rfl <;> decide
    have hs : (999 : Int) ^ (k + 1) = 999 ^ k * 999 := Int.pow_succ _ _
    have hpos : (0 : Int) < 999 ^ k := Int.pow_pos (by decide)
    rw [e2]
    split
    · have q1 := z_mulb ih.1.1 ih.1.2 hr.1 (by omega)
      have q2 := z_mulb ih.2.1 ih.2.2 hr.2 (by omega)
      rw [hs]
      exact ⟨q1, q2⟩
    · rw [hs]
      omega
def pR (f : Nat → Int32) (i : Nat) (a z : Int32) : Int := (mrP f i a z 1 1 (f (434 + 10 * i)).toNatClampNeg).1.toInt
def qR (f : Nat → Int32) (i : Nat) (a z : Int32) : Int := (mrP f i a z 1 1 (f (434 + 10 * i)).toNatClampNeg).2.toInt
theorem pq_bd {f : Nat → Int32} (h : RI f) {i : Nat} (hi : i < 6) (a z : Int32) : 1 ≤ pR f i a z ∧ pR f i a z ≤ 997002999 ∧ 1 ≤ qR f i a z ∧ qR f i a z ≤ 997002999 := by
  have hb := h.base hi
  unfold rg at hb
  have hc := clampI (f (434 + 10 * i))
  have q := mrP_bd h hi a z (f (434 + 10 * i)).toNatClampNeg (by omega)
  have hp : (999 : Int) ^ (f (434 + 10 * i)).toNatClampNeg ≤ 997002999 := by
    rcases (by omega : (f (434 + 10 * i)).toNatClampNeg = 0 ∨ (f (434 + 10 * i)).toNatClampNeg = 1 ∨ (f (434 + 10 * i)).toNatClampNeg = 2 ∨ (f (434 + 10 * i)).toNatClampNeg = 3) with e | e | e | e <;> rw [e] <;> decide
  unfold pR qR
  omega
theorem z_mul3 {u : Int32} {P : Int64} {p : Int} (hu : rg u 1 999) (hP : P.toInt = p) (h1 : 1 ≤ p) (h2 : p ≤ 997002999) : (u.toInt64 * P).toInt = u.toInt * p ∧ 1 ≤ u.toInt * p ∧ u.toInt * p ≤ 996005996001 := by
  unfold rg at hu
  have hm1 : u.toInt * p ≤ 999 * 997002999 := Int.mul_le_mul hu.2 h2 (by omega) (by omega)
  have hm0 : 1 * 1 ≤ u.toInt * p := Int.mul_le_mul hu.1 h1 (by omega) (by omega)
  refine ⟨?_, by omega, by omega⟩
  rw [fb_mulL, i64, hP]
  · rw [i64, hP]; omega
  · rw [i64, hP]; omega
theorem mRat_num {f : Nat → Int32} (h : RI f) {i : Nat} (hi : i < 6) {a z : Int32} (ha : rg (f (2 + 36 * i + a.toNatClampNeg)) 1 999) (hz : rg (f (2 + 36 * i + z.toNatClampNeg)) 1 999) :
    (mRat f i a z).toInt = min ((f (2 + 36 * i + z.toNatClampNeg)).toInt * pR f i a z * 1000000 / ((f (2 + 36 * i + a.toNatClampNeg)).toInt * qR f i a z)) 99999999 ∧
    0 < (mrP f i a z (f (2 + 36 * i + z.toNatClampNeg)).toInt64 (f (2 + 36 * i + a.toNatClampNeg)).toInt64 (f (434 + 10 * i)).toNatClampNeg).1.toInt ∧ 0 < (mrP f i a z (f (2 + 36 * i + z.toNatClampNeg)).toInt64 (f (2 + 36 * i + a.toNatClampNeg)).toInt64 (f (434 + 10 * i)).toNatClampNeg).2.toInt := by
  obtain ⟨p1, p2, q1, q2⟩ := pq_bd h hi a z
  have hu := z_mul3 hz (show (mrP f i a z 1 1 (f (434 + 10 * i)).toNatClampNeg).1.toInt = pR f i a z from rfl) p1 p2
  have hd := z_mul3 ha (show (mrP f i a z 1 1 (f (434 + 10 * i)).toNatClampNeg).2.toInt = qR f i a z from rfl) q1 q2
  unfold mRat
  rw [mrP_lin f i a z (f (2 + 36 * i + z.toNatClampNeg)).toInt64]
  generalize (f (2 + 36 * i + z.toNatClampNeg)).toInt64 * (mrP f i a z 1 1 (f (434 + 10 * i)).toNatClampNeg).1 = U at *
  generalize (f (2 + 36 * i + a.toNatClampNeg)).toInt64 * (mrP f i a z 1 1 (f (434 + 10 * i)).toNatClampNeg).2 = V at *
  generalize (f (2 + 36 * i + z.toNatClampNeg)).toInt * pR f i a z = X at *
  generalize (f (2 + 36 * i + a.toNatClampNeg)).toInt * qR f i a z = Y at *
  have em : ((1000000 : Int64)).toInt = 1000000 := rfl
  have e99 : ((99999999 : Int64)).toInt = 99999999 := rfl
  have eM : (U * 1000000).toInt = X * 1000000 := by
    rw [fb_mulL, hu.1, em]
    · rw [hu.1, em]; omega
    · rw [hu.1, em]; omega
  have eQ := z_div eM hd.1 (by omega) hd.2.1
  have hq0 : 0 ≤ X * 1000000 / Y := Int.ediv_nonneg (by omega) (by omega)
  refine ⟨?_, by show 0 < U.toInt; omega, by show 0 < V.toInt; omega⟩
  show (mrQ U V).toInt = _
  unfold mrQ
  by_cases hle : U * 1000000 / V ≤ 99999999
  · rw [if_pos hle]
    rw [Int64.le_iff_toInt_le, eQ, e99] at hle
    rw [z_to32 eQ (by omega) (by omega)]
    omega
  · rw [if_neg hle]
    rw [Int64.le_iff_toInt_le, eQ, e99] at hle
    have : ((99999999 : Int32)).toInt = 99999999 := rfl
    rw [this]
    omega
theorem mRat_rg {f : Nat → Int32} (h : RI f) {i : Nat} (hi : i < 6) {a z : Int32} (ha : rg (f (2 + 36 * i + a.toNatClampNeg)) 1 999) (hz : rg (f (2 + 36 * i + z.toNatClampNeg)) 1 999) : rg (mRat f i a z) 0 99999999 := by
  have q := (mRat_num h hi ha hz).1
  obtain ⟨p1, p2, q1, q2⟩ := pq_bd h hi a z
  have hu := z_mul3 hz (show (mrP f i a z 1 1 (f (434 + 10 * i)).toNatClampNeg).1.toInt = pR f i a z from rfl) p1 p2
  have hd := z_mul3 ha (show (mrP f i a z 1 1 (f (434 + 10 * i)).toNatClampNeg).2.toInt = qR f i a z from rfl) q1 q2
  have hq0 : 0 ≤ (f (2 + 36 * i + z.toNatClampNeg)).toInt * pR f i a z * 1000000 / ((f (2 + 36 * i + a.toNatClampNeg)).toInt * qR f i a z) := Int.ediv_nonneg (by omega) (by omega)
  unfold rg
  omega
/-- the class's ratio is the reference's -/
theorem z_ratP {σ : MI} {b i : Nat} {f : Nat → Int32} (h : zIx σ b i f) (a : Int32) {z : Int32} (hz : 0 ≤ z.toInt) (u d : Int64) : ∀ k : Nat, (k : Int) ≤ (f (434 + 10 * i)).toInt → ratP (σ (50 + 57 * b + 6 * i)) (σ (51 + 57 * b + 6 * i)) (σ (52 + 57 * b + 6 * i)) a z u d k = mrP f i a z u d k
  | 0, _ => rfl
  | k + 1, hk => by
    have ih := z_ratP h a hz u d k (by omega)
    obtain ⟨r1, r2, r3⟩ := h.2.2 k (by omega)
    rw [ratP, mrP, ih, r1, r2, r3]
    unfold mIn
    have e : (z - 1 < f (434 + 10 * i + 1 + 3 * k + 0)) ↔ z ≤ f (434 + 10 * i + 1 + 3 * k + 0) := by
      rw [i_lt, i_le, sub1 hz]; omega
    by_cases h1 : f (434 + 10 * i + 1 + 3 * k + 0) < a
    · rw [if_pos h1, if_pos h1, if_neg (by decide)]
    · rw [if_neg h1, if_neg h1]
      by_cases h2 : z ≤ f (434 + 10 * i + 1 + 3 * k + 0)
      · rw [if_pos h2, if_pos (e.mpr h2), if_neg (by decide)]
      · rw [if_neg h2, if_neg (fun q => h2 (e.mp q)), if_pos rfl]
theorem z_ratio {σ : MI} {b i : Nat} {f : Nat → Int32} (hR : RI f) (hi : i < 6) (h : zIx σ b i f) {a z : Int32} (ha : mIn a 0 35 = true) (hz : mIn z 0 35 = true) (sa : f (218 + 36 * i + a.toNatClampNeg) ≠ 0) (sz : f (218 + 36 * i + z.toNatClampNeg) ≠ 0) : ratI σ b i a z = mRat f i a z := by
  have hb := hR.base hi
  unfold rg at hb
  have va := hR.val hi (clampN (mMx ha)) sa
  have vz := hR.val hi (clampN (mMx hz)) sz
  have q := mRat_num hR hi va vz
  have hz0 := mIn_t hz
  have e0 := z0
  unfold ratI ratS mRat
  rw [z_val h ha, z_val h hz, if_neg sa, if_neg sz, h.2.1, kmin_eq (by exact hb.2), z_ratP h a (by omega) _ _ _ (by have := clampI (f (434 + 10 * i)); omega)]
  generalize mrP f i a z (f (2 + 36 * i + z.toNatClampNeg)).toInt64 (f (2 + 36 * i + a.toNatClampNeg)).toInt64 (f (434 + 10 * i)).toNatClampNeg = W at *
  obtain ⟨-, q2, q3⟩ := q
  have e00 : (0 : Int64).toInt = 0 := rfl
  unfold ratQ mrQ
  rw [if_neg (by rw [Int64.le_iff_toInt_le, e00]; omega), if_pos (by rw [Int64.lt_iff_toInt_lt, e00]; omega)]
  have e99 : ((99999999 : Int64)).toInt = 99999999 := rfl
  by_cases hle : W.1 * 1000000 / W.2 ≤ 99999999
  · rw [if_pos hle, if_neg (by rw [Int64.lt_iff_toInt_lt]; rw [Int64.le_iff_toInt_le] at hle; omega)]
  · rw [if_neg hle, if_pos (by rw [Int64.lt_iff_toInt_lt]; rw [Int64.le_iff_toInt_le] at hle; omega)]
    rfl
/-! the factor -/
theorem mKn_val {f : Nat → Int32} (hR : RI f) {i j n : Nat} (hi : i < 6) (hj : f (218 + 36 * i + j) ≠ 0) (h : j < n) (hn : n ≤ 36) : mIn (mKn f i n) 0 35 = true ∧ f (218 + 36 * i + (mKn f i n).toNatClampNeg) ≠ 0 ∧ rg (f (2 + 36 * i + (mKn f i n).toNatClampNeg)) 1 999 := by
  obtain ⟨r, h1, h2, h3, h4⟩ := kn_ge (f := fun j => f (218 + 36 * i + j)) hj n h
  have e : mKn f i n = nI r := h1
  have h4 : f (218 + 36 * i + r) ≠ 0 := h4
  rw [e, nI_clamp (by omega)]
  refine ⟨?_, h4, hR.val hi (by omega) h4⟩
  cases q : mIn (nI r) 0 35
  · have := mIn_f q
    rw [nI_toInt (by omega)] at this
    have e0 := z0
    have e1 : (35 : Int32).toInt = 35 := rfl
    omega
  · rfl
/-- contract c's term k -/
theorem z_term {f : Nat → Int32} (hR : RI f) {c n k : Nat} (hC : (c : Int) < (f 494).toInt) (hn : n ≤ 36) (hb : (f (495 + 19 * c + 2)).toInt < n) (hk : (k : Int) < (f (495 + 19 * c + 6)).toInt) :
    (f (495 + 19 * c + (8 + 2 * k))).toNatClampNeg < 6 ∧ ((f (495 + 19 * c + (8 + 2 * k))).toNatClampNeg : Int) < (f 1).toInt ∧ mIn (f (495 + 19 * c + 2)) 0 35 = true ∧ f (218 + 36 * (f (495 + 19 * c + (8 + 2 * k))).toNatClampNeg + (f (495 + 19 * c + 2)).toNatClampNeg) ≠ 0 ∧
    mIn (mKn f (f (495 + 19 * c + (8 + 2 * k))).toNatClampNeg n) 0 35 = true ∧ f (218 + 36 * (f (495 + 19 * c + (8 + 2 * k))).toNatClampNeg + (mKn f (f (495 + 19 * c + (8 + 2 * k))).toNatClampNeg n).toNatClampNeg) ≠ 0 ∧ rg (mRat f (f (495 + 19 * c + (8 + 2 * k))).toNatClampNeg (f (495 + 19 * c + 2)) (mKn f (f (495 + 19 * c + (8 + 2 * k))).toNatClampNeg n)) 0 99999999 := by
  have q := hR.con hC
  obtain ⟨g1, g2, g3, g4⟩ := q.2.2.2.2.2.2.2.1 k hk
  have qb := q.2.2.1
  have h0 := hR.1
  have h1 := hR.2.1
  unfold rg at qb h0 h1
  have hcx := clampI (f (495 + 19 * c + (8 + 2 * k)))
  have hcb := clampI (f (495 + 19 * c + 2))
  have hi : (f (495 + 19 * c + (8 + 2 * k))).toNatClampNeg < 6 := by omega
  have kv := mKn_val hR hi g4 (n := n) (by omega) hn
  have bv := hR.val hi (by omega) g4
  refine ⟨hi, by omega, ?_, g4, kv.1, kv.2.1, mRat_rg hR hi bv kv.2.2⟩
  cases w : mIn (f (495 + 19 * c + 2)) 0 35
  · have := mIn_f w
    have e0 := z0
    have e1 : (35 : Int32).toInt = 35 := rfl
    omega
  · rfl
theorem z_facP {σ : MI} {b : Nat} {f : Nat → Int32} (hR : RI f) (hB : zBk σ b f) {c : Nat} {m : Int32} (hC : (c : Int) < (f 494).toInt) (hb : (f (495 + 19 * c + 2)).toInt < (cntM m : Int)) : ∀ k : Nat, (k : Int) ≤ (f (495 + 19 * c + 6)).toInt → facP σ b c m k = mfP f c (cntM m) k
  | 0, _ => by
    rw [facP, mfP, (hB.co hC).1 1 (by omega), Int64.mul_comm]
  | k + 1, hk => by
    have ih := z_facP hR hB hC hb k (by omega)
    obtain ⟨t1, t2, t3, t4, t5, t6, -⟩ := z_term hR (n := cntM m) (k := k) hC (cntM_le m) hb (by omega)
    obtain ⟨c1, c2⟩ := (hB.co hC).2 k (by omega)
    have h8 := (hR.con hC).2.2.2.2.2.2.2.1 k (by omega)
    have hin : inC (σ (85 + 57 * b + 3 * c) k) (σ (44 + 57 * b) 1) 6 = true := by
      rw [c2, hB.2.1, zinI hR]
      cases w : mIn (f (495 + 19 * c + (8 + 2 * k))) 0 (f 1 - 1)
      · have := mIn_f w
        rw [sub1 hR.2.1.1] at this
        have e0 := z0
        have := h8.2
        omega
      · rfl
    rw [facP, if_pos hin, mfP, ih, c1, c2, (hB.co hC).1 2 (by omega), z_known (hB.ix t2), z_ratio hR t1 (hB.ix t2) t3 t5 t4 t6]
theorem z_fac {σ : MI} {b : Nat} {f : Nat → Int32} (hR : RI f) (hB : zBk σ b f) {c : Nat} {m : Int32} (hC : (c : Int) < (f 494).toInt) (hb : (f (495 + 19 * c + 2)).toInt < (cntM m : Int)) : facS σ b c m = mFac f c (cntM m) := by
  have h6 := (hR.con hC).2.2.2.2.2.2.1
  unfold rg at h6
  have hc := clampI (f (495 + 19 * c + 6))
  unfold facS mFac
  rw [(hB.co hC).1 6 (by omega), kmin_eq (by exact h6.2), z_facP hR hB hC hb _ (by omega)]
/-- the sum behind a factor, as a number -/
def fZ (f : Nat → Int32) (c n : Nat) : Nat → Int
  | 0 => 1000000 * (f (495 + 19 * c + 1)).toInt
  | k + 1 => fZ f c n k + (f (495 + 19 * c + (7 + 2 * k))).toInt * (mRat f (f (495 + 19 * c + (8 + 2 * k))).toNatClampNeg (f (495 + 19 * c + 2)) (mKn f (f (495 + 19 * c + (8 + 2 * k))).toNatClampNeg n)).toInt
theorem mfP_num {f : Nat → Int32} (hR : RI f) {c n : Nat} (hC : (c : Int) < (f 494).toInt) (hn : n ≤ 36) (hb : (f (495 + 19 * c + 2)).toInt < n) : ∀ k : Nat, (k : Int) ≤ (f (495 + 19 * c + 6)).toInt → (mfP f c n k).toInt = fZ f c n k ∧ 0 ≤ fZ f c n k ∧ fZ f c n k ≤ ((f (495 + 19 * c + 1)).toInt + fb_si (fun k => (f (495 + 19 * c + (7 + 2 * k))).toInt) k) * 99999999
  | 0, _ => by
    have h1 := (hR.con hC).2.1
    unfold rg at h1
    have em : ((1000000 : Int64)).toInt = 1000000 := rfl
    rw [mfP, fZ, fb_mulL (by rw [em, i64]; omega) (by rw [em, i64]; omega), em, i64, fb_si]
    omega
  | k + 1, hk => by
    have ih := mfP_num hR hC hn hb k (by omega)
    have t := (z_term hR (n := n) (k := k) hC hn hb (by omega)).2.2.2.2.2.2
    have q := hR.con hC
    have h6 := q.2.2.2.2.2.2.1
    have h1 := q.2.1
    have hw := (q.2.2.2.2.2.2.2.1 k (by omega)).1
    have hsi := fb_si_le (f := fun k => (f (495 + 19 * c + (7 + 2 * k))).toInt) k (fun n hn => (q.2.2.2.2.2.2.2.1 n (by omega)).1)
    unfold rg at t hw h6 h1
    rw [mfP, fZ, fb_si_succ]
    generalize mRat f (f (495 + 19 * c + (8 + 2 * k))).toNatClampNeg (f (495 + 19 * c + 2)) (mKn f (f (495 + 19 * c + (8 + 2 * k))).toNatClampNeg n) = r at *
    have hp0 : 0 * 0 ≤ (f (495 + 19 * c + (7 + 2 * k))).toInt * r.toInt := Int.mul_le_mul hw.1 t.1 (by omega) (by omega)
    have hp1 : (f (495 + 19 * c + (7 + 2 * k))).toInt * r.toInt ≤ (f (495 + 19 * c + (7 + 2 * k))).toInt * 99999999 := Int.mul_le_mul_of_nonneg_left t.2 hw.1
    generalize hW : (f (495 + 19 * c + (7 + 2 * k))).toInt * r.toInt = W at *
    have em : ((f (495 + 19 * c + (7 + 2 * k))).toInt64 * r.toInt64).toInt = W := by
      rw [fb_mulL, i64, i64, hW]
      · rw [i64, i64, hW]; omega
      · rw [i64, i64, hW]; omega
    rw [fb_addL, em, ih.1]
    · refine ⟨rfl, by omega, by omega⟩
    · rw [em, ih.1]; omega
    · rw [em, ih.1]; omega
theorem mFac_num {f : Nat → Int32} (hR : RI f) {c n : Nat} (hC : (c : Int) < (f 494).toInt) (hn : n ≤ 36) (hb : (f (495 + 19 * c + 2)).toInt < n) : (mFac f c n).toInt = fZ f c n (f (495 + 19 * c + 6)).toNatClampNeg / 1000 ∧ rg (mFac f c n) 0 99999999 := by
  have q := hR.con hC
  have h6 := q.2.2.2.2.2.2.1
  unfold rg at h6
  have hc := clampI (f (495 + 19 * c + 6))
  have e := mfP_num hR hC hn hb (f (495 + 19 * c + 6)).toNatClampNeg (by omega)
  have hs := q.2.2.2.2.2.2.2.2
  rw [hs] at e
  have ek : ((1000 : Int64)).toInt = 1000 := rfl
  have d := z_div e.1 ek e.2.1 (by omega)
  unfold mFac rg
  rw [z_to32 d (by omega) (by omega)]
  omega
