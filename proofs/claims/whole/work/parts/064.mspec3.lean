/-! ===== the reference: its calls that only tell ===== -/
theorem sub1 {x : Int32} (h : 0 ≤ x.toInt) : (x - 1).toInt = x.toInt - 1 := by
  have e1 : (1 : Int32).toInt = 1 := rfl
  have := fb_rng x
  rw [fb_subI (by omega) (by omega)]; omega
theorem mBx {x n : Int32} {N : Nat} (hn : rg n 0 N) (h : mIn x 0 (n - 1) = true) : vp_in x N ∧ (x.toNatClampNeg : Int) < n.toInt := by
  have h1 := mIn_t h
  have e0 : (0 : Int32).toInt = 0 := rfl
  rw [sub1 hn.1] at h1
  have := hn.2
  have := clampI x
  refine ⟨?_, by omega⟩
  rw [vp_in_iff]; omega
theorem mIx {f : Nat → Int32} (hR : RI f) {x : Int32} (h : mIn x 0 (f 1 - 1) = true) : vp_in x 6 ∧ (x.toNatClampNeg : Int) < (f 1).toInt := mBx (N := 6) hR.2.1 h
theorem mCx {f : Nat → Int32} (hR : RI f) {x : Int32} (h : mIn x 0 (f 494 - 1) = true) : vp_in x 6 ∧ (x.toNatClampNeg : Int) < (f 494).toInt := mBx (N := 6) hR.2.2.1 h
theorem mDx {f : Nat → Int32} (hR : RI f) {x : Int32} (h : mIn x 0 (f 609 - 1) = true) : vp_in x 30 ∧ (x.toNatClampNeg : Int) < (f 609).toInt := mBx (N := 30) hR.2.2.2.1 h
theorem mMx {x : Int32} (h : mIn x 0 35 = true) : vp_in x 36 := by
  have h1 := mIn_t h
  have e0 : (0 : Int32).toInt = 0 := rfl
  have e1 : (35 : Int32).toInt = 35 := rfl
  rw [vp_in_iff]; omega
theorem mWx {x : Int32} (h : mIn x 0 2 = true) : vp_in x 3 := by
  have h1 := mIn_t h
  have e0 : (0 : Int32).toInt = 0 := rfl
  have e1 : (2 : Int32).toInt = 2 := rfl
  rw [vp_in_iff]; omega
theorem m8x {x : Int32} (h : mIn x 0 8 = true) : vp_in x 9 := by
  have h1 := mIn_t h
  have e0 : (0 : Int32).toInt = 0 := rfl
  have e1 : (8 : Int32).toInt = 8 := rfl
  rw [vp_in_iff]; omega
theorem vpI {x : Int32} {n : Nat} (h : vp_in x n) : x.toInt = ((x.toNatClampNeg + 1 : Nat) : Int) - 1 := by
  rw [vp_in_iff] at h
  have := clampI x
  omega
theorem vpL {x : Int32} {n : Nat} (h : vp_in x n) : x.toNatClampNeg + 1 ≤ n := clampN h
theorem kn_in {f : Nat → Int32} : ∀ n, kn f n ≠ -1 → n ≤ 36 → vp_in (kn f n) 36
  | 0, h, _ => absurd rfl h
  | n + 1, h, hn => by
    rw [kn] at h ⊢
    by_cases e : f n = 0
    · rw [if_pos e] at h ⊢
      exact kn_in n h (by omega)
    · rw [if_neg e]
      exact vp_in_nI (by omega) (by decide)
def mNow (σ : MI) (w : Int32) : Int32 := match swt w 7 with
  | 0 => σ 2 0
  | 1 => σ 2 1
  | 2 => σ 2 494
  | 3 => σ 2 609
  | 4 => mSet (σ 2) (σ 2 609).toNatClampNeg
  | 5 => σ 0 16
  | 6 => σ 0 2
  | _ => -1
def mVal (f : Nat → Int32) (x m w : Int32) : Int32 := if mIn x 0 (f 1 - 1) = true then (if mIn m 0 35 = true then (match swt w 4 with
  | 0 => if f (218 + 36 * x.toNatClampNeg + m.toNatClampNeg) = 0 then -1 else f (2 + 36 * x.toNatClampNeg + m.toNatClampNeg)
  | 1 => f (218 + 36 * x.toNatClampNeg + m.toNatClampNeg)
  | 2 => if mKn f x.toNatClampNeg (m.toNatClampNeg + 1) = -1 then -1 else f (2 + 36 * x.toNatClampNeg + (mKn f x.toNatClampNeg (m.toNatClampNeg + 1)).toNatClampNeg)
  | 3 => mKn f x.toNatClampNeg (m.toNatClampNeg + 1)
  | _ => -1) else -1) else -1
def mReb (f : Nat → Int32) (x k w : Int32) : Int32 := if mIn x 0 (f 1 - 1) = true then (if mIn k 0 (f (434 + 10 * x.toNatClampNeg) - 1) = true then (if mIn w 0 2 = true then f (434 + 10 * x.toNatClampNeg + 1 + 3 * k.toNatClampNeg + w.toNatClampNeg) else -1) else -1) else -1
def mRtC (f : Nat → Int32) (x a z : Int32) : Bool := if mIn x 0 (f 1 - 1) = true then (if mIn a 0 35 = true then (if mIn z 0 35 = true then (if z < a then false else if f (218 + 36 * x.toNatClampNeg + a.toNatClampNeg) = 0 then false else if f (218 + 36 * x.toNatClampNeg + z.toNatClampNeg) = 0 then false else true) else false) else false) else false
def mCon (f : Nat → Int32) (x w : Int32) : Int32 := if mIn x 0 (f 494 - 1) = true then (if mIn w 0 (6 + 2 * f (495 + 19 * x.toNatClampNeg + 6)) = true then f (495 + 19 * x.toNatClampNeg + w.toNatClampNeg) else -1) else -1
def mPrC (f : Nat → Int32) (x m w : Int32) : Bool := if mIn x 0 (f 494 - 1) = true then (if mIn m (f (495 + 19 * x.toNatClampNeg + 2)) (f 0) = true then (if mIn w 0 2 = true then true else false) else false) else false
def mPrR (f : Nat → Int32) (x m w : Int32) : Int32 := if mPrC f x m w = true then (if w = 0 then mFac f x.toNatClampNeg (m.toNatClampNeg + 1) else if w = 1 then mMov f x.toNatClampNeg (m.toNatClampNeg + 1) else mPri f x.toNatClampNeg (m.toNatClampNeg + 1)) else 0
theorem mCw {f : Nat → Int32} (hR : RI f) {c : Nat} (hc : (c : Int) < (f 494).toInt) {w : Int32} (h : mIn w 0 (6 + 2 * f (495 + 19 * c + 6)) = true) : vp_in w 19 := by
  have h6 := (hR.con hc).2.2.2.2.2.2.1
  unfold rg at h6
  have h1 := mIn_t h
  have e0 : (0 : Int32).toInt = 0 := rfl
  have e2 : (2 : Int32).toInt = 2 := rfl
  have e6 : (6 : Int32).toInt = 6 := rfl
  have e : (2 * f (495 + 19 * c + 6)).toInt = 2 * (f (495 + 19 * c + 6)).toInt := by
    have := fb_mulI (x := 2) (y := f (495 + 19 * c + 6)) (by rw [e2]; omega) (by rw [e2]; omega)
    rw [this, e2]
  rw [fb_addI (by omega) (by omega), e] at h1
  rw [vp_in_iff]; omega
theorem mPx {f : Nat → Int32} (hR : RI f) {c : Nat} (hc : (c : Int) < (f 494).toInt) {m : Int32} (h : mIn m (f (495 + 19 * c + 2)) (f 0) = true) : vp_in m 36 ∧ (f (495 + 19 * c + 2)).toInt < ((m.toNatClampNeg + 1 : Nat) : Int) := by
  have hb := (hR.con hc).2.2.1
  have h0 := hR.1
  unfold rg at hb h0
  have h1 := mIn_t h
  have := clampI m
  refine ⟨?_, by omega⟩
  rw [vp_in_iff]; omega
def mDel (f : Nat → Int32) (x w : Int32) : Int32 := if mIn x 0 (f 609 - 1) = true then (if mIn w 0 8 = true then (if w = 8 then (if f (610 + 9 * x.toNatClampNeg + 6) = 1 then 0 else mWai f x.toNatClampNeg) else f (610 + 9 * x.toNatClampNeg + w.toNatClampNeg)) else -1) else -1
def mAmC (f : Nat → Int32) (x w : Int32) : Bool := if mIn x 0 (f 609 - 1) = true then (if mIn w 0 2 = true then true else false) else false
def mBil (f : Nat → Int32) (d : Nat) : Int64 := (f (610 + 9 * d + 3)).toInt64 * (f (610 + 9 * d + 5)).toInt64
def mAmR (f : Nat → Int32) (x w : Int32) : Int64 := if mAmC f x w = true then (if w = 0 then mBil f x.toNatClampNeg else if w = 1 then (f (610 + 9 * x.toNatClampNeg + 8)).toInt64 else mBil f x.toNatClampNeg + (f (610 + 9 * x.toNatClampNeg + 8)).toInt64) else (0 : Int32).toInt64
/-! with a value put for now -/
def rowP (f : Nat → Int32) (i m : Nat) (v : Int32) : Nat → Int32 := upd (upd f (2 + 36 * i + m) v) (218 + 36 * i + m) 2
theorem rowP_ne (f : Nat → Int32) {i m j : Nat} (v : Int32) (h : j ≠ 2 + 36 * i + m) (h2 : j ≠ 218 + 36 * i + m) : rowP f i m v j = f j := by
  simp only [rowP, upd, if_neg h, if_neg h2]
theorem rowP_far (f : Nat → Int32) {i m j : Nat} (v : Int32) (hi : i < 6) (hm : m < 36) (h : j < 2 ∨ 434 ≤ j) : rowP f i m v j = f j := rowP_ne f v (by omega) (by omega)
theorem RI_put {f : Nat → Int32} (hR : RI f) {i m : Nat} {v : Int32} (hi : i < 6) (hm : m < 36) (hv : rg v 1 999) : RI (rowP f i m v) := by
  have far : ∀ j, (j < 2 ∨ 434 ≤ j) → rowP f i m v j = f j := fun j h => rowP_far f v hi hm h
  refine ⟨?_, ?_, ?_, ?_, ?_, ?_, ?_, ?_⟩
  · rw [far 0 (by omega)]; exact hR.1
  · rw [far 1 (by omega)]; exact hR.2.1
  · rw [far 494 (by omega)]; exact hR.2.2.1
  · rw [far 609 (by omega)]; exact hR.2.2.2.1
  · intro a b ha hb
    by_cases h1 : a = i ∧ b = m
    · obtain ⟨rfl, rfl⟩ := h1
      have e1 : rowP f a b v (218 + 36 * a + b) = 2 := by simp only [rowP, upd, ↓reduceIte]
      have e2 : rowP f a b v (2 + 36 * a + b) = v := by simp only [rowP, upd, ↓reduceIte]; rw [if_neg (by omega)]
      rw [e1, e2]
      exact ⟨⟨by decide, by decide⟩, fun _ => hv⟩
    · rw [rowP_ne f v (by omega) (by omega), rowP_ne f v (by omega) (by omega)]
      exact hR.2.2.2.2.1 a b ha hb
  · intro a ha
    rw [far _ (by omega)]
    refine ⟨hR.base ha, fun k hk => ?_⟩
    rw [far _ (by omega), far _ (by omega), far _ (by omega)]
    exact hR.reb ha hk
  · intro c hc
    rw [far 494 (by omega)] at hc
    have h := hR.con hc
    unfold CI at h ⊢
    have hb36 : (f (495 + 19 * c + 2)).toNatClampNeg < 36 := by
      have h1 := h.2.2.1
      have h2 := hR.1
      unfold rg at h1 h2
      have := clampI (f (495 + 19 * c + 2))
      omega
    rw [far 0 (by omega), far 1 (by omega), far (495 + 19 * c + 0) (by omega), far (495 + 19 * c + 1) (by omega), far (495 + 19 * c + 2) (by omega), far (495 + 19 * c + 3) (by omega), far (495 + 19 * c + 4) (by omega), far (495 + 19 * c + 5) (by omega), far (495 + 19 * c + 6) (by omega)]
    refine ⟨h.1, h.2.1, h.2.2.1, h.2.2.2.1, h.2.2.2.2.1, h.2.2.2.2.2.1, h.2.2.2.2.2.2.1, fun k hk => ?_, ?_⟩
    · rw [far _ (by omega), far _ (by omega)]
      obtain ⟨g1, g2, g3, g4⟩ := h.2.2.2.2.2.2.2.1 k hk
      refine ⟨g1, g2, g3, ?_⟩
      by_cases hq : 218 + 36 * (f (495 + 19 * c + (8 + 2 * k))).toNatClampNeg + (f (495 + 19 * c + 2)).toNatClampNeg = 218 + 36 * i + m
      · rw [hq]
        simp only [rowP, upd, ↓reduceIte]
        decide
      · rw [rowP_ne f v (by omega) hq]
        exact g4
    · have e : (fun k => (rowP f i m v (495 + 19 * c + (7 + 2 * k))).toInt) = fun k => (f (495 + 19 * c + (7 + 2 * k))).toInt := funext fun k => by rw [far _ (by omega)]
      rw [e]
      exact h.2.2.2.2.2.2.2.2
  · intro d hd
    rw [far 609 (by omega)] at hd
    have h := hR.del hd
    unfold DI at h ⊢
    rw [far 494 (by omega), far (610 + 9 * d + 0) (by omega), far (495 + 19 * (f (610 + 9 * d + 0)).toNatClampNeg + 2) (by omega), far (610 + 9 * d + 4) (by omega), far (610 + 9 * d + 2) (by omega), far (610 + 9 * d + 3) (by omega), far (610 + 9 * d + 5) (by omega), far (610 + 9 * d + 6) (by omega), far (610 + 9 * d + 7) (by omega)]
    exact h
theorem ixP {A : Int32} (A' : Nat) {i m : Int32} {b c : Nat} (hA : A = nI A') (hi : i.toNatClampNeg = b) (vi : vp_in i 6) (hm : m.toNatClampNeg = c) (vm : vp_in m 36) : A + (36 * i + m) = nI (A' + 36 * b + c) := by
  rw [hA, show (36 : Int32) = nI 36 from rfl, vpn vi hi, vpn vm hm, pk_mul, nI_add, nI_add, Nat.add_assoc]
theorem rest4 (σ : MI) (k a b : Nat) (v w : Int32) (h : a ≠ b) : s2 (s2 (s2 (s2 σ k a v) k b w) k a (σ k a)) k b (σ k b) = σ := ext2 fun x y => by
  simp only [s2_at]
  by_cases h1 : x = k ∧ y = b
  · rw [if_pos h1, h1.1, h1.2]
  · by_cases h2 : x = k ∧ y = a
    · rw [if_neg h1, if_pos h2, h2.1, h2.2]
    · rw [if_neg h1, if_neg h2, if_neg h1, if_neg h2]
def mPby (f : Nat → Int32) (c i : Nat) (v : Int32) : Int32 := mPri (rowP f i (f 0).toNatClampNeg v) c ((f 0).toNatClampNeg + 1)
def mWer (f : Nat → Int32) (q x v : Int32) : Int32 := if mIn q 0 (f 494 - 1) = true then (if mIn x 0 (f 1 - 1) = true then (if mIn v 1 999 = true then mPby f q.toNatClampNeg x.toNatClampNeg v else -1) else -1) else -1
def mRsF (P : Int32 → Bool) : Nat → Nat → Int32
  | 0, _ => -2
  | n + 1, v => if P (nI v) = true then nI v else mRsF P n (v + 1)
def mRsP (f : Nat → Int32) (c i : Nat) (v : Int32) : Bool := if mPby f c i v ≤ f (495 + 19 * c + 0) then false else true
def mRis (f : Nat → Int32) (q x : Int32) : Int32 := if mIn q 0 (f 494 - 1) = true then (if mIn x 0 (f 1 - 1) = true then mRsF (mRsP f q.toNatClampNeg x.toNatClampNeg) 999 1 else -1) else -1
theorem m999 {v : Int32} (h : mIn v 1 999 = true) : rg v 1 999 := mIn_t h
