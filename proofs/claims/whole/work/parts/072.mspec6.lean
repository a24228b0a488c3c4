/-! ===== the reference: tokens ===== -/
def skp (f : Nat → Int32) : Nat → Nat → Nat
  | 0, t => t
  | r + 1, t => if f t = 32 then skp f r (t + 1) else if f t = 10 then skp f r (t + 1) else t
theorem skp_le (f : Nat → Int32) : ∀ r t, t ≤ skp f r t ∧ skp f r t ≤ t + r
  | 0, t => ⟨Nat.le_refl t, Nat.le_refl t⟩
  | r + 1, t => by
    have ih := skp_le f r (t + 1)
    rw [skp]
    split
    · omega
    · split <;> omega
def tkG (g le : Bool) (x : Int32) : Bool := if g = true then (if b2i (mLet x) = b2i le then true else false) else false
def tkC (σ : MI) (t : Nat) : Bool := if mLet (mTape σ (nI t)) = true then true else mDig (mTape σ (nI t))
def tkL (σ : MI) (fr : Nat) (le : Bool) : Nat → Nat → Bool → Int64 → Int32 → Nat × Bool × Int64 × Int32
  | 0, t, g, w, u => (t, g, w, u)
  | r + 1, t, g, w, u => if tkC σ t = true then tkL σ fr le r (t + 1) (tkG g le (σ 1 t)) (if 8 ≤ nI t - nI fr then w else 27 * w + (σ 1 t).toInt64 - 96) (if 4 ≤ nI t - nI fr then u else 10 * u + σ 1 t - 48) else (t, g, w, u)
theorem mTape_cong {ρ σ : MI} (p : Int32) (h3 : ρ 0 3 = σ 0 3) (h1 : ρ 1 = σ 1) : mTape ρ p = mTape σ p := by unfold mTape; rw [h3, h1]
theorem tkC_lt {σ : MI} {N t : Nat} (h3 : σ 0 3 = nI N) (hN : N ≤ 740) (ht : t ≤ N) (h : tkC σ t = true) : t < N := by
  rcases (by omega : t < N ∨ t = N) with q | q
  · exact q
  · subst q
    have e : mTape σ (nI t) = 0 := by unfold mTape; rw [h3, if_pos (by rw [i_le]; exact Int.le_refl _)]
    unfold tkC at h
    rw [e] at h
    exact absurd h (by decide)
def tkS (fr : Nat) (le : Bool) (z : Nat × Bool × Int64 × Int32) : Int32 := if z.2.1 = true then (if le = true then (if nI z.1 - nI fr ≤ 8 then 2 else 1) else (if nI z.1 - nI fr ≤ 4 then 3 else 1)) else 1
def gT (σ : MI) : Nat := skp (σ 1) ((σ 0 3).toNatClampNeg - (σ 0 4).toNatClampNeg) (σ 0 4).toNatClampNeg
def gO (σ : MI) : MI := s2 (s2 σ 0 4 (nI (gT σ))) 0 5 (nI (gT σ))
def gC (σ : MI) : Int32 := σ 1 (gT σ)
def gK (σ : MI) : Nat × Bool × Int64 × Int32 := tkL σ (gT σ) (mLet (gC σ)) ((σ 0 3).toNatClampNeg - gT σ + 1) (gT σ) true 0 0
def gS (c : Int32) : Int32 := if c = 59 then 4 else if c = 61 then 4 else if c = 43 then 4 else 1
def gX (σ : MI) : Bool := if σ 0 3 ≤ 700 then (if nI (gT σ) < σ 0 3 then (if mLet (gC σ) = true then true else mDig (gC σ)) else false) else if nI (gT σ) < 700 then (if nI (gT σ) < σ 0 3 then (if mLet (gC σ) = true then true else mDig (gC σ)) else false) else false
def gB (σ : MI) : MI := if nI (gT σ) < σ 0 3 then (if (if mLet (gC σ) = true then true else mDig (gC σ)) = true then s2 (s2 (s2 (gO σ) 0 7 (gK σ).2.2.2) 0 4 (nI (gK σ).1)) 0 6 (tkS (gT σ) (mLet (gC σ)) (gK σ)) else s2 (s2 (s2 (gO σ) 0 6 (gS (gC σ))) 0 8 (gC σ)) 0 4 (nI (gT σ) + 1)) else s2 (gO σ) 0 6 0
def goM (σ : MI) : MI := if σ 0 3 ≤ 700 then gB σ else if nI (gT σ) < 700 then gB σ else s2 (s2 (gO σ) 0 5 700) 0 6 1
def goT (σ : MI) (τ : ML) : ML := if gX σ = true then s2L τ 0 11 (gK σ).2.2.1 else τ
/-- the tape's place is sound -/
def TI (σ : MI) : Prop := ∃ n t : Nat, σ 0 3 = nI n ∧ n ≤ 740 ∧ σ 0 4 = nI t ∧ t ≤ n ∧ (σ 0 6 = 3 → 0 ≤ (σ 0 7).toInt)
theorem gw74 (ρ : MI) (a b c d : Int32) : s2 (s2 (s2 (s2 ρ 0 7 a) 0 4 b) 0 7 c) 0 4 d = s2 (s2 ρ 0 7 c) 0 4 d := ext2 fun k j => by
  simp only [s2_at]
  by_cases h : k = 0 ∧ j = 4
  · simp only [if_pos h]
  · simp only [if_neg h]
    by_cases h7 : k = 0 ∧ j = 7
    · simp only [if_pos h7]
    · simp only [if_neg h7]
theorem gw74z (ρ : MI) (a : Int32) {b : Int32} (h4 : ρ 0 4 = b) : s2 ρ 0 7 a = s2 (s2 ρ 0 7 a) 0 4 b := by
  rw [show b = s2 ρ 0 7 a 0 4 by rw [s2_nj _ _ _ (by decide), h4], s2_self]
theorem s2L_s2L (τ : ML) (k j : Nat) (v w : Int64) : s2L (s2L τ k j v) k j w = s2L τ k j w := by
  funext a b
  simp only [s2L, va_up, upd]
  by_cases h : a = k
  · subst h
    by_cases h2 : b = j
    · simp [h2, vp_updL]
    · simp [h2, vp_updL]
  · simp [h]
