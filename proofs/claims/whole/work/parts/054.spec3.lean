/-! ===== rises: what is put for the time of the reckoning is put back ===== -/
theorem ext2 {σ σ' : MI} (h : ∀ k j, σ k j = σ' k j) : σ = σ' := funext fun k => funext fun j => h k j
theorem s2_s2 (σ : MI) (k j : Nat) (v w : Int32) : s2 (s2 σ k j v) k j w = s2 σ k j w := ext2 fun a b => by
  simp only [s2_at]
  split <;> rfl
theorem s2_self (σ : MI) (k j : Nat) : s2 σ k j (σ k j) = σ := ext2 fun a b => by
  simp only [s2_at]
  split
  · rename_i h; rw [h.1, h.2]
  · rfl
theorem pwB_eq (σ : MI) (b i : Nat) (v : Int32) : pwB σ b i v = if isMon (σ (44 + 57 * b) 0) = true then s2 σ (48 + 57 * b + 6 * i) (σ (44 + 57 * b) 0).toNatClampNeg (valS (σ (48 + 57 * b + 6 * i)) (σ (49 + 57 * b + 6 * i)) (σ (44 + 57 * b) 0)) else σ := by
  unfold pwB pwM putS
  by_cases h : isMon (σ (44 + 57 * b) 0) = true
  · simp only [h, ↓reduceIte]
    apply ext2
    intro k j
    simp only [s2_at, kindS, h, ↓reduceIte]
    by_cases h1 : k = 49 + 57 * b + 6 * i ∧ j = (σ (44 + 57 * b) 0).toNatClampNeg
    · rw [if_pos h1, if_neg (by omega), h1.1, h1.2]
    · rw [if_neg h1]
      by_cases h2 : k = 48 + 57 * b + 6 * i ∧ j = (σ (44 + 57 * b) 0).toNatClampNeg
      · rw [if_pos h2, if_pos h2]
      · rw [if_neg h2, if_neg h2, if_neg h1, if_neg h2]
  · simp only [h, ↓reduceIte, Bool.false_eq_true]
theorem pwB_pwB (σ : MI) (b i : Nat) (v w : Int32) : pwB (pwB σ b i v) b i w = pwB σ b i v := by
  have hn : pwB σ b i v (44 + 57 * b) = σ (44 + 57 * b) := pwB_ne σ v (by omega) (by omega)
  rw [pwB_eq (pwB σ b i v), hn]
  by_cases h : isMon (σ (44 + 57 * b) 0) = true
  · rw [if_pos h]
    have e : pwB σ b i v = s2 σ (48 + 57 * b + 6 * i) (σ (44 + 57 * b) 0).toNatClampNeg (valS (σ (48 + 57 * b + 6 * i)) (σ (49 + 57 * b + 6 * i)) (σ (44 + 57 * b) 0)) := by rw [pwB_eq, if_pos h]
    rw [e, s2_s2]
    congr 1
    generalize hv : valS (σ (48 + 57 * b + 6 * i)) (σ (49 + 57 * b + 6 * i)) (σ (44 + 57 * b) 0) = val
    have hv' := hv
    unfold valS at hv'
    rw [if_pos h] at hv'
    rw [s2_nk _ _ _ (show 49 + 57 * b + 6 * i ≠ 48 + 57 * b + 6 * i by omega)]
    unfold valS
    rw [if_pos h, s2_eq]
    by_cases hz : σ (49 + 57 * b + 6 * i) (σ (44 + 57 * b) 0).toNatClampNeg = 0
    · rw [if_pos hz]
      rw [if_pos hz] at hv'
      exact hv'
    · rw [if_neg hz]
  · rw [if_neg h]
theorem pwM_pwB (σ : MI) (b i : Nat) (v w : Int32) : pwM (pwB σ b i v) b i w = pwM σ b i w := by
  have hn : pwB σ b i v (44 + 57 * b) = σ (44 + 57 * b) := pwB_ne σ v (by omega) (by omega)
  unfold pwM
  rw [hn, pwB_eq]
  unfold putS
  by_cases h : isMon (σ (44 + 57 * b) 0) = true
  · simp only [h, ↓reduceIte, s2_s2]
  · simp only [h, ↓reduceIte, Bool.false_eq_true]
theorem pwR_pwB (σ : MI) (b q i : Nat) (v w : Int32) : pwR (pwB σ b i v) b q i w = pwR σ b q i w := by
  have hn : pwB σ b i v (44 + 57 * b) = σ (44 + 57 * b) := pwB_ne σ v (by omega) (by omega)
  rw [pwR, pwM_pwB, hn, pwR]
/-! ===== the tape ===== -/
def shf : Nat → Int32
  | 0 => 24
  | 1 => 16
  | 2 => 8
  | 3 => 0
  | _ => -8
theorem shf_dec : ∀ k, k ≤ 3 → shf k + (-8) = shf (k + 1) := by
  intro k hk
  rcases (by omega : k = 0 ∨ k = 1 ∨ k = 2 ∨ k = 3) with rfl | rfl | rfl | rfl <;> decide
def apS (σ : MI) (x : Int32) : Nat → MI
  | 0 => σ
  | k + 1 => if apS σ x k 2 1 < 0 then apS σ x k else if 740 ≤ apS σ x k 2 1 then apS σ x k else s2 (s2 (apS σ x k) 3 (apS σ x k 2 1).toNatClampNeg (x >>> (shf k &&& 31)).toInt8.toInt32.toInt8.toInt32) 2 1 (apS σ x k 2 1 + 1)
theorem apS_ne (σ : MI) (x : Int32) {k : Nat} (h2 : k ≠ 2) (h3 : k ≠ 3) : ∀ n, apS σ x n k = σ k
  | 0 => rfl
  | n + 1 => by
    rw [apS]
    split
    · exact apS_ne σ x h2 h3 n
    · split
      · exact apS_ne σ x h2 h3 n
      · rw [s2_nk _ _ _ h2, s2_nk _ _ _ h3, apS_ne σ x h2 h3 n]
def btS (f : Nat → Int32) (len p : Int32) : Int32 := if inC p len 740 = true then f p.toNatClampNeg else 0
theorem inC_in740 {x n : Int32} (h : inC x n 740 = true) : vp_in x 740 := by
  rw [vp_in_iff]
  have h1 := inC_t h
  have e : (740 : Int32).toInt = 740 := rfl
  omega
def isBl (c : Int32) : Bool := if c = 32 then true else if c = 10 then true else false
/-- where the blanks end, at most n on -/
def skS (f : Nat → Int32) (len : Int32) : Nat → Int32 → Int32
  | 0, s => s
  | n + 1, s => if len ≤ s then s else if isBl (btS f len s) = true then skS f len n (s + 1) else s
def meaT (s : Int32) : Nat := if s.toInt < 0 then 0 else if 740 ≤ s.toInt then 0 else 740 - s.toInt.toNat
/-- the letters and digits from a place on: (letters, digits, number) -/
def lnS (f : Nat → Int32) (len : Int32) : Nat → Int32 → Int32 → Int32 → Int32 → Int32 × Int32 × Int32
  | 0, _, a, d, u => (a, d, u)
  | n + 1, s, a, d, u => if len ≤ s then (a, d, u) else
    if btS f len s < 97 then (if btS f len s < 48 then (a, d, u) else if 57 < btS f len s then (a, d, u) else lnS f len n (s + 1) a (d + 1) (u * 10 + btS f len s - 48))
    else if 122 < btS f len s then (if btS f len s < 48 then (a, d, u) else if 57 < btS f len s then (a, d, u) else lnS f len n (s + 1) a (d + 1) (u * 10 + btS f len s - 48))
    else lnS f len n (s + 1) (a + 1) d u
def isSg (c : Int32) : Bool := if c = 59 then true else if c = 61 then true else if c = 43 then true else false
def wdB (a d : Int32) : Bool := if d = 0 then (if a < 1 then false else if 8 < a then false else true) else false
def nmB (a d : Int32) : Bool := if a = 0 then (if d < 1 then false else if 4 < d then false else true) else false
def kdS (a d : Int32) : Int32 := if wdB a d = true then 1 else if nmB a d = true then 2 else 0
def mxS (x y : Int32) : Int32 := if x < y then y else x
/-- the token at σ's start is cut -/
def cuS (σ : MI) : MI := if isSg (btS (σ 3) (σ 2 1) (σ 2 2)) = true then s2 (s2 σ 2 3 (σ 2 2 + 1)) 2 4 3 else
  s2 (s2 (s2 (s2 σ 2 3 (σ 2 2 + 1)) 2 5 (lnS (σ 3) (σ 2 1) 741 (σ 2 2) 0 0 0).2.2) 2 3 (mxS (σ 2 2 + 1) (σ 2 2 + (lnS (σ 3) (σ 2 1) 741 (σ 2 2) 0 0 0).1 + (lnS (σ 3) (σ 2 1) 741 (σ 2 2) 0 0 0).2.1))) 2 4 (kdS (lnS (σ 3) (σ 2 1) 741 (σ 2 2) 0 0 0).1 (lnS (σ 3) (σ 2 1) 741 (σ 2 2) 0 0 0).2.1)
/-- the next token -/
def adT (σ : MI) : MI := s2 σ 2 2 (skS (σ 3) (σ 2 1) 741 (σ 2 3))
def adS (σ : MI) : MI := if adT σ 2 2 < 700 then (if adT σ 2 2 < σ 2 1 then cuS (adT σ) else s2 (adT σ) 2 4 4) else if σ 2 1 ≤ 700 then (if adT σ 2 2 < σ 2 1 then cuS (adT σ) else s2 (adT σ) 2 4 4) else s2 (s2 (adT σ) 2 2 700) 2 4 0
theorem bt_in {f : Nat → Int32} {len p : Int32} (h : ¬ btS f len p = 0) : inC p len 740 = true := by
  cases hq : inC p len 740
  · exact absurd (by simp only [btS, hq, Bool.false_eq_true, ↓reduceIte]) h
  · rfl
theorem mea_le (s : Int32) : meaT s ≤ 740 := by unfold meaT; split <;> (try split) <;> omega
theorem mea_lt {s len : Int32} (h : inC s len 740 = true) : meaT (s + 1) < meaT s := by
  have h1 := inC_t h
  have e : (740 : Int32).toInt = 740 := rfl
  have e1 : (1 : Int32).toInt = 1 := rfl
  have h2 : (s + 1).toInt = s.toInt + 1 := by rw [fb_addI (by omega) (by omega)]; omega
  unfold meaT
  rw [h2]
  have a1 : ¬ s.toInt + 1 < 0 := by omega
  have a2 : ¬ s.toInt < 0 := by omega
  have a3 : ¬ 740 ≤ s.toInt := by omega
  simp only [a1, a2, a3, ↓reduceIte]
  split <;> omega
theorem mea_bl {f : Nat → Int32} {len s : Int32} (h : isBl (btS f len s) = true) : meaT (s + 1) < meaT s := mea_lt (len := len) (bt_in (f := f) (fun q => by rw [q] at h; exact absurd h (by decide)))
theorem mea_lo {f : Nat → Int32} {len s : Int32} {n : Int32} (hn : 0 < n.toInt) (h : ¬ btS f len s < n) : meaT (s + 1) < meaT s := mea_lt (len := len) (bt_in (f := f) (fun q => by
  rw [q, i_lt] at h
  have e : (0 : Int32).toInt = 0 := rfl
  omega))
def allS (P : Nat → Bool) (n : Nat) : Bool := (List.range n).all P
theorem allS_t {P : Nat → Bool} {n : Nat} (h : ∀ k, k < n → P k = true) : allS P n = true := by
  simp only [allS, List.all_eq_true, List.mem_range]
  exact h
theorem allS_f {P : Nat → Bool} {n k : Nat} (hk : k < n) (h : P k = false) : allS P n = false := by
  rw [Bool.eq_false_iff]
  intro q
  simp only [allS, List.all_eq_true, List.mem_range] at q
  rw [q k hk] at h
  cases h
/-- the token is a word of this many letters, the same as those at a place -/
def samS (σ : MI) (pl sz : Int32) : Bool := if σ 2 4 = 1 then (if σ 2 3 - σ 2 2 = sz then allS (fun k => decide (btS (σ 3) (σ 2 1) (σ 2 2 + nI k) = btS (σ 3) (σ 2 1) (pl + nI k))) sz.toNatClampNeg else false) else false
def sigS (σ : MI) (c : Int32) : Bool := if σ 2 4 = 3 then (if btS (σ 3) (σ 2 1) (σ 2 2) = c then true else false) else false
def feR (σ : MI) (a b c d e : Int32) : Int32 := if σ 2 1 + 20 ≤ 740 then apS (apS (apS (apS (apS σ a 4) b 4) c 4) d 4) e 4 2 1 else -1
def feM (σ : MI) (a b c d e : Int32) : MI := if σ 2 1 + 20 ≤ 740 then apS (apS (apS (apS (apS σ a 4) b 4) c 4) d 4) e 4 else σ
theorem rs_t {σ : MI} {b q i : Nat} {v : Int32} (h : ¬ pwR σ b q i v ≤ σ (83 + 57 * b + 3 * q) 0) : rsP σ b q i v = true := by simp only [rsP, h, ↓reduceIte]
theorem rs_f {σ : MI} {b q i : Nat} {v : Int32} (h : pwR σ b q i v ≤ σ (83 + 57 * b + 3 * q) 0) : rsP σ b q i v = false := by simp only [rsP, h, ↓reduceIte]
theorem lt_nle {a b : Int32} (h : a < b) : ¬ b ≤ a := by rw [i_lt] at h; rw [i_le]; omega
theorem nlt_le {a b : Int32} (h : ¬ a < b) : b ≤ a := by rw [i_lt] at h; rw [i_le]; omega
section STK
variable {p : Program} {l : Launch} {e : Env} {R : Room} {s : State} {m : MethodId} {args : Array Value} {below : List Frame} {meth : Method} {c : Code} {H : Heap} {locs : List Loc} {cells slots : Nat} {Q : State → Prop} {pc : Nat} {ls : Array Slot} {rest : List Value}
theorem stk_i {v w : Int32} (h : w = v) (k : W p l e R s m args below meth c H locs cells slots Q (F0 m pc ls (.int v :: rest))) : W p l e R s m args below meth c H locs cells slots Q (F0 m pc ls (.int w :: rest)) := h ▸ k
theorem stk_l {v w : Int64} (h : w = v) (k : W p l e R s m args below meth c H locs cells slots Q (F0 m pc ls (.long v :: rest))) : W p l e R s m args below meth c H locs cells slots Q (F0 m pc ls (.long w :: rest)) := h ▸ k
end STK
