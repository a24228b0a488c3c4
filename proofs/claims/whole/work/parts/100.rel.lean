/-! ===== class and reference: the row that both hold ===== -/
def zIx (σ : MI) (b i : Nat) (f : Nat → Int32) : Prop :=
  (∀ m, m < 36 → σ (49 + 57 * b + 6 * i) m = f (218 + 36 * i + m) ∧ (f (218 + 36 * i + m) ≠ 0 → σ (48 + 57 * b + 6 * i) m = f (2 + 36 * i + m))) ∧
  σ (47 + 57 * b + 6 * i) 5 = f (434 + 10 * i) ∧
  ∀ k : Nat, (k : Int) < (f (434 + 10 * i)).toInt → σ (50 + 57 * b + 6 * i) k = f (434 + 10 * i + 1 + 3 * k + 0) ∧ σ (51 + 57 * b + 6 * i) k = f (434 + 10 * i + 1 + 3 * k + 1) ∧ σ (52 + 57 * b + 6 * i) k = f (434 + 10 * i + 1 + 3 * k + 2)
def zCo (σ : MI) (b c : Nat) (f : Nat → Int32) : Prop :=
  (∀ j, j < 7 → σ (83 + 57 * b + 3 * c) j = f (495 + 19 * c + j)) ∧
  ∀ k : Nat, (k : Int) < (f (495 + 19 * c + 6)).toInt → σ (84 + 57 * b + 3 * c) k = f (495 + 19 * c + (7 + 2 * k)) ∧ σ (85 + 57 * b + 3 * c) k = f (495 + 19 * c + (8 + 2 * k))
def zDe (σ : MI) (τ : ML) (d : Nat) (f : Nat → Int32) : Prop :=
  (∀ j, j < 6 → σ (14 + d) j = f (610 + 9 * d + j)) ∧ σ (14 + d) 6 = f (610 + 9 * d + 7) ∧ τ (14 + d) 7 = (f (610 + 9 * d + 8)).toInt64
def zBk (σ : MI) (b : Nat) (f : Nat → Int32) : Prop :=
  σ (44 + 57 * b) 0 = f 0 ∧ σ (44 + 57 * b) 1 = f 1 ∧ σ (44 + 57 * b) 2 = f 494 ∧ (∀ i : Nat, (i : Int) < (f 1).toInt → zIx σ b i f) ∧ ∀ c : Nat, (c : Int) < (f 494).toInt → zCo σ b c f
def zLe (σ : MI) (τ : ML) (f : Nat → Int32) : Prop := σ 12 1 = f 609 ∧ ∀ d : Nat, (d : Int) < (f 609).toInt → zDe σ τ d f
/-- what more holds of a row's deliveries -/
def zDX (f : Nat → Int32) (d : Nat) : Prop := f (610 + 9 * d + 6) = (if f (610 + 9 * d + 7) = -1 then 0 else 1) ∧ (f (610 + 9 * d + 7)).toInt < (f 0).toInt ∧ (f (610 + 9 * d + 7) = -1 → f (610 + 9 * d + 8) = 0)
def zX (f : Nat → Int32) : Prop := RI f ∧ ∀ d : Nat, (d : Int) < (f 609).toInt → zDX f d
def zR (σ : MI) (τ : ML) (b : Nat) (f : Nat → Int32) : Prop := zBk σ b f ∧ zLe σ τ f ∧ zX f
theorem zBk.ix {σ : MI} {b : Nat} {f : Nat → Int32} (h : zBk σ b f) {i : Nat} (hi : (i : Int) < (f 1).toInt) : zIx σ b i f := h.2.2.2.1 i hi
theorem zBk.co {σ : MI} {b : Nat} {f : Nat → Int32} (h : zBk σ b f) {c : Nat} (hc : (c : Int) < (f 494).toInt) : zCo σ b c f := h.2.2.2.2 c hc
theorem zLe.de {σ : MI} {τ : ML} {f : Nat → Int32} (h : zLe σ τ f) {d : Nat} (hd : (d : Int) < (f 609).toInt) : zDe σ τ d f := h.2 d hd
theorem z0 : (0 : Int32).toInt = 0 := rfl
theorem z1 : (1 : Int32).toInt = 1 := rfl
theorem inC_mIn {x n M : Int32} (hn : 0 ≤ n.toInt) (hM : n.toInt ≤ M.toInt) : inC x n M = mIn x 0 (n - 1) := by
  have h1 := sub1 hn
  have e0 := z0
  cases h : inC x n M
  · cases h2 : mIn x 0 (n - 1)
    · rfl
    · have a := inC_f h
      have b := mIn_t h2
      rw [h1] at b
      omega
  · cases h2 : mIn x 0 (n - 1)
    · have a := inC_t h
      have b := mIn_f h2
      rw [h1] at b
      omega
    · rfl
theorem zinI {f : Nat → Int32} (hR : RI f) (x : Int32) : inC x (f 1) 6 = mIn x 0 (f 1 - 1) := inC_mIn hR.2.1.1 hR.2.1.2
theorem zinC {f : Nat → Int32} (hR : RI f) (x : Int32) : inC x (f 494) 6 = mIn x 0 (f 494 - 1) := inC_mIn hR.2.2.1.1 hR.2.2.1.2
theorem zinD {f : Nat → Int32} (hR : RI f) (x : Int32) : inC x (f 609) 30 = mIn x 0 (f 609 - 1) := inC_mIn hR.2.2.2.1.1 hR.2.2.2.1.2
theorem isMon_mIn (m : Int32) : isMon m = mIn m 0 35 := by
  have e : (36 : Int32) ≤ m ↔ (35 : Int32) < m := by
    rw [i_le, i_lt]
    have e1 : (36 : Int32).toInt = 36 := rfl
    have e2 : (35 : Int32).toInt = 35 := rfl
    omega
  unfold isMon mIn
  simp only [e]
theorem isVal_mIn (v : Int32) : isVal v = mIn v 1 999 := rfl
theorem isPast_mIn (n m : Int32) : isPastS n m = mIn m 0 n := rfl
theorem isPric_mIn (n a m : Int32) : isPricS n a m = mIn m a n := rfl
theorem le_range (w : Int32) (M : Int32) : (if w < 0 then false else if w ≤ M then true else false) = mIn w 0 M := by
  unfold mIn
  by_cases h1 : w < 0
  · rw [if_pos h1, if_pos h1]
  · rw [if_neg h1, if_neg h1]
    by_cases h2 : w ≤ M
    · rw [if_pos h2, if_neg (by rw [i_lt]; rw [i_le] at h2; omega)]
    · rw [if_neg h2, if_pos (by rw [i_lt]; rw [i_le] at h2; omega)]
theorem kmin_eq {x : Int32} {M : Nat} (h : x.toInt ≤ M) : kmin x M = x.toNatClampNeg := by
  have := clampI x
  unfold kmin
  omega
/-! kinds, values, what is known -/
theorem z_kind {σ : MI} {b i : Nat} {f : Nat → Int32} (h : zIx σ b i f) {m : Int32} (hm : mIn m 0 35 = true) : kindS (σ (49 + 57 * b + 6 * i)) m = f (218 + 36 * i + m.toNatClampNeg) := by
  unfold kindS
  rw [isMon_mIn, if_pos hm, (h.1 _ (clampN (mMx hm))).1]
theorem z_val {σ : MI} {b i : Nat} {f : Nat → Int32} (h : zIx σ b i f) {m : Int32} (hm : mIn m 0 35 = true) : valS (σ (48 + 57 * b + 6 * i)) (σ (49 + 57 * b + 6 * i)) m = if f (218 + 36 * i + m.toNatClampNeg) = 0 then -1 else f (2 + 36 * i + m.toNatClampNeg) := by
  have q := h.1 _ (clampN (mMx hm))
  unfold valS
  rw [isMon_mIn, if_pos hm, q.1]
  by_cases e : f (218 + 36 * i + m.toNatClampNeg) = 0
  · rw [if_pos e, if_pos e]
  · rw [if_neg e, if_neg e, q.2 e]
theorem z_known {σ : MI} {b i : Nat} {f : Nat → Int32} (h : zIx σ b i f) (m : Int32) : knowS (σ (49 + 57 * b + 6 * i)) m = mKn f i (cntM m) := by
  unfold knowS mKn
  have := cntM_le m
  exact kn_cong _ (fun j hj => (h.1 j (by omega)).1)
theorem cntM_in {m : Int32} (h : mIn m 0 35 = true) : cntM m = m.toNatClampNeg + 1 := by
  have h1 := mIn_t h
  have e1 : (35 : Int32).toInt = 35 := rfl
  have := clampI m
  have e0 := z0
  unfold cntM
  rw [if_neg (by omega), if_neg (by omega)]
  omega
theorem z_late {σ : MI} {b i : Nat} {f : Nat → Int32} (hR : RI f) (hi : i < 6) (h : zIx σ b i f) : lateS (σ (47 + 57 * b + 6 * i) 5) (σ (50 + 57 * b + 6 * i)) = mLate f i := by
  have hb := hR.base hi
  unfold rg at hb
  unfold lateS mLate
  rw [h.2.1]
  have e3 : (3 : Int32).toInt = 3 := rfl
  by_cases e : f (434 + 10 * i) = 0
  · have : inC (f (434 + 10 * i) - 1) (f (434 + 10 * i)) 3 = false := by rw [e]; decide
    rw [if_pos e, this]; rfl
  · have hn : (f (434 + 10 * i)).toInt ≠ 0 := fun q => e ((i_eq _ _).mpr q)
    have s1 := sub1 hb.1
    have hc := clampI (f (434 + 10 * i) - 1)
    have : inC (f (434 + 10 * i) - 1) (f (434 + 10 * i)) 3 = true := by
      cases q : inC (f (434 + 10 * i) - 1) (f (434 + 10 * i)) 3
      · have := inC_f q
        omega
      · rfl
    rw [if_neg e, if_pos this, (h.2.2 _ (by omega)).1]
theorem z_isSet {f : Nat → Int32} {d : Nat} (h : zDX f d) : (f (610 + 9 * d + 6) = 1 ↔ isSet (f (610 + 9 * d + 7)) = true) ∧ (f (610 + 9 * d + 6) = 0 ↔ isSet (f (610 + 9 * d + 7)) = false) := by
  rw [h.1]
  unfold isSet
  by_cases e : f (610 + 9 * d + 7) = -1
  · rw [if_pos e, if_pos e]; exact ⟨⟨fun q => absurd q (by decide), fun q => by cases q⟩, ⟨fun _ => rfl, fun _ => rfl⟩⟩
  · rw [if_neg e, if_neg e]; exact ⟨⟨fun _ => rfl, fun _ => rfl⟩, ⟨fun q => absurd q (by decide), fun q => by cases q⟩⟩
