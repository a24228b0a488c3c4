/-! ===== calls that only tell: both answer alike ===== -/
theorem swt_t {w : Int32} {n : Nat} (h1 : 0 ≤ w.toInt) (h2 : w.toInt < n) : swt w n = w.toNatClampNeg := by
  unfold swt
  rw [if_neg (by omega)]
  have := clampI w
  omega
theorem mIn_of {v a b : Int32} (h1 : a.toInt ≤ v.toInt) (h2 : v.toInt ≤ b.toInt) : mIn v a b = true := by
  cases q : mIn v a b
  · exact absurd ⟨h1, h2⟩ (mIn_f q)
  · rfl
theorem mIn_no {v a b : Int32} (h : ¬ (a.toInt ≤ v.toInt ∧ v.toInt ≤ b.toInt)) : mIn v a b = false := by
  cases q : mIn v a b
  · rfl
  · exact absurd (mIn_t q) h
theorem z_cnt {σ : MI} {τ : ML} {f : Nat → Int32} (hL : zLe σ τ f) (hX : zX f) : ∀ k : Nat, (k : Int) ≤ (f 609).toInt → cntS (fun d => σ (14 + d) 6) k = mSet f k
  | 0, _ => rfl
  | k + 1, hk => by
    have ih := z_cnt hL hX k (by omega)
    have hd := hL.de (d := k) (by omega)
    have hz := z_isSet (hX.2 k (by omega))
    rw [cntS, mSet, ih]
    simp only [hd.2.1]
    cases q : isSet (f (610 + 9 * k + 7))
    · rw [if_neg Bool.false_ne_true, hz.2.mpr q, Int32.add_zero]
    · rw [if_pos rfl, hz.1.mpr q]
theorem z_now {σ μ : MI} {τ : ML} {b : Nat} (hb : bz (σ 0 1) = b) (hr : zR σ τ b (μ 2)) (h6 : σ 6 6 = μ 0 16) (h2 : σ 2 1 = μ 0 2) (w : Int32) : nowS σ w = mNow μ w := by
  obtain ⟨hB, hL, hX⟩ := hr
  have h9 := hX.1.2.2.2.1
  unfold rg at h9
  have hc := clampI (μ 2 609)
  unfold nowS mNow
  rw [hb]
  generalize swt w 7 = q
  match q with
  | 0 => exact hB.1
  | 1 => exact hB.2.1
  | 2 => exact hB.2.2.1
  | 3 => exact hL.1
  | 4 =>
    show cntS (fun d => σ (14 + d) 6) (kmin (σ 12 1) 30) = mSet (μ 2) (μ 2 609).toNatClampNeg
    rw [hL.1, kmin_eq (by exact h9.2), z_cnt hL hX _ (by omega)]
  | 5 => exact h6
  | 6 => exact h2
  | n + 7 => rfl
theorem z_value {σ : MI} {τ : ML} {b : Nat} {f : Nat → Int32} (hb : bz (σ 0 1) = b) (hr : zR σ τ b f) (x m w : Int32) : valuS σ x m w = mVal f x m w := by
  obtain ⟨hB, hL, hX⟩ := hr
  unfold valuS mVal
  rw [hb, hB.2.1, zinI hX.1, isMon_mIn]
  cases hx : mIn x 0 (f 1 - 1)
  · rfl
  · cases hm : mIn m 0 35
    · rfl
    · rw [if_pos rfl, if_pos rfl, if_pos rfl, if_pos rfl]
      have hi := mIx hX.1 hx
      have hz := hB.ix hi.2
      have hk : knowS (σ (49 + 57 * b + 6 * x.toNatClampNeg)) m = mKn f x.toNatClampNeg (m.toNatClampNeg + 1) := by rw [z_known hz, cntM_in hm]
      generalize swt w 4 = q
      match q with
      | 0 => exact z_val hz hm
      | 1 => exact z_kind hz hm
      | 2 =>
        show valS (σ (48 + 57 * b + 6 * x.toNatClampNeg)) (σ (49 + 57 * b + 6 * x.toNatClampNeg)) (knowS (σ (49 + 57 * b + 6 * x.toNatClampNeg)) m) = if mKn f x.toNatClampNeg (m.toNatClampNeg + 1) = -1 then -1 else f (2 + 36 * x.toNatClampNeg + (mKn f x.toNatClampNeg (m.toNatClampNeg + 1)).toNatClampNeg)
        rw [hk]
        by_cases e : mKn f x.toNatClampNeg (m.toNatClampNeg + 1) = -1
        · rw [if_pos e, e]; rfl
        · rw [if_neg e]
          have hm36 := clampN (mMx hm)
          obtain ⟨r, hr1, hr2, hr3⟩ : ∃ r, mKn f x.toNatClampNeg (m.toNatClampNeg + 1) = nI r ∧ r < 36 ∧ f (218 + 36 * x.toNatClampNeg + r) ≠ 0 := by
            have aux : ∀ n, n ≤ 36 → kn (fun j => f (218 + 36 * x.toNatClampNeg + j)) n ≠ -1 → ∃ r, kn (fun j => f (218 + 36 * x.toNatClampNeg + j)) n = nI r ∧ r < 36 ∧ f (218 + 36 * x.toNatClampNeg + r) ≠ 0 := by
              intro n
              induction n with
              | zero => intro _ h; exact absurd rfl h
              | succ n ih =>
                intro hn h
                rw [kn] at h ⊢
                by_cases e0 : f (218 + 36 * x.toNatClampNeg + n) = 0
                · rw [if_pos e0] at h ⊢; exact ih (by omega) h
                · rw [if_neg e0]; exact ⟨n, rfl, by omega, e0⟩
            exact aux _ (by omega) e
          rw [hr1]
          have hmr : mIn (nI r) 0 35 = true := mIn_of (by rw [nI_toInt (by omega), z0]; omega) (by rw [nI_toInt (by omega)]; have : (35 : Int32).toInt = 35 := rfl; omega)
          rw [z_val hz hmr, nI_clamp (by omega), if_neg hr3]
      | 3 => exact hk
      | n + 4 => rfl
theorem z_rebased {σ : MI} {τ : ML} {b : Nat} {f : Nat → Int32} (hb : bz (σ 0 1) = b) (hr : zR σ τ b f) (x k w : Int32) : rebdS σ x k w = mReb f x k w := by
  obtain ⟨hB, hL, hX⟩ := hr
  unfold rebdS mReb
  rw [hb, hB.2.1, zinI hX.1]
  cases hx : mIn x 0 (f 1 - 1)
  · rfl
  · have hi := mIx hX.1 hx
    have hz := hB.ix hi.2
    have hbs := hX.1.base (clampN hi.1)
    rw [if_pos rfl, if_pos rfl, hz.2.1, inC_mIn (M := 3) hbs.1 hbs.2]
    cases hk : mIn k 0 (f (434 + 10 * x.toNatClampNeg) - 1)
    · rfl
    · rw [if_pos rfl, if_pos rfl]
      have hk2 := (mBx (N := 3) hbs hk).2
      obtain ⟨r0, r1, r2⟩ := hz.2.2 _ hk2
      cases hw : mIn w 0 2
      · have := mIn_f hw
        have e2 : (2 : Int32).toInt = 2 := rfl
        rw [swt_out (by have := z0; omega)]; rfl
      · have h := mIn_t hw
        have e2 : (2 : Int32).toInt = 2 := rfl
        have e0 := z0
        have hc := clampI w
        rw [if_pos rfl, swt_t (by omega) (by omega)]
        rcases (by omega : w.toNatClampNeg = 0 ∨ w.toNatClampNeg = 1 ∨ w.toNatClampNeg = 2) with e | e | e <;> rw [e]
        · exact r0
        · exact r1
        · exact r2
theorem z_has {σ : MI} {b i : Nat} {f : Nat → Int32} (h : zIx σ b i f) (m : Int32) : hasS (σ (49 + 57 * b + 6 * i)) m = (if mIn m 0 35 = true then (if f (218 + 36 * i + m.toNatClampNeg) = 0 then false else true) else false) := by
  unfold hasS
  cases hm : mIn m 0 35
  · unfold kindS
    rw [isMon_mIn, hm]; rfl
  · rw [z_kind h hm, if_pos rfl]
theorem z_ratC {σ : MI} {τ : ML} {b : Nat} {f : Nat → Int32} (hb : bz (σ 0 1) = b) (hr : zR σ τ b f) (x a z : Int32) : raC σ x a z = mRtC f x a z := by
  obtain ⟨hB, hL, hX⟩ := hr
  unfold raC mRtC
  rw [hb, hB.2.1, zinI hX.1]
  cases hx : mIn x 0 (f 1 - 1)
  · rfl
  · have hi := mIx hX.1 hx
    have hz := hB.ix hi.2
    rw [if_pos rfl, if_pos rfl, z_has hz, z_has hz]
    cases ha : mIn a 0 35
    · by_cases q : z < a <;> simp [q]
    · cases hz : mIn z 0 35
      · by_cases q : z < a <;> simp [q]
      · by_cases q : z < a
        · simp [q]
        · simp only [q, ↓reduceIte]
          by_cases e1 : f (218 + 36 * x.toNatClampNeg + a.toNatClampNeg) = 0
          · simp [e1]
          · by_cases e2 : f (218 + 36 * x.toNatClampNeg + z.toNatClampNeg) = 0
            · simp [e1, e2]
            · simp [e1, e2]
theorem z_ratV {σ : MI} {τ : ML} {b : Nat} {f : Nat → Int32} (hb : bz (σ 0 1) = b) (hr : zR σ τ b f) {x a z : Int32} (h : mRtC f x a z = true) : raV σ x a z = mRat f x.toNatClampNeg a z := by
  obtain ⟨hB, hL, hX⟩ := hr
  unfold mRtC at h
  cases hx : mIn x 0 (f 1 - 1)
  · rw [hx] at h; simp at h
  · cases ha : mIn a 0 35
    · rw [hx, ha] at h; simp at h
    · cases hz : mIn z 0 35
      · rw [hx, ha, hz] at h; simp at h
      · rw [hx, ha, hz, if_pos rfl, if_pos rfl, if_pos rfl] at h
        by_cases q : z < a
        · rw [if_pos q] at h; cases h
        · rw [if_neg q] at h
          by_cases e1 : f (218 + 36 * x.toNatClampNeg + a.toNatClampNeg) = 0
          · rw [if_pos e1] at h; cases h
          · rw [if_neg e1] at h
            by_cases e2 : f (218 + 36 * x.toNatClampNeg + z.toNatClampNeg) = 0
            · rw [if_pos e2] at h; cases h
            · have hi := mIx hX.1 hx
              unfold raV
              rw [hb]
              exact z_ratio hX.1 (clampN hi.1) (hB.ix hi.2) ha hz e1 e2
theorem z_contract {σ : MI} {τ : ML} {b : Nat} {f : Nat → Int32} (hb : bz (σ 0 1) = b) (hr : zR σ τ b f) (x w : Int32) : contS σ x w = mCon f x w := by
  obtain ⟨hB, hL, hX⟩ := hr
  unfold contS mCon
  rw [hb, hB.2.2.1, zinC hX.1]
  cases hx : mIn x 0 (f 494 - 1)
  · rfl
  · have hi := mCx hX.1 hx
    have hz := hB.co hi.2
    have q := hX.1.con hi.2
    have h6 := q.2.2.2.2.2.2.1
    have h5 := q.2.2.2.2.2.1
    unfold rg at h6 h5
    rw [if_pos rfl, if_pos rfl]
    have e2 : (2 : Int32).toInt = 2 := rfl
    have e6 : (6 : Int32).toInt = 6 := rfl
    have e7 : (7 : Int32).toInt = 7 := rfl
    have e0 := z0
    have et : (6 + 2 * f (495 + 19 * x.toNatClampNeg + 6)).toInt = 6 + 2 * (f (495 + 19 * x.toNatClampNeg + 6)).toInt := by
      have : (2 * f (495 + 19 * x.toNatClampNeg + 6)).toInt = 2 * (f (495 + 19 * x.toNatClampNeg + 6)).toInt := by rw [fb_mulI (by rw [e2]; omega) (by rw [e2]; omega), e2]
      rw [fb_addI (by omega) (by omega), this, e6]
    have hc := clampI w
    by_cases hw : 0 ≤ w.toInt ∧ w.toInt < 7
    · rw [if_pos (mIn_of (by omega) (by omega)), swt_t hw.1 hw.2]
      rcases (by omega : w.toNatClampNeg = 0 ∨ w.toNatClampNeg = 1 ∨ w.toNatClampNeg = 2 ∨ w.toNatClampNeg = 3 ∨ w.toNatClampNeg = 4 ∨ w.toNatClampNeg = 5 ∨ w.toNatClampNeg = 6) with e | e | e | e | e | e | e <;> rw [e]
      · exact hz.1 0 (by omega)
      · exact hz.1 1 (by omega)
      · exact hz.1 2 (by omega)
      · exact hz.1 3 (by omega)
      · exact hz.1 4 (by omega)
      · show (if σ (83 + 57 * b + 3 * x.toNatClampNeg) 5 = 0 then (0 : Int32) else 1) = _
        rw [hz.1 5 (by omega)]
        by_cases e0 : f (495 + 19 * x.toNatClampNeg + 5) = 0
        · rw [if_pos e0, e0]
        · rw [if_neg e0, i_eq]
          have : (f (495 + 19 * x.toNatClampNeg + 5)).toInt ≠ 0 := fun w => e0 ((i_eq _ _).mpr w)
          have := z1
          omega
      · exact hz.1 6 (by omega)
    · rw [swt_out (by omega)]
      show termS (σ (84 + 57 * b + 3 * x.toNatClampNeg)) (σ (85 + 57 * b + 3 * x.toNatClampNeg)) (σ (83 + 57 * b + 3 * x.toNatClampNeg) 6) (w - 7) = _
      rw [hz.1 6 (by omega)]
      by_cases hw2 : 7 ≤ w.toInt
      · have ep : (w - 7).toInt = w.toInt - 7 := by have := fb_rng w; rw [fb_subI (by omega) (by omega), e7]
        obtain ⟨j, hj, ej⟩ := nI_of (x := w - 7) (by rw [i_lt]; omega)
        have ejn : (j : Int) = w.toInt - 7 := by rw [← ep, ej, nI_toInt hj]
        have ed : nI j / 2 = nI (j / 2) := pk_div (d := 2) hj (by decide) (by decide)
        rw [ej]
        unfold termS
        rw [if_neg (by rw [i_lt, nI_toInt hj, e0]; omega), ed]
        have et2 : (nI (j / 2)).toInt = ((j / 2 : Nat) : Int) := nI_toInt (by omega)
        by_cases hle : w.toInt ≤ 6 + 2 * (f (495 + 19 * x.toNatClampNeg + 6)).toInt
        · rw [if_pos (mIn_of (by omega) (by omega)), if_neg (by rw [i_le, et2]; omega), if_pos (by rw [i_lt, et2, e6]; omega), nI_clamp (by omega)]
          obtain ⟨c1, c2⟩ := hz.2 (j / 2) (by omega)
          have em : nI (j / 2) * 2 = nI (j / 2 * 2) := by rw [show (2 : Int32) = nI 2 from rfl, pk_mul]
          rw [em, nI_sub' (by omega) hj, c1, c2]
          by_cases hev : j - j / 2 * 2 = 0
          · rw [hev, nI_0, if_pos rfl]
            congr 1
            omega
          · rw [if_neg (by rw [i_eq, nI_toInt (by omega), e0]; omega)]
            congr 1
            omega
        · rw [mIn_no (by omega), if_neg Bool.false_ne_true, if_pos (by rw [i_le, et2]; omega)]
      · rw [mIn_no (by omega), if_neg Bool.false_ne_true]
        have hr := fb_rng w
        have hn : w.toInt < 0 := by omega
        unfold termS
        by_cases hp : w - 7 < 0
        · rw [if_pos hp]
        · rw [if_neg hp]
          obtain ⟨j, hj, ej⟩ := nI_of (x := w - 7) hp
          have ed : nI j / 2 = nI (j / 2) := pk_div (d := 2) hj (by decide) (by decide)
          have et2 : (nI (j / 2)).toInt = ((j / 2 : Nat) : Int) := nI_toInt (by omega)
          have eb : (w - 7).toInt = (w.toInt - 7).bmod (2 ^ 32) := by rw [Int32.toInt_sub, e7]
          rw [ej, nI_toInt hj] at eb
          rw [ej, ed, if_pos]
          rw [i_le, et2]
          have : (w.toInt - 7).bmod (2 ^ 32) = w.toInt - 7 ∨ (w.toInt - 7).bmod (2 ^ 32) = w.toInt - 7 + 4294967296 := by
            have := Int.bmod_def (w.toInt - 7) (2 ^ 32)
            omega
          omega
theorem z_delivery {σ : MI} {τ : ML} {b : Nat} {f : Nat → Int32} (hb : bz (σ 0 1) = b) (hr : zR σ τ b f) (x w : Int32) : deliS σ x w = mDel f x w := by
  obtain ⟨hB, hL, hX⟩ := hr
  unfold deliS mDel
  rw [hb, hL.1, zinD hX.1]
  cases hx : mIn x 0 (f 609 - 1)
  · rfl
  · have hi := mDx hX.1 hx
    have hz := hL.de hi.2
    have hq := hX.1.del hi.2
    have hs := z_isSet (hX.2 _ hi.2)
    rw [if_pos rfl, if_pos rfl]
    have e0 := z0
    have e8 : (8 : Int32).toInt = 8 := rfl
    have hc := clampI w
    by_cases hw : 0 ≤ w.toInt ∧ w.toInt < 9
    · rw [if_pos (mIn_of (by omega) (by omega)), swt_t hw.1 hw.2]
      by_cases h8 : w = 8
      · rw [if_pos h8, show w.toNatClampNeg = 8 by rw [h8]; rfl]
        show (if isSet (σ (14 + x.toNatClampNeg) 6) = true then (0 : Int32) else waS σ b (σ (14 + x.toNatClampNeg) 0) (σ (14 + x.toNatClampNeg) 4)) = _
        rw [hz.2.1, hz.1 0 (by omega), hz.1 4 (by omega)]
        cases hset : isSet (f (610 + 9 * x.toNatClampNeg + 7))
        · rw [if_neg Bool.false_ne_true, if_neg (by rw [hs.2.mpr hset]; decide)]
          have hbs := (hX.1.con (c := (f (610 + 9 * x.toNatClampNeg + 0)).toNatClampNeg) (by have := clampI (f (610 + 9 * x.toNatClampNeg + 0)); have := hq.1; have := hq.2.1; omega)).2.2.1
          have h35 : (35 : Int32).toInt = 35 := rfl
          have q3 := hq.2.2.1
          have q4 := hq.2.2.2.1
          unfold rg at hbs
          rw [z_waS hX.1 hB (mIn_of (by rw [e0]; exact hq.1) (by rw [sub1 hX.1.2.2.1.1]; have := hq.2.1; omega)) (mIn_of (by omega) (by omega))]
          rfl
        · rw [if_pos rfl, if_pos (hs.1.mpr hset)]
      · rw [if_neg h8]
        have hne : w.toInt ≠ 8 := fun q => h8 ((i_eq _ _).mpr q)
        rcases (by omega : w.toNatClampNeg = 0 ∨ w.toNatClampNeg = 1 ∨ w.toNatClampNeg = 2 ∨ w.toNatClampNeg = 3 ∨ w.toNatClampNeg = 4 ∨ w.toNatClampNeg = 5 ∨ w.toNatClampNeg = 6 ∨ w.toNatClampNeg = 7) with e | e | e | e | e | e | e | e <;> rw [e]
        · exact hz.1 0 (by omega)
        · exact hz.1 1 (by omega)
        · exact hz.1 2 (by omega)
        · exact hz.1 3 (by omega)
        · exact hz.1 4 (by omega)
        · exact hz.1 5 (by omega)
        · show (if isSet (σ (14 + x.toNatClampNeg) 6) = true then (1 : Int32) else 0) = _
          rw [hz.2.1]
          cases hset : isSet (f (610 + 9 * x.toNatClampNeg + 7))
          · rw [if_neg Bool.false_ne_true, hs.2.mpr hset]
          · rw [if_pos rfl, hs.1.mpr hset]
        · exact hz.2.1
    · rw [swt_out (by omega), mIn_no (by omega), if_neg Bool.false_ne_true]; rfl
theorem z_amC {σ : MI} {τ : ML} {f : Nat → Int32} (hL : zLe σ τ f) (hR : RI f) (x w : Int32) : amC σ x w = mAmC f x w := by
  unfold amC mAmC
  rw [hL.1, zinD hR, le_range]
  cases mIn x 0 (f 609 - 1)
  · rfl
  · cases mIn w 0 2 <;> rfl
theorem z_amV {σ : MI} {τ : ML} {f : Nat → Int32} (hL : zLe σ τ f) (hR : RI f) {x w : Int32} (h : mAmC f x w = true) : amV σ τ x w = mAmR f x w := by
  have hx : mIn x 0 (f 609 - 1) = true := by
    cases q : mIn x 0 (f 609 - 1)
    · unfold mAmC at h
      rw [q] at h; simp at h
    · rfl
  have hz := hL.de (mDx hR hx).2
  unfold amV mAmR amB mBil
  rw [if_pos h, hz.1 3 (by omega), hz.1 5 (by omega), hz.2.2]
theorem z_stC (σ : MI) (m w : Int32) : stC σ m w = mStC m w := by
  unfold stC mStC
  rw [isMon_mIn, le_range]
  cases mIn m 0 35
  · rfl
  · cases mIn w 0 3 <;> rfl
theorem z_stS {σ : MI} {τ : ML} {f : Nat → Int32} (hL : zLe σ τ f) (hX : zX f) {m w : Int32} (hm : 0 ≤ m.toInt) : ∀ k : Nat, (k : Int) ≤ (f 609).toInt →
    mStS f m w k = (if w = 1 then 0 else bilF σ (if w = 3 then 0 else m) m k) + (if w = 0 then 0 else truF σ τ (if w = 3 then 0 else m) m k)
  | 0, _ => by
    rw [mStS, bilF, truF]
    split <;> split <;> rfl
  | k + 1, hk => by
    have ih := z_stS (w := w) hL hX hm k (by omega)
    have hd := hL.de (d := k) (by omega)
    have hq := hX.1.del (d := k) (by omega)
    have hs := z_isSet (hX.2 k (by omega))
    have e0 := z0
    have hmo := hq.2.2.2.2.1
    have h7 := hq.2.2.2.2.2.2.2.2
    unfold rg at hmo h7
    have eB : bilF σ (if w = 3 then 0 else m) m (k + 1) = if mStW f m w k = true then bilF σ (if w = 3 then 0 else m) m k + mBil f k else bilF σ (if w = 3 then 0 else m) m k := by
      rw [bilF, hd.1 2 (by omega), hd.1 3 (by omega), hd.1 5 (by omega)]
      unfold mStW mBil
      by_cases h3 : w = 3
      · simp only [h3, ↓reduceIte]
        rw [if_neg (show ¬ f (610 + 9 * k + 2) < 0 by rw [i_lt]; omega)]
        by_cases q : m < f (610 + 9 * k + 2)
        · rw [if_pos q, if_pos q, if_neg Bool.false_ne_true]
        · rw [if_neg q, if_neg q, if_pos rfl]
      · simp only [h3, ↓reduceIte]
        by_cases q1 : f (610 + 9 * k + 2) = m
        · rw [if_pos q1, if_pos rfl, q1, if_neg (by rw [i_lt]; omega), if_neg (by rw [i_lt]; omega)]
        · rw [if_neg q1, if_neg Bool.false_ne_true]
          have : (f (610 + 9 * k + 2)).toInt ≠ m.toInt := fun w => q1 ((i_eq _ _).mpr w)
          by_cases q2 : f (610 + 9 * k + 2) < m
          · rw [if_pos q2]
          · rw [if_neg q2, if_pos (by rw [i_lt] at q2 ⊢; omega)]
    have eT : truF σ τ (if w = 3 then 0 else m) m (k + 1) = if mStE f m w k = true then truF σ τ (if w = 3 then 0 else m) m k + (f (610 + 9 * k + 8)).toInt64 else truF σ τ (if w = 3 then 0 else m) m k := by
      rw [truF, hd.2.1, hd.2.2]
      unfold mStE
      cases hset : isSet (f (610 + 9 * k + 7))
      · have e7 : f (610 + 9 * k + 7) = -1 := by
          unfold isSet at hset
          by_cases q : f (610 + 9 * k + 7) = -1
          · exact q
          · rw [if_neg q] at hset; cases hset
        have e71 : (f (610 + 9 * k + 7)).toInt = -1 := by rw [e7]; rfl
        rw [if_neg (show ¬ f (610 + 9 * k + 6) = 1 by rw [hs.2.mpr hset]; decide), if_neg Bool.false_ne_true]
        rw [if_pos]
        rw [i_lt, e71]
        by_cases h3 : w = 3
        · rw [if_pos h3, e0]; omega
        · rw [if_neg h3]; omega
      · have e7 : f (610 + 9 * k + 7) ≠ -1 := fun q => by rw [q] at hset; exact absurd hset (by decide)
        have e71 : (f (610 + 9 * k + 7)).toInt ≠ -1 := fun w => e7 ((i_eq _ _).mpr w)
        rw [if_pos (hs.1.mpr hset)]
        by_cases h3 : w = 3
        · simp only [h3, ↓reduceIte]
          rw [if_neg (show ¬ f (610 + 9 * k + 7) < 0 by rw [i_lt]; omega)]
          by_cases q : m < f (610 + 9 * k + 7)
          · rw [if_pos q, if_pos q, if_neg Bool.false_ne_true]
          · rw [if_neg q, if_neg q, if_pos rfl]
        · simp only [h3, ↓reduceIte]
          by_cases q1 : f (610 + 9 * k + 7) = m
          · rw [if_pos q1, if_pos rfl, q1, if_neg (by rw [i_lt]; omega), if_neg (by rw [i_lt]; omega)]
          · rw [if_neg q1, if_neg Bool.false_ne_true]
            have : (f (610 + 9 * k + 7)).toInt ≠ m.toInt := fun w => q1 ((i_eq _ _).mpr w)
            by_cases q2 : f (610 + 9 * k + 7) < m
            · rw [if_pos q2]
            · rw [if_neg q2, if_pos (by rw [i_lt] at q2 ⊢; omega)]
    rw [mStS, ih, eB, eT]
    unfold mSt2 mSt1
    generalize bilF σ (if w = 3 then 0 else m) m k = B
    generalize truF σ τ (if w = 3 then 0 else m) m k = T
    generalize mBil f k = x
    generalize (f (610 + 9 * k + 8)).toInt64 = y
    have c1 : ∀ a c d : Int64, a + c + d = a + d + c := fun a c d => by rw [Int64.add_assoc, Int64.add_comm c d, ← Int64.add_assoc]
    cases mStW f m w k <;> cases mStE f m w k
    · simp only [Bool.false_eq_true, ↓reduceIte]
    · simp only [Bool.false_eq_true, ↓reduceIte]
      by_cases w0 : w = 0
      · simp only [w0, ↓reduceIte]
      · simp only [w0, ↓reduceIte, Int64.add_assoc]
    · simp only [Bool.false_eq_true, ↓reduceIte]
      by_cases w1 : w = 1
      · simp only [w1, ↓reduceIte]
      · simp only [w1, ↓reduceIte]
        exact c1 _ _ _
    · simp only [↓reduceIte]
      by_cases w0 : w = 0
      · subst w0
        simp only [show ¬ (0 : Int32) = 1 by decide, ↓reduceIte]
        exact c1 _ _ _
      · by_cases w1 : w = 1
        · subst w1
          simp only [show ¬ (1 : Int32) = 0 by decide, ↓reduceIte, Int64.add_assoc]
        · simp only [w0, w1, ↓reduceIte]
          rw [← Int64.add_assoc, c1 B T x]
theorem z_stV {σ : MI} {τ : ML} {f : Nat → Int32} (hL : zLe σ τ f) (hX : zX f) {m w : Int32} (h : mStC m w = true) : stV σ τ m w = mStR f m w := by
  have h9 := hX.1.2.2.2.1
  unfold rg at h9
  have hc := clampI (f 609)
  have hm : mIn m 0 35 = true := by
    cases q : mIn m 0 35
    · unfold mStC at h; rw [q] at h; simp at h
    · rfl
  have hw : mIn w 0 3 = true := by
    cases q : mIn w 0 3
    · unfold mStC at h; rw [hm, q] at h; simp at h
    · rfl
  have hw := mIn_t hw
  have hm0 := (mIn_t hm).1
  have e0 := z0
  have e3 : (3 : Int32).toInt = 3 := rfl
  have e2 : (2 : Int32).toInt = 2 := rfl
  have e1 := z1
  unfold mStR stV
  rw [if_pos h, z_stS hL hX (by omega) _ (by omega), hL.1, kmin_eq (by exact h9.2)]
  by_cases w0 : w = 0
  · subst w0
    simp only [show ¬ (0 : Int32) = 1 by decide, show ¬ (0 : Int32) = 3 by decide, ↓reduceIte, Int64.add_zero]
  · by_cases w1 : w = 1
    · subst w1
      simp only [show ¬ (1 : Int32) = 0 by decide, show ¬ (1 : Int32) = 3 by decide, ↓reduceIte, Int64.zero_add]
    · by_cases w2 : w = 2
      · subst w2
        simp only [show ¬ (2 : Int32) = 0 by decide, show ¬ (2 : Int32) = 1 by decide, show ¬ (2 : Int32) = 3 by decide, ↓reduceIte]
      · have w3 : w = 3 := by
          rw [i_eq] at w0 w1 w2 ⊢
          omega
        subst w3
        simp only [show ¬ (3 : Int32) = 0 by decide, show ¬ (3 : Int32) = 1 by decide, show ¬ (3 : Int32) = 2 by decide, ↓reduceIte]
theorem z_pcC {σ : MI} {τ : ML} {b : Nat} {f : Nat → Int32} (hb : bz (σ 0 1) = b) (hr : zR σ τ b f) (x m w : Int32) : pcC σ x m w = mPrC f x m w := by
  obtain ⟨hB, hL, hX⟩ := hr
  unfold pcC mPrC
  rw [hb, hB.2.2.1, zinC hX.1, hB.1, le_range]
  cases hx : mIn x 0 (f 494 - 1)
  · simp only [Bool.false_eq_true, ↓reduceIte]
  · rw [if_pos rfl, if_pos rfl, (hB.co (mCx hX.1 hx).2).1 2 (by omega), isPric_mIn]
    cases mIn m (f (495 + 19 * x.toNatClampNeg + 2)) (f 0)
    · simp only [Bool.false_eq_true, ↓reduceIte]
    · cases mIn w 0 2 <;> simp only [Bool.false_eq_true, ↓reduceIte]
theorem mPx2 {f : Nat → Int32} (hR : RI f) {c : Nat} (hC : (c : Int) < (f 494).toInt) {m : Int32} (h : mIn m (f (495 + 19 * c + 2)) (f 0) = true) : mIn m 0 35 = true ∧ cntM m = m.toNatClampNeg + 1 ∧ (f (495 + 19 * c + 2)).toInt < (cntM m : Int) := by
  have hx := mPx hR hC h
  have h1 := mIn_t h
  have hb := (hR.con hC).2.2.1
  have h0 := hR.1
  unfold rg at hb h0
  have e35 : (35 : Int32).toInt = 35 := rfl
  have hm : mIn m 0 35 = true := mIn_of (by rw [z0]; omega) (by omega)
  exact ⟨hm, cntM_in hm, by rw [cntM_in hm]; exact hx.2⟩
theorem z_pcV {σ : MI} {τ : ML} {b : Nat} {f : Nat → Int32} (hb : bz (σ 0 1) = b) (hr : zR σ τ b f) {x m w : Int32} (h : mPrC f x m w = true) : pcV σ x m w = mPrR f x m w := by
  obtain ⟨hB, hL, hX⟩ := hr
  have hx : mIn x 0 (f 494 - 1) = true := by
    cases q : mIn x 0 (f 494 - 1)
    · unfold mPrC at h; rw [q] at h; simp at h
    · rfl
  have hm : mIn m (f (495 + 19 * x.toNatClampNeg + 2)) (f 0) = true := by
    cases q : mIn m (f (495 + 19 * x.toNatClampNeg + 2)) (f 0)
    · unfold mPrC at h; rw [hx, q] at h; simp at h
    · rfl
  have hc := (mCx hX.1 hx).2
  obtain ⟨-, p2, p3⟩ := mPx2 hX.1 hc hm
  unfold mPrR pcV pcM pcF
  rw [if_pos h, hb, z_move hX.1 hB hc p3, z_fac hX.1 hB hc p3, z_price hX.1 hB hc p3, p2]
