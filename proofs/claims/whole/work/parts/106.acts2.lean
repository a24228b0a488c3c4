/-! ===== deliver, close ===== -/
def rowD (f : Nat → Int32) (q du n a p : Int32) : Nat → Int32 := upd (upd (upd (upd (upd (upd (upd (upd (upd (upd f (610 + 9 * (f 609).toNatClampNeg + 0) q) (610 + 9 * (f 609).toNatClampNeg + 1) du) (610 + 9 * (f 609).toNatClampNeg + 2) (f 0)) (610 + 9 * (f 609).toNatClampNeg + 3) n) (610 + 9 * (f 609).toNatClampNeg + 4) a) (610 + 9 * (f 609).toNatClampNeg + 5) p) (610 + 9 * (f 609).toNatClampNeg + 6) 0) (610 + 9 * (f 609).toNatClampNeg + 7) (-1)) (610 + 9 * (f 609).toNatClampNeg + 8) 0) 609 (f 609 + 1)
theorem rowD_ne (f : Nat → Int32) {j : Nat} (q du n a p : Int32) (h : j ≠ 609) (h2 : j < 610 + 9 * (f 609).toNatClampNeg ∨ 610 + 9 * (f 609).toNatClampNeg + 9 ≤ j) : rowD f q du n a p j = f j := by
  simp only [rowD, upd]
  rw [if_neg h, if_neg (by omega), if_neg (by omega), if_neg (by omega), if_neg (by omega), if_neg (by omega), if_neg (by omega), if_neg (by omega), if_neg (by omega), if_neg (by omega)]
theorem upd_hit (f : Nat → Int32) (j : Nat) (v : Int32) : upd f j v j = v := by simp only [upd, ↓reduceIte]
theorem upd_miss (f : Nat → Int32) {j k : Nat} (v : Int32) (h : k ≠ j) : upd f j v k = f k := by simp only [upd, if_neg h]
theorem rowD_at (f : Nat → Int32) (q du n a p : Int32) : rowD f q du n a p 609 = f 609 + 1 ∧ rowD f q du n a p (610 + 9 * (f 609).toNatClampNeg + 0) = q ∧ rowD f q du n a p (610 + 9 * (f 609).toNatClampNeg + 1) = du ∧ rowD f q du n a p (610 + 9 * (f 609).toNatClampNeg + 2) = f 0 ∧ rowD f q du n a p (610 + 9 * (f 609).toNatClampNeg + 3) = n ∧ rowD f q du n a p (610 + 9 * (f 609).toNatClampNeg + 4) = a ∧ rowD f q du n a p (610 + 9 * (f 609).toNatClampNeg + 5) = p ∧ rowD f q du n a p (610 + 9 * (f 609).toNatClampNeg + 6) = 0 ∧ rowD f q du n a p (610 + 9 * (f 609).toNatClampNeg + 7) = -1 ∧ rowD f q du n a p (610 + 9 * (f 609).toNatClampNeg + 8) = 0 := by
  unfold rowD
  refine ⟨upd_hit _ _ _, ?_, ?_, ?_, ?_, ?_, ?_, ?_, ?_, ?_⟩
  · rw [upd_miss _ _ (by omega), upd_miss _ _ (by omega), upd_miss _ _ (by omega), upd_miss _ _ (by omega), upd_miss _ _ (by omega), upd_miss _ _ (by omega), upd_miss _ _ (by omega), upd_miss _ _ (by omega), upd_miss _ _ (by omega), upd_hit]
  · rw [upd_miss _ _ (by omega), upd_miss _ _ (by omega), upd_miss _ _ (by omega), upd_miss _ _ (by omega), upd_miss _ _ (by omega), upd_miss _ _ (by omega), upd_miss _ _ (by omega), upd_miss _ _ (by omega), upd_hit]
  · rw [upd_miss _ _ (by omega), upd_miss _ _ (by omega), upd_miss _ _ (by omega), upd_miss _ _ (by omega), upd_miss _ _ (by omega), upd_miss _ _ (by omega), upd_miss _ _ (by omega), upd_hit]
  · rw [upd_miss _ _ (by omega), upd_miss _ _ (by omega), upd_miss _ _ (by omega), upd_miss _ _ (by omega), upd_miss _ _ (by omega), upd_miss _ _ (by omega), upd_hit]
  · rw [upd_miss _ _ (by omega), upd_miss _ _ (by omega), upd_miss _ _ (by omega), upd_miss _ _ (by omega), upd_miss _ _ (by omega), upd_hit]
  · rw [upd_miss _ _ (by omega), upd_miss _ _ (by omega), upd_miss _ _ (by omega), upd_miss _ _ (by omega), upd_hit]
  · rw [upd_miss _ _ (by omega), upd_miss _ _ (by omega), upd_miss _ _ (by omega), upd_hit]
  · rw [upd_miss _ _ (by omega), upd_miss _ _ (by omega), upd_hit]
  · rw [upd_miss _ _ (by omega), upd_hit]
theorem le_range1 (w a M : Int32) : (if w < a then false else if w ≤ M then true else false) = mIn w a M := by
  unfold mIn
  by_cases h1 : w < a
  · rw [if_pos h1, if_pos h1]
  · rw [if_neg h1, if_neg h1]
    by_cases h2 : w ≤ M
    · rw [if_pos h2, if_neg (by rw [i_lt]; rw [i_le] at h2; omega)]
    · rw [if_neg h2, if_pos (by rw [i_lt]; rw [i_le] at h2; omega)]
theorem z_dvC {σ : MI} {τ : ML} {b : Nat} {f : Nat → Int32} (hb : bz (σ 0 1) = b) (hr : zR σ τ b f) (q du n : Int32) : dvC σ q du n = mDvC f q du n := by
  obtain ⟨hB, hL, hX⟩ := hr
  unfold dvC mDvC
  rw [hb, hB.2.2.1, hB.1, zinC hX.1, le_range1]
  cases hq : mIn q 0 (f 494 - 1)
  · simp only [Bool.false_eq_true, ↓reduceIte]
  · rw [if_pos rfl, if_pos rfl, (hB.co (mCx hX.1 hq).2).1 2 (by omega), isPric_mIn]
    cases mIn du (f (495 + 19 * q.toNatClampNeg + 2)) (f 0)
    · simp only [Bool.false_eq_true, ↓reduceIte]
    · cases mIn n 1 999 <;> simp only [Bool.false_eq_true, ↓reduceIte]
theorem z_full {f : Nat → Int32} (hR : RI f) : (f 609 = 30 → inL (f 609) 30 = false) ∧ (f 609 ≠ 30 → inL (f 609) 30 = true ∧ (f 609).toInt < 30) := by
  have h9 := hR.2.2.2.1
  unfold rg at h9
  have e30 : (30 : Int32).toInt = 30 := rfl
  refine ⟨fun e => by rw [e]; decide, fun e => ?_⟩
  have hne : (f 609).toInt ≠ 30 := fun w => e ((i_eq _ _).mpr w)
  refine ⟨?_, by omega⟩
  cases q : inL (f 609) 30
  · have := inL_f q
    omega
  · rfl
theorem z_dvP {f : Nat → Int32} {q du n : Int32} (h : mDvC f q du n = true) : mIn q 0 (f 494 - 1) = true ∧ mIn du (f (495 + 19 * q.toNatClampNeg + 2)) (f 0) = true ∧ rg n 1 999 := by
  unfold mDvC at h
  cases hq : mIn q 0 (f 494 - 1)
  · rw [hq] at h; simp at h
  · cases hd : mIn du (f (495 + 19 * q.toNatClampNeg + 2)) (f 0)
    · rw [hq, hd] at h; simp at h
    · cases hn : mIn n 1 999
      · rw [hq, hd, hn] at h; simp at h
      · exact ⟨rfl, rfl, m999 hn⟩
theorem z_deliverR {σ : MI} {τ : ML} {b : Nat} {f : Nat → Int32} (hb : bz (σ 0 1) = b) (hr : zR σ τ b f) (q du n : Int32) : dvR σ q du n = mDvR f q du n := by
  have hc := z_dvC hb hr q du n
  obtain ⟨hB, hL, hX⟩ := hr
  unfold dvR mDvR
  rw [hc, hL.1]
  cases mDvC f q du n
  · simp only [Bool.false_eq_true, ↓reduceIte]
  · rw [if_pos rfl, if_pos rfl]
    by_cases e : f 609 = 30
    · rw [if_pos e, (z_full hX.1).1 e, if_neg Bool.false_ne_true]
    · rw [if_neg e, ((z_full hX.1).2 e).1, if_pos rfl, Int32.add_sub_cancel]
/-- the new row of a delivery -/
theorem z_rowD {f : Nat → Int32} (hX : zX f) {q du n : Int32} (h : mDvC f q du n = true) (h30 : (f 609).toInt < 30) : zX (rowD f q du n (mDvA f q du) (mPri f q.toNatClampNeg ((mDvA f q du).toNatClampNeg + 1))) := by
  obtain ⟨hq, hd, hn⟩ := z_dvP h
  have hR := hX.1
  have hc := (mCx hR hq).2
  have h0 := hR.1
  have h1 := hR.2.1
  have h4 := hR.2.2.1
  have h9 := hR.2.2.2.1
  have hbs := (hR.con hc).2.2.1
  unfold rg at h0 h1 h4 h9 hbs
  have c9 := clampI (f 609)
  have hdu := mIn_t hd
  have hqq := mIn_t hq
  rw [sub1 h4.1] at hqq
  have ha : (f (495 + 19 * q.toNatClampNeg + 2)).toInt ≤ (mDvA f q du).toInt ∧ (mDvA f q du).toInt ≤ (f 0).toInt := by
    unfold mDvA
    split <;> omega
  have hca := clampI (mDvA f q du)
  have hp := (mPri_num hR (c := q.toNatClampNeg) (n := (mDvA f q du).toNatClampNeg + 1) hc (by omega) (by omega)).2
  generalize mDvA f q du = a at *
  generalize mPri f q.toNatClampNeg (a.toNatClampNeg + 1) = p at *
  have ne : ∀ j, j ≠ 609 → (j < 610 + 9 * (f 609).toNatClampNeg ∨ 610 + 9 * (f 609).toNatClampNeg + 9 ≤ j) → rowD f q du n a p j = f j := fun j w1 w2 => rowD_ne f q du n a p w1 w2
  obtain ⟨d9, d0, d1, d2, d3, d4, d5, d6, d7, d8⟩ := rowD_at f q du n a p
  have e1 : (f 609 + 1).toInt = (f 609).toInt + 1 := by have := z1; rw [fb_addI (by omega) (by omega)]; omega
  have e0 := z0
  have em : ((-1 : Int32)).toInt = -1 := rfl
  refine ⟨⟨by rw [ne 0 (by omega) (by omega)]; exact hR.1, by rw [ne 1 (by omega) (by omega)]; exact hR.2.1, by rw [ne 494 (by omega) (by omega)]; exact hR.2.2.1, by rw [d9]; exact ⟨by omega, by omega⟩, ?_, ?_, ?_, ?_⟩, ?_⟩
  · intro x m hx hm
    rw [ne _ (by omega) (by omega), ne _ (by omega) (by omega)]
    exact hR.2.2.2.2.1 x m hx hm
  · intro x hx
    have hbx := hR.base hx
    unfold rg at hbx
    rw [ne _ (by omega) (by omega)]
    refine ⟨hR.base hx, fun k hk => ?_⟩
    rw [ne _ (by omega) (by omega), ne _ (by omega) (by omega), ne _ (by omega) (by omega)]
    exact hR.reb hx hk
  · intro c hcc
    rw [ne 494 (by omega) (by omega)] at hcc
    exact CI_keep hR.1 hR.2.1 (ne 0 (by omega) (by omega)) (by rw [ne 1 (by omega) (by omega)]; omega) (fun j hj => ne _ (by omega) (by omega)) (fun y w hy hw => ne _ (by omega) (by omega)) (hR.con hcc)
  · intro d hdd
    rw [d9, e1] at hdd
    by_cases ed : d = (f 609).toNatClampNeg
    · subst ed
      unfold DI
      rw [d0, d2, d3, d4, d5, d6, d7, ne 494 (by omega) (by omega), ne (495 + 19 * q.toNatClampNeg + 2) (by omega) (by omega)]
      exact ⟨by omega, by omega, ha.1, by omega, hR.1, hn, hp, ⟨by decide, by decide⟩, ⟨by decide, by decide⟩⟩
    · have h := hR.del (d := d) (by omega)
      have hcl := clampI (f (610 + 9 * d + 0))
      have hq1 := h.1
      have hq2 := h.2.1
      unfold DI at h ⊢
      rw [ne 494 (by omega) (by omega), ne (610 + 9 * d + 0) (by omega) (by omega), ne (495 + 19 * (f (610 + 9 * d + 0)).toNatClampNeg + 2) (by omega) (by omega), ne (610 + 9 * d + 4) (by omega) (by omega), ne (610 + 9 * d + 2) (by omega) (by omega), ne (610 + 9 * d + 3) (by omega) (by omega), ne (610 + 9 * d + 5) (by omega) (by omega), ne (610 + 9 * d + 6) (by omega) (by omega), ne (610 + 9 * d + 7) (by omega) (by omega)]
      exact h
  · intro d hdd
    rw [d9, e1] at hdd
    by_cases ed : d = (f 609).toNatClampNeg
    · subst ed
      unfold zDX
      rw [d6, d7, d8, ne 0 (by omega) (by omega)]
      exact ⟨rfl, by omega, fun _ => rfl⟩
    · have h := hX.2 d (by omega)
      unfold zDX at h ⊢
      rw [ne 0 (by omega) (by omega), ne (610 + 9 * d + 6) (by omega) (by omega), ne (610 + 9 * d + 7) (by omega) (by omega), ne (610 + 9 * d + 8) (by omega) (by omega)]
      exact h
theorem dv1_ne (σ : MI) (q du n : Int32) {k : Nat} (h1 : k ≠ 12) (h2 : k ≠ 14 + (σ 12 1).toNatClampNeg) : dv1 σ q du n k = σ k := by
  unfold dv1
  rw [s2_nk _ _ _ h2, s2_nk _ _ _ h2, s2_nk _ _ _ h2, s2_nk _ _ _ h2, s2_nk _ _ _ h2, s2_nk _ _ _ h1]
theorem z_deliverM {σ : MI} {τ : ML} {b : Nat} {f : Nat → Int32} (hb : bz (σ 0 1) = b) (hb2 : b < 2) (hr : zR σ τ b f) {q du n : Int32} (h : mDvC f q du n = true) (h30 : (f 609).toInt < 30) :
    zR (dv2 σ q du n) (s2L τ (14 + (σ 12 1).toNatClampNeg) 7 0) b (rowD f q du n (mDvA f q du) (mPri f q.toNatClampNeg ((mDvA f q du).toNatClampNeg + 1))) := by
  have hX2 := z_rowD hr.2.2 h h30
  obtain ⟨hB, hL, hX⟩ := hr
  obtain ⟨hq, hd, hn⟩ := z_dvP h
  have hR := hX.1
  have hc := (mCx hR hq).2
  obtain ⟨p1, p2, p3⟩ := mPx2 hR hc hd
  obtain ⟨n1, n2, n3⟩ := z_nowIn hR
  have hbs := (hR.con hc).2.2.1
  have h9 := hR.2.2.2.1
  have h0 := hR.1
  have h1 := hR.2.1
  have h4 := hR.2.2.1
  unfold rg at h9 hbs h0 h1 h4
  have c9 := clampI (f 609)
  have c0 := clampI (f 0)
  have hB1 : zBk (dv1 σ q du n) b f := z_keepB hB hR.2.1 hR.2.2.1 (fun c w1 w2 => dv1_ne σ q du n (by omega) (by rw [hL.1]; omega))
  have pd : pfS (dv1 σ q du n) b q.toNatClampNeg du = mPri f q.toNatClampNeg (du.toNatClampNeg + 1) := by rw [z_pf hR hB1 hc p3, p2]
  have pn : pfS (dv1 σ q du n) b q.toNatClampNeg (f 0) = mPri f q.toNatClampNeg ((f 0).toNatClampNeg + 1) := by rw [z_pf hR hB1 hc (by rw [n2]; omega), n2]
  have e1 : (f 609 + 1).toInt = (f 609).toInt + 1 := by have := z1; rw [fb_addI (by omega) (by omega)]; omega
  unfold dv2
  rw [hb, hB.1, pd, pn, hL.1]
  have hkn : ∀ c, c < 6 ∨ 11 < c → keepS (bilS (dv1 σ q du n) (f 609).toNatClampNeg (mPri f q.toNatClampNeg (du.toNatClampNeg + 1)) (mPri f q.toNatClampNeg ((f 0).toNatClampNeg + 1))) 2 0 0 0 0 c = bilS (dv1 σ q du n) (f 609).toNatClampNeg (mPri f q.toNatClampNeg (du.toNatClampNeg + 1)) (mPri f q.toNatClampNeg ((f 0).toNatClampNeg + 1)) c := fun c w => keepS_ne _ 2 0 0 0 0 w
  have hne : ∀ c, (c < 6 ∨ 11 < c) → c ≠ 12 → c ≠ 14 + (f 609).toNatClampNeg → keepS (bilS (dv1 σ q du n) (f 609).toNatClampNeg (mPri f q.toNatClampNeg (du.toNatClampNeg + 1)) (mPri f q.toNatClampNeg ((f 0).toNatClampNeg + 1))) 2 0 0 0 0 c = σ c := fun c w1 w2 w3 => by
    rw [hkn c w1, bilS_ne _ _ _ w3, dv1_ne σ q du n w2 (by rw [hL.1]; exact w3)]
  generalize hP : mPri f q.toNatClampNeg ((mDvA f q du).toNatClampNeg + 1) = P at *
  have ne : ∀ j, j ≠ 609 → (j < 610 + 9 * (f 609).toNatClampNeg ∨ 610 + 9 * (f 609).toNatClampNeg + 9 ≤ j) → rowD f q du n (mDvA f q du) P j = f j := fun j w1 w2 => rowD_ne f q du n _ P w1 w2
  obtain ⟨d9, d0, d1, d2, d3, d4, d5, d6, d7, d8⟩ := rowD_at f q du n (mDvA f q du) P
  refine ⟨?_, ⟨?_, fun d hdd => ?_⟩, hX2⟩
  · refine zBk_agree hR (z_keepB hB hR.2.1 hR.2.2.1 (fun c w1 w2 => hne c (by omega) (by omega) (by omega))) (fun j _ w => ne j (by omega) (by omega)) (fun i m hi hm _ => ne _ (by omega) (by omega))
  · rw [hkn 12 (by omega), bilS_ne _ _ _ (by omega), d9]
    unfold dv1
    rw [hL.1, s2_nk _ _ _ (by omega), s2_nk _ _ _ (by omega), s2_nk _ _ _ (by omega), s2_nk _ _ _ (by omega), s2_nk _ _ _ (by omega), s2_eq]
  · rw [d9, e1] at hdd
    by_cases ed : d = (f 609).toNatClampNeg
    · subst ed
      have v : ∀ j, dv1 σ q du n (14 + (f 609).toNatClampNeg) j = if j = 6 then -1 else if j = 3 then n else if j = 2 then f 0 else if j = 1 then du else if j = 0 then q else σ (14 + (f 609).toNatClampNeg) j := fun j => by
        unfold dv1
        rw [hL.1, hb, hB.1]
        simp only [s2_at, true_and]
        rw [if_neg (show ¬ (14 + (f 609).toNatClampNeg = 12 ∧ j = 1) by omega)]
      refine ⟨fun j hj => ?_, ?_, ?_⟩
      · rw [hkn _ (by omega)]
        unfold bilS
        by_cases hlt : mPri f q.toNatClampNeg ((f 0).toNatClampNeg + 1) < mPri f q.toNatClampNeg (du.toNatClampNeg + 1)
        · have ea : mDvA f q du = f 0 := by unfold mDvA; rw [if_pos hlt]
          rw [if_pos hlt]
          rw [ea] at d0 d1 d2 d3 d4 d5 hP ⊢
          rcases (by omega : j = 0 ∨ j = 1 ∨ j = 2 ∨ j = 3 ∨ j = 4 ∨ j = 5) with rfl | rfl | rfl | rfl | rfl | rfl
          · rw [s2_nj _ _ _ (by decide), s2_nj _ _ _ (by decide), v, d0]; rfl
          · rw [s2_nj _ _ _ (by decide), s2_nj _ _ _ (by decide), v, d1]; rfl
          · rw [s2_nj _ _ _ (by decide), s2_nj _ _ _ (by decide), v, d2]; rfl
          · rw [s2_nj _ _ _ (by decide), s2_nj _ _ _ (by decide), v, d3]; rfl
          · rw [s2_nj _ _ _ (by decide), s2_eq, v, d4]; rfl
          · rw [s2_eq, d5, ← hP]
        · have ea : mDvA f q du = du := by unfold mDvA; rw [if_neg hlt]
          rw [if_neg hlt]
          rw [ea] at d0 d1 d2 d3 d4 d5 hP ⊢
          rcases (by omega : j = 0 ∨ j = 1 ∨ j = 2 ∨ j = 3 ∨ j = 4 ∨ j = 5) with rfl | rfl | rfl | rfl | rfl | rfl
          · rw [s2_nj _ _ _ (by decide), s2_nj _ _ _ (by decide), v, d0]; rfl
          · rw [s2_nj _ _ _ (by decide), s2_nj _ _ _ (by decide), v, d1]; rfl
          · rw [s2_nj _ _ _ (by decide), s2_nj _ _ _ (by decide), v, d2]; rfl
          · rw [s2_nj _ _ _ (by decide), s2_nj _ _ _ (by decide), v, d3]; rfl
          · rw [s2_nj _ _ _ (by decide), s2_eq, v, d4]; rfl
          · rw [s2_eq, d5, ← hP]
      · rw [hkn _ (by omega), d7]
        unfold bilS
        split
        · rw [s2_nj _ _ _ (by decide), s2_nj _ _ _ (by decide), v]; rfl
        · rw [s2_nj _ _ _ (by decide), s2_nj _ _ _ (by decide), v]; rfl
      · rw [d8, s2L_eq]; rfl
    · have hz := hL.de (d := d) (by omega)
      refine ⟨fun j hj => ?_, ?_, ?_⟩
      · rw [hne _ (by omega) (by omega) (by omega), ne _ (by omega) (by omega)]; exact hz.1 j hj
      · rw [hne _ (by omega) (by omega) (by omega), ne _ (by omega) (by omega)]; exact hz.2.1
      · rw [s2L_ne _ _ (Or.inl (by omega)), ne _ (by omega) (by omega)]; exact hz.2.2
/-! close -/
def zDY (f : Nat → Int32) (d : Nat) : Prop := f (610 + 9 * d + 6) = (if f (610 + 9 * d + 7) = -1 then 0 else 1) ∧ (f (610 + 9 * d + 7)).toInt ≤ (f 0).toInt ∧ (f (610 + 9 * d + 7) = -1 → f (610 + 9 * d + 8) = 0)
theorem z_isSetY {f : Nat → Int32} {d : Nat} (h : zDY f d) : (f (610 + 9 * d + 6) = 1 ↔ isSet (f (610 + 9 * d + 7)) = true) ∧ (f (610 + 9 * d + 6) = 0 ↔ isSet (f (610 + 9 * d + 7)) = false) := by
  rw [h.1]
  unfold isSet
  by_cases e : f (610 + 9 * d + 7) = -1
  · rw [if_pos e, if_pos e]; exact ⟨⟨fun q => absurd q (by decide), fun q => by cases q⟩, ⟨fun _ => rfl, fun _ => rfl⟩⟩
  · rw [if_neg e, if_neg e]; exact ⟨⟨fun _ => rfl, fun _ => rfl⟩, ⟨fun q => absurd q (by decide), fun q => by cases q⟩⟩
theorem z_diC {f : Nat → Int32} (hR : RI f) {d : Nat} (hd : (d : Int) < (f 609).toInt) : mIn (f (610 + 9 * d + 0)) 0 (f 494 - 1) = true ∧ ((f (610 + 9 * d + 0)).toNatClampNeg : Int) < (f 494).toInt ∧ mIn (f (610 + 9 * d + 4)) 0 35 = true ∧ (f (495 + 19 * (f (610 + 9 * d + 0)).toNatClampNeg + 2)).toInt < (cntM (f (610 + 9 * d + 4)) : Int) := by
  have h := hR.del hd
  have hcl := clampI (f (610 + 9 * d + 0))
  have q1 := h.1
  have q2 := h.2.1
  have q3 := h.2.2.1
  have q4 := h.2.2.2.1
  have hc : ((f (610 + 9 * d + 0)).toNatClampNeg : Int) < (f 494).toInt := by omega
  have hbs := (hR.con hc).2.2.1
  unfold rg at hbs
  have hm : mIn (f (610 + 9 * d + 4)) 0 35 = true := mIn_of (by rw [z0]; omega) (by have : (35 : Int32).toInt = 35 := rfl; omega)
  refine ⟨mIn_of (by rw [z0]; omega) (by rw [sub1 hR.2.2.1.1]; omega), hc, hm, ?_⟩
  rw [cntM_in hm]
  have := clampI (f (610 + 9 * d + 4))
  omega
theorem z_setl {σ ρ : MI} {τ : ML} {b : Nat} (hb2 : b < 2) (hr : zR σ τ b (ρ 2)) : ∀ k : Nat, (k : Int) ≤ (ρ 2 609).toInt → zBk (setlM σ b k) b (mcl ρ k 2) ∧ RI (mcl ρ k 2) ∧ zLe (setlM σ b k) (setlT σ τ b k) (mcl ρ k 2) ∧ (∀ d : Nat, (d : Int) < (ρ 2 609).toInt → zDY (mcl ρ k 2) d) ∧ setlN σ b k = mclN ρ k := by
  obtain ⟨hB, hL, hX⟩ := hr
  have h9 := hX.1.2.2.2.1
  unfold rg at h9
  intro k
  induction k with
  | zero =>
    intro _
    refine ⟨hB, hX.1, hL, fun d hd => ?_, rfl⟩
    have q := hX.2 d hd
    exact ⟨q.1, by have := q.2.1; show (ρ 2 (610 + 9 * d + 7)).toInt ≤ (ρ 2 0).toInt; omega, q.2.2⟩
  | succ k ih =>
    intro hk
    obtain ⟨iB, iR, iL, iY, iN⟩ := ih (by omega)
    have lo : ∀ j, j < 610 → mcl ρ k 2 j = ρ 2 j := fun j hj => mcl_lo ρ hj k
    have hk9 : (k : Int) < (mcl ρ k 2 609).toInt := by rw [lo 609 (by omega)]; omega
    have hz := iL.de hk9
    have hs := z_isSetY (iY k (by omega))
    obtain ⟨c1, c2, c3, c4⟩ := z_diC iR hk9
    have hcond : setlC (setlM σ b k) b k = mclC (mcl ρ k 2) k := by
      unfold setlC mclC
      rw [hz.1 0 (by omega), hz.1 4 (by omega), hz.2.1, iB.2.2.1, zinC iR, if_pos c1]
      cases hset : isSet (mcl ρ k 2 (610 + 9 * k + 7))
      · rw [if_neg Bool.false_ne_true, z_waS iR iB c1 c3, if_neg (show ¬ mcl ρ k 2 (610 + 9 * k + 6) = 1 by rw [hs.2.mpr hset]; decide)]
        rfl
      · rw [if_pos rfl, if_pos (hs.1.mpr hset)]
    have R1 := mcl_RI hX.1 (k + 1) hk
    have B1 : zBk (setlM σ b (k + 1)) b (mcl ρ (k + 1) 2) := zBk_agree hX.1 (z_keepB hB hX.1.2.1 hX.1.2.2.1 (fun c w1 w2 => setlM_ne σ b (k + 1) (by omega))) (fun j _ hj => mcl_lo ρ (by omega) (k + 1)) (fun i m hi hm _ => mcl_lo ρ (by omega) (k + 1))
    refine ⟨B1, R1, ?_⟩
    have eM : setlM σ b (k + 1) = if setlC (setlM σ b k) b k = true then s2 (setlM σ b k) (14 + k) 6 (setlM σ b k (44 + 57 * b) 0) else setlM σ b k := rfl
    have eT : setlT σ τ b (k + 1) = if setlC (setlM σ b k) b k = true then s2L (setlT σ τ b k) (14 + k) 7 ((setlM σ b k (14 + k) 3).toInt64 * (pfS (setlM σ b k) b (setlM σ b k (14 + k) 0).toNatClampNeg (setlM σ b k (14 + k) 4)).toInt64 - (setlM σ b k (14 + k) 3).toInt64 * (setlM σ b k (14 + k) 5).toInt64) else setlT σ τ b k := rfl
    have eN : setlN σ b (k + 1) = if setlC (setlM σ b k) b k = true then setlN σ b k + 1 else setlN σ b k := rfl
    have eF : mcl ρ (k + 1) = if mclC (mcl ρ k 2) k = true then s2 (s2 (s2 (mcl ρ k) 2 (610 + 9 * k + 6) 1) 2 (610 + 9 * k + 7) (mcl ρ k 2 0)) 2 (610 + 9 * k + 8) (mclT (mcl ρ k 2) k) else mcl ρ k := rfl
    have eG : mclN ρ (k + 1) = if mclC (mcl ρ k 2) k = true then mclN ρ k + 1 else mclN ρ k := rfl
    rw [eM, eT, eN, eF, eG, hcond]
    cases hc : mclC (mcl ρ k 2) k
    · rw [if_neg Bool.false_ne_true, if_neg Bool.false_ne_true, if_neg Bool.false_ne_true, if_neg Bool.false_ne_true, if_neg Bool.false_ne_true]
      exact ⟨iL, iY, iN⟩
    · rw [if_pos rfl, if_pos rfl, if_pos rfl, if_pos rfl, if_pos rfl]
      have epf : pfS (setlM σ b k) b (mcl ρ k 2 (610 + 9 * k + 0)).toNatClampNeg (mcl ρ k 2 (610 + 9 * k + 4)) = mPri (mcl ρ k 2) (mcl ρ k 2 (610 + 9 * k + 0)).toNatClampNeg ((mcl ρ k 2 (610 + 9 * k + 4)).toNatClampNeg + 1) := by rw [z_pf iR iB c2 c4, cntM_in c3]
      have hpr := (mPri_num iR c2 (n := cntM (mcl ρ k 2 (610 + 9 * k + 4))) (cntM_le _) c4).2
      rw [cntM_in c3] at hpr
      have hd3 := (iR.del hk9).2.2.2.2.2.1
      have hd5 := (iR.del hk9).2.2.2.2.2.2.1
      have h00 := iR.1
      generalize hF : mcl ρ k 2 = F at *
      have nF : ∀ j, j ≠ 610 + 9 * k + 6 → j ≠ 610 + 9 * k + 7 → j ≠ 610 + 9 * k + 8 → s2 (s2 (s2 (mcl ρ k) 2 (610 + 9 * k + 6) 1) 2 (610 + 9 * k + 7) (F 0)) 2 (610 + 9 * k + 8) (mclT F k) 2 j = F j := fun j w1 w2 w3 => by
        rw [s2_nj _ _ _ w3, s2_nj _ _ _ w2, s2_nj _ _ _ w1, hF]
      have e6 : s2 (s2 (s2 (mcl ρ k) 2 (610 + 9 * k + 6) 1) 2 (610 + 9 * k + 7) (F 0)) 2 (610 + 9 * k + 8) (mclT F k) 2 (610 + 9 * k + 6) = 1 := by
        rw [s2_nj _ _ _ (by omega), s2_nj _ _ _ (by omega), s2_eq]
      have e7 : s2 (s2 (s2 (mcl ρ k) 2 (610 + 9 * k + 6) 1) 2 (610 + 9 * k + 7) (F 0)) 2 (610 + 9 * k + 8) (mclT F k) 2 (610 + 9 * k + 7) = F 0 := by
        rw [s2_nj _ _ _ (by omega), s2_eq]
      have e8 : s2 (s2 (s2 (mcl ρ k) 2 (610 + 9 * k + 6) 1) 2 (610 + 9 * k + 7) (F 0)) 2 (610 + 9 * k + 8) (mclT F k) 2 (610 + 9 * k + 8) = mclT F k := s2_eq _ _ _ _
      unfold rg at h00 hpr hd3 hd5
      refine ⟨⟨?_, fun d hd => ?_⟩, fun d hd => ?_, by rw [iN]⟩
      · rw [s2_nk _ _ _ (by omega), nF 609 (by omega) (by omega) (by omega)]; exact iL.1
      · rw [nF 609 (by omega) (by omega) (by omega)] at hd
        by_cases ed : d = k
        · subst ed
          refine ⟨fun j hj => ?_, ?_, ?_⟩
          · rw [s2_nj _ _ _ (by omega), nF _ (by omega) (by omega) (by omega)]; exact hz.1 j hj
          · rw [s2_eq, e7]; exact iB.1
          · rw [s2L_eq, e8, hz.1 3 (by omega), hz.1 0 (by omega), hz.1 4 (by omega), hz.1 5 (by omega), epf]
            unfold mclT mBil
            generalize mPri F (F (610 + 9 * d + 0)).toNatClampNeg ((F (610 + 9 * d + 4)).toNatClampNeg + 1) = P at *
            have m1 : 0 * 0 ≤ (F (610 + 9 * d + 3)).toInt * P.toInt := Int.mul_le_mul (by omega) hpr.1 (by omega) (by omega)
            have m2 : (F (610 + 9 * d + 3)).toInt * P.toInt ≤ 999 * 1000000 := Int.mul_le_mul hd3.2 hpr.2 (by omega) (by omega)
            have m3 : 0 * 0 ≤ (F (610 + 9 * d + 3)).toInt * (F (610 + 9 * d + 5)).toInt := Int.mul_le_mul (by omega) hd5.1 (by omega) (by omega)
            have m4 : (F (610 + 9 * d + 3)).toInt * (F (610 + 9 * d + 5)).toInt ≤ 999 * 1000000 := Int.mul_le_mul hd3.2 hd5.2 (by omega) (by omega)
            have x1 : ((F (610 + 9 * d + 3)).toInt64 * P.toInt64).toInt = (F (610 + 9 * d + 3)).toInt * P.toInt := by
              rw [fb_mulL, i64, i64]
              · rw [i64, i64]; omega
              · rw [i64, i64]; omega
            have x2 : ((F (610 + 9 * d + 3)).toInt64 * (F (610 + 9 * d + 5)).toInt64).toInt = (F (610 + 9 * d + 3)).toInt * (F (610 + 9 * d + 5)).toInt := by
              rw [fb_mulL, i64, i64]
              · rw [i64, i64]; omega
              · rw [i64, i64]; omega
            have x3 : ((F (610 + 9 * d + 3)).toInt64 * P.toInt64 - (F (610 + 9 * d + 3)).toInt64 * (F (610 + 9 * d + 5)).toInt64).toInt = (F (610 + 9 * d + 3)).toInt * P.toInt - (F (610 + 9 * d + 3)).toInt * (F (610 + 9 * d + 5)).toInt := by
              rw [fb_subL, x1, x2]
              · rw [x1, x2]; omega
              · rw [x1, x2]; omega
            rw [← Int64.toInt_inj, i64, z_to32 x3 (by omega) (by omega), x3]
        · have hzd := iL.de hd
          refine ⟨fun j hj => ?_, ?_, ?_⟩
          · rw [s2_nk _ _ _ (by omega), nF _ (by omega) (by omega) (by omega)]; exact hzd.1 j hj
          · rw [s2_nk _ _ _ (by omega), nF _ (by omega) (by omega) (by omega)]; exact hzd.2.1
          · rw [s2L_ne _ _ (Or.inl (by omega)), nF _ (by omega) (by omega) (by omega)]; exact hzd.2.2
      · by_cases ed : d = k
        · subst ed
          unfold zDY
          rw [e6, e7, e8, nF 0 (by omega) (by omega) (by omega)]
          have hne : ¬ F 0 = -1 := fun w => by
            have e : (F 0).toInt = -1 := by rw [w]; rfl
            omega
          rw [if_neg hne]
          exact ⟨rfl, Int.le_refl _, fun w => absurd w hne⟩
        · have q := iY d hd
          unfold zDY at q ⊢
          rw [nF 0 (by omega) (by omega) (by omega), nF (610 + 9 * d + 6) (by omega) (by omega) (by omega), nF (610 + 9 * d + 7) (by omega) (by omega) (by omega), nF (610 + 9 * d + 8) (by omega) (by omega) (by omega)]
          exact q
theorem mcl_shape (ρ : MI) : ∀ k d : Nat, (∀ e, e < 6 → mcl ρ k 2 (610 + 9 * d + e) = ρ 2 (610 + 9 * d + e)) ∧ ((mcl ρ k 2 (610 + 9 * d + 6) = ρ 2 (610 + 9 * d + 6) ∧ mcl ρ k 2 (610 + 9 * d + 7) = ρ 2 (610 + 9 * d + 7) ∧ mcl ρ k 2 (610 + 9 * d + 8) = ρ 2 (610 + 9 * d + 8)) ∨ (d < k ∧ ρ 2 (610 + 9 * d + 6) ≠ 1 ∧ mcl ρ k 2 (610 + 9 * d + 7) = ρ 2 0))
  | 0, d => ⟨fun _ _ => rfl, Or.inl ⟨rfl, rfl, rfl⟩⟩
  | k + 1, d => by
    have ih := mcl_shape ρ k d
    have eF : mcl ρ (k + 1) = if mclC (mcl ρ k 2) k = true then s2 (s2 (s2 (mcl ρ k) 2 (610 + 9 * k + 6) 1) 2 (610 + 9 * k + 7) (mcl ρ k 2 0)) 2 (610 + 9 * k + 8) (mclT (mcl ρ k 2) k) else mcl ρ k := rfl
    rw [eF]
    cases hc : mclC (mcl ρ k 2) k
    · rw [if_neg Bool.false_ne_true]
      exact ⟨ih.1, ih.2.imp id (fun h => ⟨by omega, h.2⟩)⟩
    · rw [if_pos rfl]
      have nF : ∀ j, j ≠ 610 + 9 * k + 6 → j ≠ 610 + 9 * k + 7 → j ≠ 610 + 9 * k + 8 → s2 (s2 (s2 (mcl ρ k) 2 (610 + 9 * k + 6) 1) 2 (610 + 9 * k + 7) (mcl ρ k 2 0)) 2 (610 + 9 * k + 8) (mclT (mcl ρ k 2) k) 2 j = mcl ρ k 2 j := fun j w1 w2 w3 => by
        rw [s2_nj _ _ _ w3, s2_nj _ _ _ w2, s2_nj _ _ _ w1]
      refine ⟨fun e he => by rw [nF _ (by omega) (by omega) (by omega)]; exact ih.1 e he, ?_⟩
      by_cases ed : d = k
      · subst ed
        refine Or.inr ⟨by omega, ?_, ?_⟩
        · rcases ih.2 with h | h
          · rw [← h.1]
            unfold mclC at hc
            intro w
            rw [if_pos w] at hc
            cases hc
          · exact h.2.1
        · rw [s2_nj _ _ _ (by omega), s2_eq, mcl_lo ρ (by omega)]
      · rw [nF (610 + 9 * d + 6) (by omega) (by omega) (by omega), nF (610 + 9 * d + 7) (by omega) (by omega) (by omega), nF (610 + 9 * d + 8) (by omega) (by omega) (by omega)]
        exact ih.2.imp id (fun h => ⟨by omega, h.2⟩)
theorem RI_now {f : Nat → Int32} (hR : RI f) {v : Int32} (hv : rg v 0 35) (hle : (f 0).toInt ≤ v.toInt) : RI (upd f 0 v) := by
  have ne : ∀ j, j ≠ 0 → upd f 0 v j = f j := fun j h => upd_miss f v h
  have e0 : upd f 0 v 0 = v := upd_hit f 0 v
  refine ⟨by rw [e0]; exact hv, by rw [ne 1 (by omega)]; exact hR.2.1, by rw [ne 494 (by omega)]; exact hR.2.2.1, by rw [ne 609 (by omega)]; exact hR.2.2.2.1, ?_, ?_, ?_, ?_⟩
  · intro x m hx hm
    rw [ne _ (by omega), ne _ (by omega)]
    exact hR.2.2.2.2.1 x m hx hm
  · intro x hx
    rw [ne _ (by omega)]
    refine ⟨hR.base hx, fun k hk => ?_⟩
    rw [ne _ (by omega), ne _ (by omega), ne _ (by omega)]
    exact hR.reb hx hk
  · intro c hc
    rw [ne 494 (by omega)] at hc
    have h := hR.con hc
    have hb := h.2.2.1
    unfold CI at h ⊢
    unfold rg at hb
    rw [e0, ne 1 (by omega), ne (495 + 19 * c + 0) (by omega), ne (495 + 19 * c + 1) (by omega), ne (495 + 19 * c + 2) (by omega), ne (495 + 19 * c + 3) (by omega), ne (495 + 19 * c + 4) (by omega), ne (495 + 19 * c + 5) (by omega), ne (495 + 19 * c + 6) (by omega)]
    refine ⟨h.1, h.2.1, ⟨hb.1, by omega⟩, h.2.2.2.1, h.2.2.2.2.1, h.2.2.2.2.2.1, h.2.2.2.2.2.2.1, fun k hk => ?_, ?_⟩
    · rw [ne _ (by omega), ne _ (by omega), ne _ (by omega)]
      exact h.2.2.2.2.2.2.2.1 k hk
    · rw [fb_si_cong' (g := fun k => (f (495 + 19 * c + (7 + 2 * k))).toInt) _ (fun k hk => by rw [ne _ (by omega)])]
      exact h.2.2.2.2.2.2.2.2
  · intro d hd
    rw [ne 609 (by omega)] at hd
    have h := hR.del hd
    unfold DI at h ⊢
    rw [ne 494 (by omega), ne (610 + 9 * d + 0) (by omega), ne (495 + 19 * (f (610 + 9 * d + 0)).toNatClampNeg + 2) (by omega), ne (610 + 9 * d + 4) (by omega), ne (610 + 9 * d + 2) (by omega), ne (610 + 9 * d + 3) (by omega), ne (610 + 9 * d + 5) (by omega), ne (610 + 9 * d + 6) (by omega), ne (610 + 9 * d + 7) (by omega)]
    exact h
theorem z_closeM {σ ρ : MI} {τ : ML} {b : Nat} (hb2 : b < 2) (hr : zR σ τ b (ρ 2)) (h35 : (ρ 2 0).toInt < 35) (a1 a2 a3 a4 a5 : Int32) :
    zR (keepS (s2 (setlM σ b (ρ 2 609).toNatClampNeg) (44 + 57 * b) 0 (ρ 2 0 + 1)) a1 a2 a3 a4 a5) (setlT σ τ b (ρ 2 609).toNatClampNeg) b (upd (mcl ρ (ρ 2 609).toNatClampNeg 2) 0 (ρ 2 0 + 1)) ∧ setlN σ b (ρ 2 609).toNatClampNeg = mclN ρ (ρ 2 609).toNatClampNeg := by
  have h9 := hr.2.2.1.2.2.2.1
  have h0 := hr.2.2.1.1
  unfold rg at h9 h0
  have c9 := clampI (ρ 2 609)
  obtain ⟨iB, iR, iL, iY, iN⟩ := z_setl hb2 hr (ρ 2 609).toNatClampNeg (by omega)
  generalize (ρ 2 609).toNatClampNeg = K at *
  have lo : ∀ j, j < 610 → mcl ρ K 2 j = ρ 2 j := fun j hj => mcl_lo ρ hj K
  have e1 : (ρ 2 0 + 1).toInt = (ρ 2 0).toInt + 1 := by have := z1; rw [fb_addI (by omega) (by omega)]; omega
  have h1 := iR.2.1
  have h4 := iR.2.2.1
  unfold rg at h1 h4
  refine ⟨⟨?_, ?_, ?_, ?_⟩, iN⟩
  · have hk : ∀ c, 44 + 57 * b ≤ c → c < 101 + 57 * b → c ≠ 44 + 57 * b → keepS (s2 (setlM σ b K) (44 + 57 * b) 0 (ρ 2 0 + 1)) a1 a2 a3 a4 a5 c = setlM σ b K c := fun c w1 w2 w3 => by
      rw [keepS_ne _ a1 a2 a3 a4 a5 (by omega), s2_nk _ _ _ w3]
    have hk4 : ∀ j, j ≠ 0 → keepS (s2 (setlM σ b K) (44 + 57 * b) 0 (ρ 2 0 + 1)) a1 a2 a3 a4 a5 (44 + 57 * b) j = setlM σ b K (44 + 57 * b) j := fun j w => by
      rw [keepS_ne _ a1 a2 a3 a4 a5 (by omega), s2_nj _ _ _ w]
    have ne : ∀ j, j ≠ 0 → upd (mcl ρ K 2) 0 (ρ 2 0 + 1) j = mcl ρ K 2 j := fun j h => upd_miss _ _ h
    refine ⟨?_, ?_, ?_, fun i hi => ?_, fun c hc => ?_⟩
    · rw [keepS_ne _ a1 a2 a3 a4 a5 (by omega), s2_eq, upd_hit]
    · rw [hk4 1 (by omega), ne 1 (by omega)]; exact iB.2.1
    · rw [hk4 2 (by omega), ne 494 (by omega)]; exact iB.2.2.1
    · rw [ne 1 (by omega)] at hi
      have hz := iB.ix hi
      unfold zIx at hz ⊢
      rw [hk (49 + 57 * b + 6 * i) (by omega) (by omega) (by omega), hk (48 + 57 * b + 6 * i) (by omega) (by omega) (by omega), hk (47 + 57 * b + 6 * i) (by omega) (by omega) (by omega), hk (50 + 57 * b + 6 * i) (by omega) (by omega) (by omega), hk (51 + 57 * b + 6 * i) (by omega) (by omega) (by omega), hk (52 + 57 * b + 6 * i) (by omega) (by omega) (by omega), ne (434 + 10 * i) (by omega)]
      refine ⟨fun m hm => ?_, hz.2.1, fun k hkk => ?_⟩
      · rw [ne _ (by omega), ne _ (by omega)]; exact hz.1 m hm
      · rw [ne _ (by omega), ne _ (by omega), ne _ (by omega)]; exact hz.2.2 k hkk
    · rw [ne 494 (by omega)] at hc
      have hz := iB.co hc
      unfold zCo at hz ⊢
      rw [hk (83 + 57 * b + 3 * c) (by omega) (by omega) (by omega), hk (84 + 57 * b + 3 * c) (by omega) (by omega) (by omega), hk (85 + 57 * b + 3 * c) (by omega) (by omega) (by omega), ne (495 + 19 * c + 6) (by omega)]
      refine ⟨fun j hj => ?_, fun k hkk => ?_⟩
      · rw [ne _ (by omega)]; exact hz.1 j hj
      · rw [ne _ (by omega), ne _ (by omega)]; exact hz.2 k hkk
  · refine zLe_agree iR (z_keepL iL iR.2.2.2.1 (fun c w1 w2 => ?_) (fun d _ => rfl)) (fun j w1 w2 => upd_miss _ _ (by omega))
    rw [keepS_ne _ a1 a2 a3 a4 a5 (by omega), s2_nk _ _ _ (by omega)]
  · exact RI_now iR ⟨by omega, by omega⟩ (by rw [lo 0 (by omega)]; omega)
  · intro d hd
    rw [upd_miss _ _ (by omega), lo 609 (by omega)] at hd
    have q := iY d hd
    unfold zDY at q
    unfold zDX
    rw [lo 0 (by omega)] at q
    rw [upd_hit, upd_miss _ _ (by omega), upd_miss _ _ (by omega), upd_miss _ _ (by omega)]
    exact ⟨q.1, by have := q.2.1; omega, q.2.2⟩
