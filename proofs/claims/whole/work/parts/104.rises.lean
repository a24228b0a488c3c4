/-! ===== values put; were, rises ===== -/
def rowV (f : Nat → Int32) (i m : Nat) (v k : Int32) : Nat → Int32 := upd (upd f (2 + 36 * i + m) v) (218 + 36 * i + m) k
theorem rowV_ne (f : Nat → Int32) {i m j : Nat} (v k : Int32) (h : j ≠ 2 + 36 * i + m) (h2 : j ≠ 218 + 36 * i + m) : rowV f i m v k j = f j := by
  simp only [rowV, upd, if_neg h, if_neg h2]
theorem rowV_far (f : Nat → Int32) {i m j : Nat} (v k : Int32) (hi : i < 6) (hm : m < 36) (h : j < 2 ∨ 434 ≤ j) : rowV f i m v k j = f j := rowV_ne f v k (by omega) (by omega)
theorem rowV_k (f : Nat → Int32) (i m : Nat) (v k : Int32) : rowV f i m v k (218 + 36 * i + m) = k := by simp only [rowV, upd, ↓reduceIte]
theorem rowV_v (f : Nat → Int32) {i m : Nat} (v k : Int32) (hi : i < 6) (hm : m < 36) : rowV f i m v k (2 + 36 * i + m) = v := by
  simp only [rowV, upd, ↓reduceIte]; rw [if_neg (by omega)]
theorem RI_putV {f : Nat → Int32} (hR : RI f) {i m : Nat} {v k : Int32} (hi : i < 6) (hm : m < 36) (hv : rg v 1 999) (hk : rg k 0 2) (hk0 : k ≠ 0) : RI (rowV f i m v k) := by
  have far : ∀ j, (j < 2 ∨ 434 ≤ j) → rowV f i m v k j = f j := fun j h => rowV_far f v k hi hm h
  refine ⟨?_, ?_, ?_, ?_, ?_, ?_, ?_, ?_⟩
  · rw [far 0 (by omega)]; exact hR.1
  · rw [far 1 (by omega)]; exact hR.2.1
  · rw [far 494 (by omega)]; exact hR.2.2.1
  · rw [far 609 (by omega)]; exact hR.2.2.2.1
  · intro a b ha hb
    by_cases h1 : a = i ∧ b = m
    · obtain ⟨rfl, rfl⟩ := h1
      rw [rowV_k, rowV_v f v k ha hb]
      exact ⟨hk, fun _ => hv⟩
    · rw [rowV_ne f v k (by omega) (by omega), rowV_ne f v k (by omega) (by omega)]
      exact hR.2.2.2.2.1 a b ha hb
  · intro a ha
    rw [far _ (by omega)]
    refine ⟨hR.base ha, fun k hk => ?_⟩
    rw [far _ (by omega), far _ (by omega), far _ (by omega)]
    exact hR.reb ha hk
  · intro c hc
    rw [far 494 (by omega)] at hc
    have h := hR.con hc
    unfold CI at h ⊢
    have hb36 : (f (495 + 19 * c + 2)).toNatClampNeg < 36 := by
      have h1 := h.2.2.1
      have h2 := hR.1
      unfold rg at h1 h2
      have := clampI (f (495 + 19 * c + 2))
      omega
    rw [far 0 (by omega), far 1 (by omega), far (495 + 19 * c + 0) (by omega), far (495 + 19 * c + 1) (by omega), far (495 + 19 * c + 2) (by omega), far (495 + 19 * c + 3) (by omega), far (495 + 19 * c + 4) (by omega), far (495 + 19 * c + 5) (by omega), far (495 + 19 * c + 6) (by omega)]
    refine ⟨h.1, h.2.1, h.2.2.1, h.2.2.2.1, h.2.2.2.2.1, h.2.2.2.2.2.1, h.2.2.2.2.2.2.1, fun n hn => ?_, ?_⟩
    · rw [far _ (by omega), far _ (by omega)]
      obtain ⟨g1, g2, g3, g4⟩ := h.2.2.2.2.2.2.2.1 n hn
      refine ⟨g1, g2, g3, ?_⟩
      by_cases hq : 218 + 36 * (f (495 + 19 * c + (8 + 2 * n))).toNatClampNeg + (f (495 + 19 * c + 2)).toNatClampNeg = 218 + 36 * i + m
      · rw [hq, rowV_k]; exact hk0
      · rw [rowV_ne f v k (by omega) hq]
        exact g4
    · have e : (fun n => (rowV f i m v k (495 + 19 * c + (7 + 2 * n))).toInt) = fun n => (f (495 + 19 * c + (7 + 2 * n))).toInt := funext fun n => by rw [far _ (by omega)]
      rw [e]
      exact h.2.2.2.2.2.2.2.2
  · intro d hd
    rw [far 609 (by omega)] at hd
    have h := hR.del hd
    unfold DI at h ⊢
    rw [far 494 (by omega), far (610 + 9 * d + 0) (by omega), far (495 + 19 * (f (610 + 9 * d + 0)).toNatClampNeg + 2) (by omega), far (610 + 9 * d + 4) (by omega), far (610 + 9 * d + 2) (by omega), far (610 + 9 * d + 3) (by omega), far (610 + 9 * d + 5) (by omega), far (610 + 9 * d + 6) (by omega), far (610 + 9 * d + 7) (by omega)]
    exact h
theorem zX_putV {f : Nat → Int32} (hX : zX f) {i m : Nat} {v k : Int32} (hi : i < 6) (hm : m < 36) (hv : rg v 1 999) (hk : rg k 0 2) (hk0 : k ≠ 0) : zX (rowV f i m v k) := by
  have far : ∀ j, (j < 2 ∨ 434 ≤ j) → rowV f i m v k j = f j := fun j h => rowV_far f v k hi hm h
  refine ⟨RI_putV hX.1 hi hm hv hk hk0, fun d hd => ?_⟩
  rw [far 609 (by omega)] at hd
  have h := hX.2 d hd
  unfold zDX at h ⊢
  rw [far 0 (by omega), far (610 + 9 * d + 6) (by omega), far (610 + 9 * d + 7) (by omega), far (610 + 9 * d + 8) (by omega)]
  exact h
theorem z_put {σ : MI} {b i : Nat} {f : Nat → Int32} (hR : RI f) (hB : zBk σ b f) (hi : (i : Int) < (f 1).toInt) {m : Int32} (hm : mIn m 0 35 = true) (v k : Int32) : zBk (putS σ b i m v k) b (rowV f i m.toNatClampNeg v k) := by
  have h1 := hR.2.1
  have h4 := hR.2.2.1
  unfold rg at h1 h4
  have hi6 : i < 6 := by omega
  have hm36 := clampN (mMx hm)
  have far : ∀ j, (j < 2 ∨ 434 ≤ j) → rowV f i m.toNatClampNeg v k j = f j := fun j h => rowV_far f v k hi6 hm36 h
  have ne : ∀ c, c ≠ 48 + 57 * b + 6 * i → c ≠ 49 + 57 * b + 6 * i → putS σ b i m v k c = σ c := fun c a1 a2 => putS_ne σ m v k a1 a2
  have ep : putS σ b i m v k = s2 (s2 σ (48 + 57 * b + 6 * i) m.toNatClampNeg v) (49 + 57 * b + 6 * i) m.toNatClampNeg k := by
    unfold putS; rw [isMon_mIn, if_pos hm]
  refine ⟨?_, ?_, ?_, ?_, ?_⟩
  · rw [ne _ (by omega) (by omega), far 0 (by omega)]; exact hB.1
  · rw [ne _ (by omega) (by omega), far 1 (by omega)]; exact hB.2.1
  · rw [ne _ (by omega) (by omega), far 494 (by omega)]; exact hB.2.2.1
  · intro a ha
    rw [far 1 (by omega)] at ha
    have hz := hB.ix ha
    refine ⟨fun q hq => ?_, ?_, ?_⟩
    · by_cases hai : a = i ∧ q = m.toNatClampNeg
      · obtain ⟨rfl, rfl⟩ := hai
        rw [rowV_k, rowV_v f v k hi6 hm36, ep, s2_eq, s2_nk _ _ _ (show 48 + 57 * b + 6 * a ≠ 49 + 57 * b + 6 * a by omega), s2_eq]
        exact ⟨rfl, fun _ => rfl⟩
      · rw [rowV_ne f v k (by omega) (by omega), rowV_ne f v k (by omega) (by omega), ep]
        simp only [s2_at]
        rw [if_neg (by omega), if_neg (by omega), if_neg (by omega), if_neg (by omega)]
        exact hz.1 q hq
    · rw [ne _ (by omega) (by omega), far _ (by omega)]; exact hz.2.1
    · intro q hq
      rw [far (434 + 10 * a) (by omega)] at hq
      rw [ne _ (by omega) (by omega), ne _ (by omega) (by omega), ne _ (by omega) (by omega), far _ (by omega), far _ (by omega), far _ (by omega)]
      exact hz.2.2 q hq
  · intro c hc
    rw [far 494 (by omega)] at hc
    have hz := hB.co hc
    refine ⟨fun j hj => ?_, fun q hq => ?_⟩
    · rw [ne _ (by omega) (by omega), far _ (by omega)]; exact hz.1 j hj
    · rw [far (495 + 19 * c + 6) (by omega)] at hq
      rw [ne _ (by omega) (by omega), ne _ (by omega) (by omega), far _ (by omega), far _ (by omega)]
      exact hz.2 q hq
/-- memory that differs in nothing that counts -/
theorem z_same {σ ρ : MI} {b : Nat} {f : Nat → Int32} (hB : zBk σ b f) (h1 : rg (f 1) 0 6) (h4 : rg (f 494) 0 6) (h : ∀ c, 44 + 57 * b ≤ c → c < 101 + 57 * b → (∀ i, c ≠ 48 + 57 * b + 6 * i) → ρ c = σ c)
    (hv : ∀ i m : Nat, (i : Int) < (f 1).toInt → m < 36 → f (218 + 36 * i + m) ≠ 0 → ρ (48 + 57 * b + 6 * i) m = σ (48 + 57 * b + 6 * i) m) (h3 : ∀ c, 83 + 57 * b ≤ c → c < 101 + 57 * b → ρ c = σ c) : zBk ρ b f := by
  unfold rg at h1 h4
  refine ⟨?_, ?_, ?_, ?_, ?_⟩
  · rw [h _ (by omega) (by omega) (fun i => by omega)]; exact hB.1
  · rw [h _ (by omega) (by omega) (fun i => by omega)]; exact hB.2.1
  · rw [h _ (by omega) (by omega) (fun i => by omega)]; exact hB.2.2.1
  · intro a ha
    have hz := hB.ix ha
    refine ⟨fun q hq => ?_, ?_, ?_⟩
    · rw [h (49 + 57 * b + 6 * a) (by omega) (by omega) (fun i => by omega)]
      exact ⟨(hz.1 q hq).1, fun e => by rw [hv a q ha hq e]; exact (hz.1 q hq).2 e⟩
    · rw [h _ (by omega) (by omega) (fun i => by omega)]; exact hz.2.1
    · intro q hq
      rw [h (50 + 57 * b + 6 * a) (by omega) (by omega) (fun i => by omega), h (51 + 57 * b + 6 * a) (by omega) (by omega) (fun i => by omega), h (52 + 57 * b + 6 * a) (by omega) (by omega) (fun i => by omega)]
      exact hz.2.2 q hq
  · intro c hc
    have hz := hB.co hc
    rw [zCo, h3 (83 + 57 * b + 3 * c) (by omega) (by omega), h3 (84 + 57 * b + 3 * c) (by omega) (by omega), h3 (85 + 57 * b + 3 * c) (by omega) (by omega)]
    exact hz
theorem z_keepB {σ ρ : MI} {b : Nat} {f : Nat → Int32} (hB : zBk σ b f) (h1 : rg (f 1) 0 6) (h4 : rg (f 494) 0 6) (h : ∀ c, 44 + 57 * b ≤ c → c < 101 + 57 * b → ρ c = σ c) : zBk ρ b f :=
  z_same hB h1 h4 (fun c a1 a2 _ => h c a1 a2) (fun i m hi _ _ => by unfold rg at h1; rw [h _ (by omega) (by omega)]) (fun c a1 a2 => h c (by omega) a2)
theorem pwB_ne8 (σ : MI) {b i c : Nat} (v : Int32) (h : c ≠ 48 + 57 * b + 6 * i) : pwB σ b i v c = σ c := by
  rw [pwB_eq]
  split
  · rw [s2_nk _ _ _ h]
  · rfl
theorem z_pwB {σ : MI} {b i : Nat} {f : Nat → Int32} (hR : RI f) (hB : zBk σ b f) (hi : i < 6) (v : Int32) : zBk (pwB σ b i v) b f := by
  refine z_same hB hR.2.1 hR.2.2.1 (fun c _ _ hc => pwB_ne8 σ v (hc i)) (fun a m ha hm e => ?_) (fun c a1 a2 => pwB_ne8 σ v (by omega))
  rw [pwB_eq]
  by_cases hmo : isMon (σ (44 + 57 * b) 0) = true
  · rw [if_pos hmo, s2_at]
    by_cases q : 48 + 57 * b + 6 * a = 48 + 57 * b + 6 * i ∧ m = (σ (44 + 57 * b) 0).toNatClampNeg
    · have ea : a = i := by omega
      subst ea
      rw [if_pos q]
      unfold valS
      rw [if_pos hmo, ← q.2, if_neg (by rw [((hB.ix ha).1 m hm).1]; exact e)]
    · rw [if_neg q]
  · rw [if_neg hmo]
theorem z_nowIn {f : Nat → Int32} (hR : RI f) : mIn (f 0) 0 35 = true ∧ cntM (f 0) = (f 0).toNatClampNeg + 1 ∧ (f 0).toNatClampNeg < 36 := by
  have h0 := hR.1
  unfold rg at h0
  have h : mIn (f 0) 0 35 = true := mIn_of (by rw [z0]; omega) (by have : (35 : Int32).toInt = 35 := rfl; omega)
  exact ⟨h, cntM_in h, clampN (mMx h)⟩
theorem z_pwR {σ : MI} {b c i : Nat} {f : Nat → Int32} (hR : RI f) (hB : zBk σ b f) (hi : (i : Int) < (f 1).toInt) (hC : (c : Int) < (f 494).toInt) {v : Int32} (hv : rg v 1 999) : pwR σ b c i v = mPby f c i v := by
  obtain ⟨n1, n2, n3⟩ := z_nowIn hR
  have h1 := hR.2.1
  have h4 := hR.2.2.1
  have hb := (hR.con hC).2.2.1
  have h0 := hR.1
  unfold rg at h1 hb h0 h4
  have hc := clampI (f 0)
  have hi6 : i < 6 := by omega
  have hB2 := z_put hR hB hi n1 v 2
  have hR2 := RI_putV hR (i := i) (m := (f 0).toNatClampNeg) (k := 2) hi6 n3 hv ⟨by decide, by decide⟩ (by decide)
  unfold pwR pwM mPby
  rw [hB.1, z_pf hR2 hB2 (by rw [rowV_far f v 2 hi6 n3 (by omega)]; exact hC) (by rw [rowV_far f v 2 hi6 n3 (by omega), n2]; omega), n2]
  rfl
theorem z_were {σ : MI} {τ : ML} {b : Nat} {f : Nat → Int32} (hb : bz (σ 0 1) = b) (hr : zR σ τ b f) (q x v : Int32) : wereR σ q x v = mWer f q x v := by
  obtain ⟨hB, hL, hX⟩ := hr
  unfold wereR mWer
  rw [hb, hB.2.1, hB.2.2.1, zinI hX.1, zinC hX.1, isVal_mIn]
  cases hq : mIn q 0 (f 494 - 1)
  · simp only [Bool.false_eq_true, ↓reduceIte]
  · cases hx : mIn x 0 (f 1 - 1)
    · simp only [Bool.false_eq_true, ↓reduceIte]
    · cases hv : mIn v 1 999
      · simp only [Bool.false_eq_true, ↓reduceIte]
      · simp only [↓reduceIte]
        exact z_pwR hX.1 hB (mIx hX.1 hx).2 (mCx hX.1 hq).2 (m999 hv)
/-! a price never falls as a value grows -/
theorem mRat_put {f : Nat → Int32} (hR : RI f) {i N : Nat} (hi : i < 6) (hN : N < 36) {a : Int32} (ha : a.toNatClampNeg < 36) {v w : Int32} (hv : rg v 1 999) (hw : rg w 1 999) (hle : v.toInt ≤ w.toInt) (sa : rowV f i N v 2 (218 + 36 * i + a.toNatClampNeg) ≠ 0) : (mRat (rowV f i N v 2) i a (nI N)).toInt ≤ (mRat (rowV f i N w 2) i a (nI N)).toInt := by
  have hRv := RI_putV hR (i := i) (m := N) (k := 2) hi hN hv ⟨by decide, by decide⟩ (by decide)
  have hRw := RI_putV hR (i := i) (m := N) (k := 2) hi hN hw ⟨by decide, by decide⟩ (by decide)
  have ec : (nI N).toNatClampNeg = N := nI_clamp (by omega)
  have ev : rowV f i N v 2 (2 + 36 * i + (nI N).toNatClampNeg) = v := by rw [ec]; exact rowV_v f v 2 hi hN
  have ew : rowV f i N w 2 (2 + 36 * i + (nI N).toNatClampNeg) = w := by rw [ec]; exact rowV_v f w 2 hi hN
  have eb : ∀ u : Int32, rowV f i N u 2 (434 + 10 * i) = f (434 + 10 * i) := fun u => rowV_far f u 2 hi hN (by omega)
  have hbs := hR.base hi
  unfold rg at hbs
  have hcb := clampI (f (434 + 10 * i))
  have em : ∀ u : Int32, mrP (rowV f i N u 2) i a (nI N) 1 1 (f (434 + 10 * i)).toNatClampNeg = mrP f i a (nI N) 1 1 (f (434 + 10 * i)).toNatClampNeg := fun u => mrP_cong a (nI N) 1 1 _ (fun j h1 h2 => rowV_far f u 2 hi hN (by omega))
  have ep : ∀ u : Int32, pR (rowV f i N u 2) i a (nI N) = pR f i a (nI N) := fun u => by unfold pR; rw [eb, em]
  have eq : ∀ u : Int32, qR (rowV f i N u 2) i a (nI N) = qR f i a (nI N) := fun u => by unfold qR; rw [eb, em]
  have sw : rowV f i N w 2 (218 + 36 * i + a.toNatClampNeg) ≠ 0 := by
    by_cases e : a.toNatClampNeg = N
    · rw [e, rowV_k]; decide
    · rw [rowV_ne f w 2 (by omega) (by omega)]
      rw [rowV_ne f v 2 (by omega) (by omega)] at sa
      exact sa
  have nv := (mRat_num hRv hi (a := a) (z := nI N) (hRv.val hi ha sa) (by rw [ev]; exact hv)).1
  have nw := (mRat_num hRw hi (a := a) (z := nI N) (hRw.val hi ha sw) (by rw [ew]; exact hw)).1
  rw [nv, nw, ev, ew, ep, ep, eq, eq]
  obtain ⟨p1, p2, q1, q2⟩ := pq_bd hR hi a (nI N)
  generalize pR f i a (nI N) = P at *
  generalize qR f i a (nI N) = Q at *
  unfold rg at hv hw
  have key : v.toInt * P * 1000000 / ((rowV f i N v 2 (2 + 36 * i + a.toNatClampNeg)).toInt * Q) ≤ w.toInt * P * 1000000 / ((rowV f i N w 2 (2 + 36 * i + a.toNatClampNeg)).toInt * Q) := by
    by_cases e : a.toNatClampNeg = N
    · rw [e, rowV_v f v 2 hi hN, rowV_v f w 2 hi hN, Int.mul_assoc, Int.mul_assoc, Int.mul_ediv_mul_of_pos _ _ (by omega), Int.mul_ediv_mul_of_pos _ _ (by omega)]
      exact Int.le_refl _
    · have hd := hR.val hi ha (m := a.toNatClampNeg) (by rw [rowV_ne f v 2 (by omega) (by omega)] at sa; exact sa)
      rw [rowV_ne f v 2 (by omega) (by omega), rowV_ne f w 2 (by omega) (by omega)]
      unfold rg at hd
      have hpos : 1 * 1 ≤ (f (2 + 36 * i + a.toNatClampNeg)).toInt * Q := Int.mul_le_mul hd.1 q1 (by omega) (by omega)
      have hm : v.toInt * P ≤ w.toInt * P := Int.mul_le_mul_of_nonneg_right hle (by omega)
      exact Int.ediv_le_ediv (by omega) (by omega)
  omega
theorem fZ_mono {f : Nat → Int32} (hR : RI f) {i c : Nat} (hi : i < 6) (hC : (c : Int) < (f 494).toInt) {v w : Int32} (hv : rg v 1 999) (hw : rg w 1 999) (hle : v.toInt ≤ w.toInt) : ∀ k : Nat, (k : Int) ≤ (f (495 + 19 * c + 6)).toInt →
    fZ (rowV f i (f 0).toNatClampNeg v 2) c ((f 0).toNatClampNeg + 1) k ≤ fZ (rowV f i (f 0).toNatClampNeg w 2) c ((f 0).toNatClampNeg + 1) k := by
  obtain ⟨n1, n2, hN⟩ := z_nowIn hR
  have h0 := hR.1
  have h4 := hR.2.2.1
  have hb := (hR.con hC).2.2.1
  have h6 := (hR.con hC).2.2.2.2.2.2.1
  unfold rg at h0 hb h4 h6
  have hc0 := clampI (f 0)
  have hcb := clampI (f (495 + 19 * c + 2))
  have hRv := RI_putV hR (i := i) (m := (f 0).toNatClampNeg) (k := 2) hi hN hv ⟨by decide, by decide⟩ (by decide)
  generalize (f 0).toNatClampNeg = N at *
  have far : ∀ u : Int32, ∀ j, (j < 2 ∨ 434 ≤ j) → rowV f i N u 2 j = f j := fun u j h => rowV_far f u 2 hi hN h
  intro k
  induction k with
  | zero => intro _; rw [fZ, fZ, far v _ (by omega), far w _ (by omega)]; exact Int.le_refl _
  | succ k ih =>
    intro hk
    have ih := ih (by omega)
    have hw7 := ((hR.con hC).2.2.2.2.2.2.2.1 k (by omega)).1
    have tv := z_term hRv (c := c) (n := N + 1) (k := k) (by rw [far v 494 (by omega)]; exact hC) (by omega) (by rw [far v _ (by omega)]; omega) (by rw [far v _ (by omega)]; omega)
    rw [far v (495 + 19 * c + (8 + 2 * k)) (by omega), far v (495 + 19 * c + 2) (by omega)] at tv
    rw [fZ, fZ]
    simp only [far v (495 + 19 * c + (7 + 2 * k)) (by omega), far w (495 + 19 * c + (7 + 2 * k)) (by omega), far v (495 + 19 * c + (8 + 2 * k)) (by omega), far w (495 + 19 * c + (8 + 2 * k)) (by omega), far v (495 + 19 * c + 2) (by omega), far w (495 + 19 * c + 2) (by omega)]
    obtain ⟨t1, -, -, t4, -, -, -⟩ := tv
    generalize (f (495 + 19 * c + (8 + 2 * k))).toNatClampNeg = x at *
    have hr : (mRat (rowV f i N v 2) x (f (495 + 19 * c + 2)) (mKn (rowV f i N v 2) x (N + 1))).toInt ≤ (mRat (rowV f i N w 2) x (f (495 + 19 * c + 2)) (mKn (rowV f i N w 2) x (N + 1))).toInt := by
      by_cases e : x = i
      · subst e
        have kk : ∀ u : Int32, mKn (rowV f x N u 2) x (N + 1) = nI N := fun u => by
          unfold mKn
          rw [kn, if_neg (by rw [rowV_k]; decide)]
        rw [kk, kk]
        exact mRat_put hR t1 hN (by omega) hv hw hle t4
      · have ek : mKn (rowV f i N v 2) x (N + 1) = mKn (rowV f i N w 2) x (N + 1) := kn_cong _ (fun j hj => by
          show rowV f i N v 2 (218 + 36 * x + j) = rowV f i N w 2 (218 + 36 * x + j)
          rw [rowV_ne f v 2 (by omega) (by omega), rowV_ne f w 2 (by omega) (by omega)])
        rw [ek]
        have hin : vp_in (mKn (rowV f i N w 2) x (N + 1)) 36 := by
          rw [← ek]
          exact mKn_ge t4 (by omega) (by omega)
        have hz := clampN hin
        generalize mKn (rowV f i N w 2) x (N + 1) = z at *
        have e2 : ∀ j, j < 36 → rowV f i N v 2 (2 + 36 * x + j) = rowV f i N w 2 (2 + 36 * x + j) := fun j hj => by rw [rowV_ne f v 2 (by omega) (by omega), rowV_ne f w 2 (by omega) (by omega)]
        have hbx := hR.base t1
        unfold rg at hbx
        have hcx := clampI (f (434 + 10 * x))
        unfold mRat
        rw [e2 _ hz, e2 _ (show (f (495 + 19 * c + 2)).toNatClampNeg < 36 by omega), far v (434 + 10 * x) (by omega), far w (434 + 10 * x) (by omega), mrP_cong (f := rowV f i N w 2) (g := rowV f i N v 2) _ _ _ _ _ (fun j h1 h2 => by rw [far v j (by omega), far w j (by omega)])]
        exact Int.le_refl _
    unfold rg at hw7
    have := Int.mul_le_mul_of_nonneg_left hr hw7.1
    omega
theorem mPby_mono {f : Nat → Int32} (hR : RI f) {i c : Nat} (hi : i < 6) (hC : (c : Int) < (f 494).toInt) {v w : Int32} (hv : rg v 1 999) (hw : rg w 1 999) (hle : v.toInt ≤ w.toInt) : (mPby f c i v).toInt ≤ (mPby f c i w).toInt := by
  obtain ⟨n1, n2, hN⟩ := z_nowIn hR
  have q := hR.con hC
  have hb := q.2.2.1
  have h6 := q.2.2.2.2.2.2.1
  have h3 := q.2.2.2.1
  have h5 := q.2.2.2.2.1
  have h00 := q.1
  have h0 := hR.1
  have h4 := hR.2.2.1
  unfold rg at hb h0 h3 h4 h5 h6 h00
  have hc0 := clampI (f 0)
  have hc6 := clampI (f (495 + 19 * c + 6))
  have hRv := RI_putV hR (i := i) (m := (f 0).toNatClampNeg) (k := 2) hi hN hv ⟨by decide, by decide⟩ (by decide)
  have hRw := RI_putV hR (i := i) (m := (f 0).toNatClampNeg) (k := 2) hi hN hw ⟨by decide, by decide⟩ (by decide)
  have hz := fZ_mono hR hi hC hv hw hle (f (495 + 19 * c + 6)).toNatClampNeg (by omega)
  have far : ∀ u : Int32, ∀ j, (j < 2 ∨ 434 ≤ j) → rowV f i (f 0).toNatClampNeg u 2 j = f j := fun u j h => rowV_far f u 2 hi hN h
  have cv : (c : Int) < (rowV f i (f 0).toNatClampNeg v 2 494).toInt := by rw [far v 494 (by omega)]; exact hC
  have cw : (c : Int) < (rowV f i (f 0).toNatClampNeg w 2 494).toInt := by rw [far w 494 (by omega)]; exact hC
  have bv : (rowV f i (f 0).toNatClampNeg v 2 (495 + 19 * c + 2)).toInt < (((f 0).toNatClampNeg + 1 : Nat) : Int) := by rw [far v _ (by omega)]; omega
  have bw' : (rowV f i (f 0).toNatClampNeg w 2 (495 + 19 * c + 2)).toInt < (((f 0).toNatClampNeg + 1 : Nat) : Int) := by rw [far w _ (by omega)]; omega
  show (mPri (rowV f i (f 0).toNatClampNeg v 2) c ((f 0).toNatClampNeg + 1)).toInt ≤ (mPri (rowV f i (f 0).toNatClampNeg w 2) c ((f 0).toNatClampNeg + 1)).toInt
  rw [(mPri_num hRv cv (by omega) bv).1, (mPri_num hRw cw (by omega) bw').1, (mMov_num hRv cv (by omega) bv).1, (mMov_num hRw cw (by omega) bw').1]
  simp only [far v (495 + 19 * c + 0) (by omega), far w (495 + 19 * c + 0) (by omega), far v (495 + 19 * c + 3) (by omega), far w (495 + 19 * c + 3) (by omega), far v (495 + 19 * c + 4) (by omega), far w (495 + 19 * c + 4) (by omega), far v (495 + 19 * c + 5) (by omega), far w (495 + 19 * c + 5) (by omega), far v (495 + 19 * c + 6) (by omega), far w (495 + 19 * c + 6) (by omega)]
  have hd : fZ (rowV f i (f 0).toNatClampNeg v 2) c ((f 0).toNatClampNeg + 1) (f (495 + 19 * c + 6)).toNatClampNeg / 1000 ≤ fZ (rowV f i (f 0).toNatClampNeg w 2) c ((f 0).toNatClampNeg + 1) (f (495 + 19 * c + 6)).toNatClampNeg / 1000 := Int.ediv_le_ediv (by omega) hz
  exact prZ_mono h00.1 (vZ_mono h3.1 h5.1 (by omega))
/-! the least value -/
theorem rs_lin (P : Int32 → Bool) : ∀ n v, (mRsF P n v = -2 ∧ ∀ x, v ≤ x → x < v + n → P (nI x) = false) ∨ ∃ L, v ≤ L ∧ L < v + n ∧ P (nI L) = true ∧ (∀ x, v ≤ x → x < L → P (nI x) = false) ∧ mRsF P n v = nI L
  | 0, v => Or.inl ⟨rfl, fun x h1 h2 => by omega⟩
  | n + 1, v => by
    rw [mRsF]
    by_cases hp : P (nI v) = true
    · rw [if_pos hp]
      exact Or.inr ⟨v, Nat.le_refl v, by omega, hp, fun x h1 h2 => by omega, rfl⟩
    · rw [if_neg hp]
      have hpf : P (nI v) = false := by simpa using hp
      rcases rs_lin P n (v + 1) with ⟨e, h⟩ | ⟨L, h1, h2, h3, h4, h5⟩
      · refine Or.inl ⟨e, fun x h1 h2 => ?_⟩
        rcases (by omega : x = v ∨ v + 1 ≤ x) with q | q
        · rw [q]; exact hpf
        · exact h x q (by omega)
      · refine Or.inr ⟨L, by omega, by omega, h3, fun x g1 g2 => ?_, h5⟩
        rcases (by omega : x = v ∨ v + 1 ≤ x) with q | q
        · rw [q]; exact hpf
        · exact h4 x q g2
theorem bs_find {P : Int32 → Bool} {L : Nat} (hlo : ∀ x, 1 ≤ x → x < L → P (nI x) = false) (hhi : ∀ x, L ≤ x → x ≤ 999 → P (nI x) = true) : ∀ n A H, 1 ≤ A → A ≤ L → L ≤ H → H ≤ 999 → H - A < 2 ^ n → bsS P n (nI A) (nI H) = nI L
  | 0, A, H, h1, h2, h3, h4, h5 => by
    rw [bsS]
    have : H = L := by have : (2 : Nat) ^ 0 = 1 := rfl; omega
    rw [this]
  | n + 1, A, H, h1, h2, h3, h4, h5 => by
    rw [bsS]
    by_cases hle : nI H ≤ nI A
    · rw [if_pos hle]
      rw [i_le, nI_toInt (by omega), nI_toInt (by omega)] at hle
      have : H = L := by omega
      rw [this]
    · rw [if_neg hle]
      rw [i_le, nI_toInt (by omega), nI_toInt (by omega)] at hle
      have em : (nI A + nI H) / 2 = nI ((A + H) / 2) := by rw [nI_add]; exact pk_div (d := 2) (by omega) (by decide) (by decide)
      rw [em]
      have hp : (2 : Nat) ^ (n + 1) = 2 ^ n * 2 := Nat.pow_succ 2 n
      by_cases hm : L ≤ (A + H) / 2
      · rw [if_pos (hhi _ hm (by omega))]
        exact bs_find hlo hhi n A ((A + H) / 2) h1 h2 hm (by omega) (by omega)
      · rw [if_neg (by rw [hlo _ (by omega) (by omega)]; decide), nI_1]
        exact bs_find hlo hhi n ((A + H) / 2 + 1) H (by omega) (by omega) h3 h4 (by omega)
theorem z_rises {σ : MI} {τ : ML} {b : Nat} {f : Nat → Int32} (hb : bz (σ 0 1) = b) (hr : zR σ τ b f) (q x : Int32) : risR σ q x = mRis f q x := by
  obtain ⟨hB, hL, hX⟩ := hr
  unfold risR mRis
  rw [hb, hB.2.1, hB.2.2.1, zinI hX.1, zinC hX.1]
  cases hq : mIn q 0 (f 494 - 1)
  · simp only [Bool.false_eq_true, ↓reduceIte]
  · cases hx : mIn x 0 (f 1 - 1)
    · simp only [Bool.false_eq_true, ↓reduceIte]
    · rw [if_pos rfl, if_pos rfl, if_pos rfl, if_pos rfl]
      have hi := mIx hX.1 hx
      have hc := mCx hX.1 hq
      have hi6 := clampN hi.1
      generalize q.toNatClampNeg = c at *
      generalize x.toNatClampNeg = i at *
      have rgn : ∀ n : Nat, 1 ≤ n → n ≤ 999 → rg (nI n) 1 999 := fun n h1 h2 => by unfold rg; rw [nI_toInt (by omega)]; omega
      have eP : ∀ n : Nat, 1 ≤ n → n ≤ 999 → rsP σ b c i (nI n) = mRsP f c i (nI n) := fun n h1 h2 => by
        unfold rsP mRsP
        rw [z_pwR hX.1 hB hi.2 hc.2 (rgn n h1 h2), (hB.co hc.2).1 0 (by omega)]
      have mono : ∀ n k : Nat, 1 ≤ n → n ≤ k → k ≤ 999 → mRsP f c i (nI n) = true → mRsP f c i (nI k) = true := fun n k h1 h2 h3 h => by
        have hm := mPby_mono hX.1 hi6 hc.2 (rgn n h1 (by omega)) (rgn k (by omega) h3) (by rw [nI_toInt (by omega), nI_toInt (by omega)]; omega)
        unfold mRsP at h ⊢
        by_cases g : mPby f c i (nI n) ≤ f (495 + 19 * c + 0)
        · rw [if_pos g] at h; cases h
        · rw [if_neg (fun g2 => g (by rw [i_le] at g2 ⊢; omega))]
      have e999 : (999 : Int32) = nI 999 := rfl
      rw [e999, eP 999 (by omega) (by omega)]
      rcases rs_lin (mRsP f c i) 999 1 with ⟨e, h⟩ | ⟨L, h1, h2, h3, h4, h5⟩
      · rw [e, h 999 (by omega) (by omega), if_neg Bool.false_ne_true]
      · rw [h5, mono L 999 h1 (by omega) (by omega) h3, if_pos rfl]
        exact bs_find (P := rsP σ b c i) (L := L) (fun y y1 y2 => by rw [eP y y1 (by omega)]; exact h4 y y1 y2) (fun y y1 y2 => by rw [eP y (by omega) y2]; exact mono L y h1 y1 y2 h3) 10 1 999 (by omega) h1 (by omega) (by omega) (by decide)
