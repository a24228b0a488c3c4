/-! ===== moves and prices ===== -/
def hZ (l b far : Int) : Int := if b = 1 then far - 1000 * l else far
def vZ (l b p mv : Int) : Int := if 0 ≤ mv then (if 1000 * l < mv then hZ l b mv * p / 100 else 0) else (if 1000 * l < -mv then -(hZ l b (-mv) * p / 100) else 0)
theorem hZ_rg {l b far : Int} (hl : 0 ≤ l) (h : 1000 * l < far) : 0 ≤ hZ l b far ∧ hZ l b far ≤ far := by
  unfold hZ
  split <;> omega
theorem z_part {x : Int32} {p : Int32} {X : Int} (hx : x.toInt = X) (h0 : 0 ≤ X) (h1 : X ≤ 99999999) (hp : rg p 0 100) : (x.toInt64 * p.toInt64 / 100).toInt32.toInt = X * p.toInt / 100 ∧ 0 ≤ X * p.toInt / 100 ∧ X * p.toInt / 100 ≤ X := by
  unfold rg at hp
  have a0 : 0 * 0 ≤ X * p.toInt := Int.mul_le_mul h0 hp.1 (by omega) (by omega)
  have a1 : X * p.toInt ≤ X * 100 := Int.mul_le_mul_of_nonneg_left hp.2 h0
  have e : (x.toInt64 * p.toInt64).toInt = X * p.toInt := by
    rw [fb_mulL, i64, i64, hx]
    · rw [i64, i64, hx]; omega
    · rw [i64, i64, hx]; omega
  have ec : ((100 : Int64)).toInt = 100 := rfl
  have d := z_div e ec (by omega) (by omega)
  rw [z_to32 d (by omega) (by omega)]
  omega
theorem z_partN {x : Int32} {p : Int32} {X : Int} (hx : x.toInt = -X) (h0 : 0 ≤ X) (h1 : X ≤ 99999999) (hp : rg p 0 100) : (x.toInt64 * p.toInt64 / 100).toInt32.toInt = -(X * p.toInt / 100) := by
  unfold rg at hp
  have a0 : 0 * 0 ≤ X * p.toInt := Int.mul_le_mul h0 hp.1 (by omega) (by omega)
  have a1 : X * p.toInt ≤ X * 100 := Int.mul_le_mul_of_nonneg_left hp.2 h0
  have en : -X * p.toInt = -(X * p.toInt) := Int.neg_mul _ _
  have e : (x.toInt64 * p.toInt64).toInt = -(X * p.toInt) := by
    rw [fb_mulL, i64, i64, hx, en]
    · rw [i64, i64, hx, en]; omega
    · rw [i64, i64, hx, en]; omega
  have ec : ((100 : Int64)).toInt = 100 := rfl
  have d : (x.toInt64 * p.toInt64 / 100).toInt = -(X * p.toInt / 100) := by
    rw [Int64.toInt_div, e, ec, Int.neg_tdiv, Int.tdiv_eq_ediv_of_nonneg (by omega), fb_bmodL (by omega) (by omega)]
  rw [z_to32 d (by omega) (by omega)]
theorem z_lim {lim : Int32} (hl : rg lim 0 999) : (1000 * lim).toInt = 1000 * lim.toInt ∧ (lim * 1000).toInt = 1000 * lim.toInt := by
  unfold rg at hl
  have e : (1000 : Int32).toInt = 1000 := rfl
  have h1 : (1000 * lim).toInt = 1000 * lim.toInt := by rw [fb_mulI (by rw [e]; omega) (by rw [e]; omega), e]
  exact ⟨h1, by rw [Int32.mul_comm]; exact h1⟩
theorem mMv_num {lim bey p mv : Int32} (hl : rg lim 0 999) (hp : rg p 0 100) (hm : rg mv (-1000000) 98999999) : (mMv lim bey p mv).toInt = vZ lim.toInt bey.toInt p.toInt mv.toInt := by
  have el := (z_lim hl).1
  have hl2 := hl
  unfold rg at hm hl2
  have e0 := z0
  have hbe : bey = 1 ↔ bey.toInt = 1 := by rw [i_eq]; exact Iff.rfl
  have key : ∀ far : Int32, 0 ≤ far.toInt → far.toInt ≤ 98999999 → (1000 * lim.toInt < far.toInt) →
      (if bey = 1 then far - 1000 * lim else far).toInt = hZ lim.toInt bey.toInt far.toInt := by
    intro far h0 h1 h2
    unfold hZ
    by_cases q : bey = 1
    · rw [if_pos q, if_pos (hbe.mp q), fb_subI (by omega) (by omega), el]
    · rw [if_neg q, if_neg (fun w => q (hbe.mpr w))]
  have push : ∀ far : Int32, (if bey = 1 then mMp p mv (far - 1000 * lim) else mMp p mv far) = mMp p mv (if bey = 1 then far - 1000 * lim else far) := by
    intro far
    split <;> rfl
  unfold mMv vZ
  by_cases h0 : 0 ≤ mv
  · have h0' := h0
    rw [i_le, e0] at h0'
    rw [if_pos h0, if_pos h0']
    unfold mMw
    by_cases h1 : 1000 * lim < mv
    · have h1' := h1
      rw [i_lt, el] at h1'
      rw [if_pos h1, if_pos h1', push]
      have hk := key mv h0' hm.2 h1'
      have hr := hZ_rg (b := bey.toInt) hl2.1 h1'
      unfold mMp
      rw [if_pos h0]
      exact (z_part hk hr.1 (by omega) hp).1
    · have h1' := h1
      rw [i_lt, el] at h1'
      rw [if_neg h1, if_neg h1']; rfl
  · have h0' := h0
    rw [i_le, e0] at h0'
    have en : (-mv).toInt = -mv.toInt := fb_negI (by omega)
    rw [if_neg h0, if_neg h0']
    unfold mMw
    by_cases h1 : 1000 * lim < -mv
    · have h1' := h1
      rw [i_lt, el, en] at h1'
      rw [if_pos h1, if_pos h1', push]
      have hk := key (-mv) (by omega) (by omega) (by omega)
      rw [en] at hk
      have hr := hZ_rg (b := bey.toInt) hl2.1 h1'
      unfold mMp
      rw [if_neg h0]
      have q := z_part hk hr.1 (by omega) hp
      rw [fb_negI (by rw [q.1]; omega), q.1]
    · have h1' := h1
      rw [i_lt, el, en] at h1'
      rw [if_neg h1, if_neg h1']; rfl
theorem mvS_num {lim bey p fa : Int32} (hl : rg lim 0 999) (hp : rg p 0 100) (hb : rg bey 0 1) (hf : rg fa 0 99999999) : (fa - 1000000).toInt = fa.toInt - 1000000 ∧ (mvS lim p bey fa).toInt = vZ lim.toInt bey.toInt p.toInt (fa.toInt - 1000000) := by
  have el := (z_lim hl).2
  have hl2 := hl
  unfold rg at hf hl2 hb
  have e0 := z0
  have eM : (1000000 : Int32).toInt = 1000000 := rfl
  have ef : (fa - 1000000).toInt = fa.toInt - 1000000 := by rw [fb_subI (by omega) (by omega), eM]
  refine ⟨ef, ?_⟩
  unfold mvS vZ
  generalize fa - 1000000 = ch at *
  rw [← ef]
  have hbe : bey = 0 ↔ ¬ bey.toInt = 1 := by rw [i_eq, e0]; omega
  have eA : (mvA ch).toInt = if 0 ≤ ch.toInt then ch.toInt else -ch.toInt := by
    unfold mvA
    by_cases q : 0 ≤ ch
    · have q' := q
      rw [i_le, e0] at q'
      rw [if_pos q, if_pos q']
    · have q' := q
      rw [i_le, e0] at q'
      rw [if_neg q, if_neg q', fb_subI (by omega) (by omega), e0]; omega
  by_cases h0 : 0 ≤ ch
  · have h0' := h0
    rw [i_le, e0] at h0'
    rw [if_pos h0'] at eA
    rw [if_pos h0']
    by_cases h1 : lim * 1000 < mvA ch
    · have h1' := h1
      rw [i_lt, el, eA] at h1'
      rw [if_pos h1, if_pos h1']
      have hr := hZ_rg (b := bey.toInt) hl2.1 h1'
      unfold hZ at hr ⊢
      by_cases q : bey = 0
      · rw [if_pos q, if_neg (hbe.mp q)]
        exact (z_part rfl h0' (by omega) hp).1
      · have q1 : bey.toInt = 1 := Decidable.not_not.mp (fun w => q (hbe.mpr w))
        rw [if_neg q, if_pos h0, if_pos q1]
        rw [if_pos q1] at hr
        have en : (-(lim * 1000)).toInt = -(1000 * lim.toInt) := by rw [fb_negI (by omega), el]
        have es : (ch + -(lim * 1000)).toInt = ch.toInt - 1000 * lim.toInt := by rw [fb_addI (by omega) (by omega), en]; omega
        exact (z_part es hr.1 (by omega) hp).1
    · have h1' := h1
      rw [i_lt, el, eA] at h1'
      rw [if_neg h1, if_neg h1']; rfl
  · have h0' := h0
    rw [i_le, e0] at h0'
    rw [if_neg h0'] at eA
    rw [if_neg h0']
    by_cases h1 : lim * 1000 < mvA ch
    · have h1' := h1
      rw [i_lt, el, eA] at h1'
      rw [if_pos h1, if_pos h1']
      have hr := hZ_rg (b := bey.toInt) hl2.1 h1'
      unfold hZ at hr ⊢
      by_cases q : bey = 0
      · rw [if_pos q, if_neg (hbe.mp q)]
        exact z_partN (by omega) (by omega) (by omega) hp
      · have q1 : bey.toInt = 1 := Decidable.not_not.mp (fun w => q (hbe.mpr w))
        rw [if_neg q, if_neg h0, if_pos q1]
        rw [if_pos q1] at hr
        have es : (ch + lim * 1000).toInt = -(-ch.toInt - 1000 * lim.toInt) := by rw [fb_addI (by omega) (by omega), el]; omega
        exact z_partN es hr.1 (by omega) hp
    · have h1' := h1
      rw [i_lt, el, eA] at h1'
      rw [if_neg h1, if_neg h1']; rfl
theorem vZ_rg {l b p mv : Int} (hl : 0 ≤ l) (hp0 : 0 ≤ p) (hp : p ≤ 100) (h0 : -1000000 ≤ mv) (h1 : mv ≤ 98999999) : -1000000 ≤ vZ l b p mv ∧ vZ l b p mv ≤ 98999999 := by
  have key : ∀ X : Int, 0 ≤ X → 0 ≤ X * p / 100 ∧ X * p / 100 ≤ X := by
    intro X hX
    have a0 : 0 * 0 ≤ X * p := Int.mul_le_mul hX hp0 (by omega) (by omega)
    have a1 : X * p ≤ X * 100 := Int.mul_le_mul_of_nonneg_left hp hX
    omega
  unfold vZ
  by_cases q : 0 ≤ mv
  · rw [if_pos q]
    by_cases w : 1000 * l < mv
    · rw [if_pos w]
      have hr := hZ_rg (b := b) hl w
      have := key _ hr.1
      omega
    · rw [if_neg w]; omega
  · rw [if_neg q]
    by_cases w : 1000 * l < -mv
    · rw [if_pos w]
      have hr := hZ_rg (b := b) hl w
      have := key _ hr.1
      omega
    · rw [if_neg w]; omega
theorem vZ_mono {l b p x y : Int} (hl : 0 ≤ l) (hp0 : 0 ≤ p) (h : x ≤ y) : vZ l b p x ≤ vZ l b p y := by
  have pos : ∀ X : Int, 0 ≤ X → 0 ≤ X * p / 100 := by
    intro X hX
    have a0 : 0 * 0 ≤ X * p := Int.mul_le_mul hX hp0 (by omega) (by omega)
    omega
  have mon : ∀ X Y : Int, X ≤ Y → X * p / 100 ≤ Y * p / 100 := by
    intro X Y hXY
    exact Int.ediv_le_ediv (by omega) (Int.mul_le_mul_of_nonneg_right hXY hp0)
  have hm : ∀ X Y : Int, X ≤ Y → hZ l b X ≤ hZ l b Y := by
    intro X Y hXY
    unfold hZ
    split <;> omega
  unfold vZ
  by_cases q : 0 ≤ x
  · have q2 : 0 ≤ y := by omega
    rw [if_pos q, if_pos q2]
    by_cases w : 1000 * l < x
    · rw [if_pos w, if_pos (show 1000 * l < y by omega)]
      exact mon _ _ (hm _ _ h)
    · rw [if_neg w]
      by_cases w2 : 1000 * l < y
      · rw [if_pos w2]; exact pos _ (hZ_rg hl w2).1
      · rw [if_neg w2]; exact Int.le_refl _
  · rw [if_neg q]
    by_cases q2 : 0 ≤ y
    · rw [if_pos q2]
      have a : (if 1000 * l < -x then -(hZ l b (-x) * p / 100) else 0) ≤ 0 := by
        by_cases w : 1000 * l < -x
        · rw [if_pos w]
          have := pos _ (hZ_rg (b := b) hl w).1
          omega
        · rw [if_neg w]; exact Int.le_refl _
      have c : 0 ≤ (if 1000 * l < y then hZ l b y * p / 100 else 0) := by
        by_cases w : 1000 * l < y
        · rw [if_pos w]; exact pos _ (hZ_rg (b := b) hl w).1
        · rw [if_neg w]; exact Int.le_refl _
      omega
    · rw [if_neg q2]
      by_cases w : 1000 * l < -y
      · rw [if_pos w, if_pos (show 1000 * l < -x by omega)]
        have := mon _ _ (hm (-y) (-x) (by omega))
        omega
      · rw [if_neg w]
        by_cases w2 : 1000 * l < -x
        · rw [if_pos w2]
          have := pos _ (hZ_rg (b := b) hl w2).1
          omega
        · rw [if_neg w2]; exact Int.le_refl _
/-- a price -/
def prZ (p mv : Int) : Int := (p * (1000000 + mv) + 500000) / 1000000
theorem prZ_rg {p mv : Int} (h1 : 1 ≤ p) (h2 : p ≤ 9999) (h3 : -1000000 ≤ mv) (h4 : mv ≤ 98999999) : 0 ≤ p * (1000000 + mv) ∧ p * (1000000 + mv) ≤ 999899990001 ∧ 0 ≤ prZ p mv ∧ prZ p mv ≤ 1000000 := by
  have a0 : 0 * 0 ≤ p * (1000000 + mv) := Int.mul_le_mul (by omega) (by omega) (by omega) (by omega)
  have a1 : p * (1000000 + mv) ≤ 9999 * 99999999 := Int.mul_le_mul h2 (by omega) (by omega) (by omega)
  unfold prZ
  omega
theorem prZ_mono {p x y : Int} (h1 : 1 ≤ p) (h : x ≤ y) : prZ p x ≤ prZ p y := by
  unfold prZ
  have : p * (1000000 + x) ≤ p * (1000000 + y) := Int.mul_le_mul_of_nonneg_left (by omega) (by omega)
  exact Int.ediv_le_ediv (by omega) (by omega)
theorem z_prc {p : Int32} {M : Int64} {m : Int} (hp : rg p 1 9999) (hM : M.toInt = 1000000 + m) (h3 : -1000000 ≤ m) (h4 : m ≤ 98999999) : ((p.toInt64 * M + 500000) / 1000000).toInt32.toInt = prZ p.toInt m := by
  unfold rg at hp
  have q := prZ_rg hp.1 hp.2 h3 h4
  have e1 : (p.toInt64 * M).toInt = p.toInt * (1000000 + m) := by
    rw [fb_mulL, i64, hM]
    · rw [i64, hM]; omega
    · rw [i64, hM]; omega
  have e5 : ((500000 : Int64)).toInt = 500000 := rfl
  have em : ((1000000 : Int64)).toInt = 1000000 := rfl
  have e2 : (p.toInt64 * M + 500000).toInt = p.toInt * (1000000 + m) + 500000 := by
    rw [fb_addL, e1, e5]
    · rw [e1, e5]; omega
    · rw [e1, e5]; omega
  have d := z_div e2 em (by omega) (by omega)
  unfold prZ at q ⊢
  rw [z_to32 d (by omega) (by omega)]
theorem mMov_num {f : Nat → Int32} (hR : RI f) {c n : Nat} (hC : (c : Int) < (f 494).toInt) (hn : n ≤ 36) (hb : (f (495 + 19 * c + 2)).toInt < n) :
    (mMov f c n).toInt = vZ (f (495 + 19 * c + 3)).toInt (f (495 + 19 * c + 5)).toInt (f (495 + 19 * c + 4)).toInt (fZ f c n (f (495 + 19 * c + 6)).toNatClampNeg / 1000 - 1000000) ∧ -1000000 ≤ (mMov f c n).toInt ∧ (mMov f c n).toInt ≤ 98999999 := by
  have q := hR.con hC
  have hf := mFac_num hR hC hn hb
  have hr := hf.2
  unfold rg at hr
  have eM : (1000000 : Int32).toInt = 1000000 := rfl
  have ef : (mFac f c n - 1000000).toInt = (mFac f c n).toInt - 1000000 := by rw [fb_subI (by omega) (by omega), eM]
  have e : (mMov f c n).toInt = vZ (f (495 + 19 * c + 3)).toInt (f (495 + 19 * c + 5)).toInt (f (495 + 19 * c + 4)).toInt (fZ f c n (f (495 + 19 * c + 6)).toNatClampNeg / 1000 - 1000000) := by
    unfold mMov
    rw [mMv_num q.2.2.2.1 q.2.2.2.2.1 ⟨by omega, by omega⟩, ef, hf.1]
  refine ⟨e, ?_⟩
  have h3 := q.2.2.2.1
  have h4 := q.2.2.2.2.1
  unfold rg at h3 h4
  rw [e, ← hf.1]
  exact vZ_rg h3.1 h4.1 h4.2 (by omega) (by omega)
theorem mPri_num {f : Nat → Int32} (hR : RI f) {c n : Nat} (hC : (c : Int) < (f 494).toInt) (hn : n ≤ 36) (hb : (f (495 + 19 * c + 2)).toInt < n) : (mPri f c n).toInt = prZ (f (495 + 19 * c + 0)).toInt (mMov f c n).toInt ∧ rg (mPri f c n) 0 1000000 := by
  have q := hR.con hC
  have hm := (mMov_num hR hC hn hb).2
  have em : ((1000000 : Int64)).toInt = 1000000 := rfl
  have e : (1000000 + (mMov f c n).toInt64).toInt = 1000000 + (mMov f c n).toInt := by
    rw [fb_addL, em, i64]
    · rw [em, i64]; omega
    · rw [em, i64]; omega
  have e2 : (mPri f c n).toInt = prZ (f (495 + 19 * c + 0)).toInt (mMov f c n).toInt := by
    unfold mPri
    exact z_prc q.1 e hm.1 hm.2
  have hp := q.1
  unfold rg at hp
  have := prZ_rg hp.1 hp.2 hm.1 hm.2
  exact ⟨e2, by rw [e2]; exact this.2.2.1, by rw [e2]; exact this.2.2.2⟩
/-- the class's move and price are the reference's -/
theorem z_move {σ : MI} {b : Nat} {f : Nat → Int32} (hR : RI f) (hB : zBk σ b f) {c : Nat} {m : Int32} (hC : (c : Int) < (f 494).toInt) (hb : (f (495 + 19 * c + 2)).toInt < (cntM m : Int)) : mvS (σ (83 + 57 * b + 3 * c) 3) (σ (83 + 57 * b + 3 * c) 4) (σ (83 + 57 * b + 3 * c) 5) (facS σ b c m) = mMov f c (cntM m) := by
  have q := hR.con hC
  have hco := hB.co hC
  have hf := mFac_num hR hC (cntM_le m) hb
  rw [z_fac hR hB hC hb, hco.1 3 (by omega), hco.1 4 (by omega), hco.1 5 (by omega), i_eq, (mMov_num hR hC (cntM_le m) hb).1, (mvS_num q.2.2.2.1 q.2.2.2.2.1 q.2.2.2.2.2.1 hf.2).2, hf.1]
theorem z_price {σ : MI} {b : Nat} {f : Nat → Int32} (hR : RI f) (hB : zBk σ b f) {c : Nat} {m : Int32} (hC : (c : Int) < (f 494).toInt) (hb : (f (495 + 19 * c + 2)).toInt < (cntM m : Int)) : prS (σ (83 + 57 * b + 3 * c) 0) (mMov f c (cntM m)) = mPri f c (cntM m) := by
  have q := hR.con hC
  have hm := (mMov_num hR hC (cntM_le m) hb).2
  have eM : (1000000 : Int32).toInt = 1000000 := rfl
  have e : ((1000000 : Int32) + mMov f c (cntM m)).toInt64.toInt = 1000000 + (mMov f c (cntM m)).toInt := by
    rw [i64, fb_addI (by omega) (by omega), eM]
  rw [(hB.co hC).1 0 (by omega), i_eq, (mPri_num hR hC (cntM_le m) hb).1]
  unfold prS
  exact z_prc q.1 e hm.1 hm.2
theorem z_pf {σ : MI} {b : Nat} {f : Nat → Int32} (hR : RI f) (hB : zBk σ b f) {c : Nat} {m : Int32} (hC : (c : Int) < (f 494).toInt) (hb : (f (495 + 19 * c + 2)).toInt < (cntM m : Int)) : pfS σ b c m = mPri f c (cntM m) := by
  unfold pfS
  rw [z_move hR hB hC hb, z_price hR hB hC hb]
theorem z_wai {σ : MI} {b : Nat} {f : Nat → Int32} (hR : RI f) (hB : zBk σ b f) {c : Nat} {m : Int32} (hC : (c : Int) < (f 494).toInt) (hm : mIn m 0 35 = true) : ∀ k : Nat, (k : Int) ≤ (f (495 + 19 * c + 6)).toInt → waP σ b c m k = mWa f c m.toNatClampNeg k
  | 0, _ => rfl
  | k + 1, hk => by
    have ih := z_wai hR hB hC hm k (by omega)
    obtain ⟨c1, c2⟩ := (hB.co hC).2 k (by omega)
    have h8 := (hR.con hC).2.2.2.2.2.2.2.1 k (by omega)
    have h1 := hR.2.1
    unfold rg at h1
    have hcx := clampI (f (495 + 19 * c + (8 + 2 * k)))
    have h82 := h8.2
    have hin : inC (σ (85 + 57 * b + 3 * c) k) (σ (44 + 57 * b) 1) 6 = true := by
      rw [c2, hB.2.1, zinI hR]
      cases w : mIn (f (495 + 19 * c + (8 + 2 * k))) 0 (f 1 - 1)
      · have := mIn_f w
        rw [sub1 hR.2.1.1] at this
        have e0 := z0
        omega
      · rfl
    rw [waP, if_pos hin, mWa, ih, c1, c2, z_kind (hB.ix (by omega)) hm]
theorem z_waS {σ : MI} {b : Nat} {f : Nat → Int32} (hR : RI f) (hB : zBk σ b f) {c m : Int32} (hC : mIn c 0 (f 494 - 1) = true) (hm : mIn m 0 35 = true) : waS σ b c m = mWa f c.toNatClampNeg m.toNatClampNeg (f (495 + 19 * c.toNatClampNeg + 6)).toNatClampNeg := by
  have hcx := (mCx hR hC).2
  have h6 := (hR.con hcx).2.2.2.2.2.2.1
  unfold rg at h6
  unfold waS
  rw [hB.2.2.1, zinC hR, if_pos hC, (hB.co hcx).1 6 (by omega), kmin_eq (by exact h6.2), z_wai hR hB hcx hm _ (by have := clampI (f (495 + 19 * c.toNatClampNeg + 6)); omega)]
