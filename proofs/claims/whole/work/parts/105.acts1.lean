/-! ===== rows that agree; publish, rebase ===== -/
theorem zX_agree {f g : Nat → Int32} (hX : zX f) (h : ∀ j, j < 880 → g j = f j) : zX g := by
  have h9 := hX.1.2.2.2.1
  unfold rg at h9
  have hc := clampI (f 609)
  refine ⟨RI_agree hX.1 (fun j hj => h j (by omega)), fun d hd => ?_⟩
  rw [h 609 (by omega)] at hd
  have q := hX.2 d hd
  unfold zDX at q ⊢
  rw [h 0 (by omega), h (610 + 9 * d + 6) (by omega), h (610 + 9 * d + 7) (by omega), h (610 + 9 * d + 8) (by omega)]
  exact q
theorem zBk_agree {σ : MI} {b : Nat} {f g : Nat → Int32} (hR : RI f) (hB : zBk σ b f) (h : ∀ j, (j < 2 ∨ 218 ≤ j) → j < 609 → g j = f j) (hv : ∀ i m, i < 6 → m < 36 → f (218 + 36 * i + m) ≠ 0 → g (2 + 36 * i + m) = f (2 + 36 * i + m)) : zBk σ b g := by
  have h1 := hR.2.1
  have h4 := hR.2.2.1
  unfold rg at h1 h4
  refine ⟨by rw [h 0 (by omega) (by omega)]; exact hB.1, by rw [h 1 (by omega) (by omega)]; exact hB.2.1, by rw [h 494 (by omega) (by omega)]; exact hB.2.2.1, fun i hi => ?_, fun c hc => ?_⟩
  · rw [h 1 (by omega) (by omega)] at hi
    have hz := hB.ix hi
    have hb := hR.base (i := i) (by omega)
    unfold rg at hb
    refine ⟨fun m hm => ?_, by rw [h _ (by omega) (by omega)]; exact hz.2.1, fun k hk => ?_⟩
    · rw [h (218 + 36 * i + m) (by omega) (by omega)]
      exact ⟨(hz.1 m hm).1, fun e => by rw [hv i m (by omega) hm e]; exact (hz.1 m hm).2 e⟩
    · rw [h (434 + 10 * i) (by omega) (by omega)] at hk
      rw [h _ (by omega) (by omega), h _ (by omega) (by omega), h _ (by omega) (by omega)]
      exact hz.2.2 k hk
  · rw [h 494 (by omega) (by omega)] at hc
    have hz := hB.co hc
    have h6 := (hR.con hc).2.2.2.2.2.2.1
    unfold rg at h6
    refine ⟨fun j hj => by rw [h _ (by omega) (by omega)]; exact hz.1 j hj, fun k hk => ?_⟩
    rw [h (495 + 19 * c + 6) (by omega) (by omega)] at hk
    rw [h _ (by omega) (by omega), h _ (by omega) (by omega)]
    exact hz.2 k hk
theorem zLe_agree {σ : MI} {τ : ML} {f g : Nat → Int32} (hR : RI f) (hL : zLe σ τ f) (h : ∀ j, 609 ≤ j → j < 880 → g j = f j) : zLe σ τ g := by
  have h9 := hR.2.2.2.1
  unfold rg at h9
  refine ⟨by rw [h 609 (by omega) (by omega)]; exact hL.1, fun d hd => ?_⟩
  rw [h 609 (by omega) (by omega)] at hd
  have hz := hL.de hd
  exact ⟨fun j hj => by rw [h _ (by omega) (by omega)]; exact hz.1 j hj, by rw [h _ (by omega) (by omega)]; exact hz.2.1, by rw [h _ (by omega) (by omega)]; exact hz.2.2⟩
theorem zR_agree {σ : MI} {τ : ML} {b : Nat} {f g : Nat → Int32} (hr : zR σ τ b f) (h : ∀ j, j < 880 → g j = f j) : zR σ τ b g :=
  ⟨zBk_agree hr.2.2.1 hr.1 (fun j _ hj => h j (by omega)) (fun i m hi hm _ => h _ (by omega)), zLe_agree hr.2.2.1 hr.2.1 (fun j _ hj => h j hj), zX_agree hr.2.2 h⟩
theorem z_keepL {σ ρ : MI} {τ υ : ML} {f : Nat → Int32} (hL : zLe σ τ f) (h9 : rg (f 609) 0 30) (h : ∀ c, 12 ≤ c → c < 44 → ρ c = σ c) (ht : ∀ d, d < 30 → υ (14 + d) 7 = τ (14 + d) 7) : zLe ρ υ f := by
  unfold rg at h9
  refine ⟨by rw [h 12 (by omega) (by omega)]; exact hL.1, fun d hd => ?_⟩
  have hz := hL.de hd
  rw [zDe, h (14 + d) (by omega) (by omega), ht d (by omega)]
  exact hz
theorem z_pastIn {f : Nat → Int32} (hR : RI f) {m : Int32} (h : mIn m 0 (f 0) = true) : mIn m 0 35 = true := by
  have h1 := mIn_t h
  have h0 := hR.1
  unfold rg at h0
  exact mIn_of h1.1 (by have : (35 : Int32).toInt = 35 := rfl; omega)
theorem z_pubA {σ : MI} {b i : Nat} {f : Nat → Int32} (hb : bz (σ 0 1) = b) (h : zIx σ b i f) {m : Int32} (hm : mIn m 0 35 = true) : pubA σ i m = if f (218 + 36 * i + m.toNatClampNeg) = 0 then 0 else f (2 + 36 * i + m.toNatClampNeg) := by
  unfold pubA
  rw [hb, z_kind h hm, z_val h hm]
  by_cases e : f (218 + 36 * i + m.toNatClampNeg) = 0
  · rw [if_pos e, if_pos e]
  · rw [if_neg e, if_neg e, if_neg e]
/-- publish: what both answer, and what is written -/
theorem z_publish {σ : MI} {τ : ML} {b : Nat} {f : Nat → Int32} (hb : bz (σ 0 1) = b) (hr : zR σ τ b f) (x m v : Int32) (fin : Bool) :
    pubR σ x m v = mPbR f x m v ∧ (mPbC f x m v ≠ 1 → pubM σ x m v fin = σ) ∧
    (mPbC f x m v = 1 → mIn x 0 (f 1 - 1) = true ∧ mIn m 0 35 = true ∧ rg v 1 999 ∧
      pubM σ x m v fin = putS (keepS σ 0 x m (if f (218 + 36 * x.toNatClampNeg + m.toNatClampNeg) = 0 then 0 else f (2 + 36 * x.toNatClampNeg + m.toNatClampNeg)) (f (218 + 36 * x.toNatClampNeg + m.toNatClampNeg))) b x.toNatClampNeg m v (if fin = true then 2 else 1)) := by
  obtain ⟨hB, hL, hX⟩ := hr
  unfold pubR pubM mPbR mPbC
  rw [hb, hB.2.1, hB.1, zinI hX.1, isPast_mIn, isVal_mIn]
  cases hx : mIn x 0 (f 1 - 1)
  · simp only [Bool.false_eq_true, ↓reduceIte, n11]
    exact ⟨(by first | exact trivial | rfl), fun _ => (by first | exact trivial | rfl), fun h => absurd h (by decide)⟩
  · cases hm : mIn m 0 (f 0)
    · simp only [Bool.false_eq_true, ↓reduceIte, n11]
      exact ⟨(by first | exact trivial | rfl), fun _ => (by first | exact trivial | rfl), fun h => absurd h (by decide)⟩
    · cases hv : mIn v 1 999
      · simp only [Bool.false_eq_true, ↓reduceIte, n11]
        exact ⟨(by first | exact trivial | rfl), fun _ => (by first | exact trivial | rfl), fun h => absurd h (by decide)⟩
      · have hi := mIx hX.1 hx
        have hz := hB.ix hi.2
        have hm2 := z_pastIn hX.1 hm
        rw [z_kind hz hm2, z_late hX.1 (clampN hi.1) hz, z_pubA hb hz hm2]
        simp only [↓reduceIte]
        by_cases e2 : f (218 + 36 * x.toNatClampNeg + m.toNatClampNeg) = 2
        · simp only [e2, ↓reduceIte, n21]
          exact ⟨(by first | exact trivial | rfl), fun _ => (by first | exact trivial | rfl), fun h => absurd h (by decide)⟩
        · simp only [e2, ↓reduceIte]
          by_cases hl : mLate f x.toNatClampNeg < m
          · simp only [hl, ↓reduceIte]
            exact ⟨(by first | exact trivial | rfl), fun h => absurd (by first | exact trivial | rfl) h, fun _ => ⟨(by first | exact trivial | rfl), hm2, m999 hv, (by first | exact trivial | rfl)⟩⟩
          · simp only [hl, ↓reduceIte, n31]
            exact ⟨(by first | exact trivial | rfl), fun _ => (by first | exact trivial | rfl), fun h => absurd h (by decide)⟩
theorem z_publishM {σ : MI} {τ : ML} {b : Nat} {f : Nat → Int32} (hb2 : b < 2) (hr : zR σ τ b f) {x m v : Int32} (hx : mIn x 0 (f 1 - 1) = true) (hm : mIn m 0 35 = true) (hv : rg v 1 999) (a1 a2 a3 a4 a5 : Int32) (fin : Bool) :
    zR (putS (keepS σ a1 a2 a3 a4 a5) b x.toNatClampNeg m v (if fin = true then 2 else 1)) τ b (rowV f x.toNatClampNeg m.toNatClampNeg v (if fin = true then 2 else 1)) := by
  obtain ⟨hB, hL, hX⟩ := hr
  have hi := mIx hX.1 hx
  have hi6 := clampN hi.1
  have hm36 := clampN (mMx hm)
  refine ⟨z_put hX.1 (z_keepB hB hX.1.2.1 hX.1.2.2.1 (fun c h1 h2 => keepS_ne σ a1 a2 a3 a4 a5 (by omega))) hi.2 hm v _, ?_, ?_⟩
  · refine zLe_agree hX.1 (z_keepL hL hX.1.2.2.2.1 (fun c h1 h2 => ?_) (fun d _ => rfl)) (fun j h1 h2 => rowV_far f v _ hi6 hm36 (by omega))
    rw [putS_ne _ _ _ _ (by omega) (by omega), keepS_ne σ a1 a2 a3 a4 a5 (by omega)]
  · refine zX_putV hX hi6 hm36 hv ?_ ?_
    · cases fin <;> exact ⟨by decide, by decide⟩
    · cases fin <;> decide
/-- rebase -/
def rowB (f : Nat → Int32) (i : Nat) (m o v : Int32) : Nat → Int32 := upd (upd (upd (upd f (434 + 10 * i + 1 + 3 * (f (434 + 10 * i)).toNatClampNeg + 0) m) (434 + 10 * i + 1 + 3 * (f (434 + 10 * i)).toNatClampNeg + 1) o) (434 + 10 * i + 1 + 3 * (f (434 + 10 * i)).toNatClampNeg + 2) v) (434 + 10 * i) (f (434 + 10 * i) + 1)
theorem rowB_ne (f : Nat → Int32) {i j : Nat} (m o v : Int32) (h : j ≠ 434 + 10 * i) (h2 : ∀ e, e < 3 → j ≠ 434 + 10 * i + 1 + 3 * (f (434 + 10 * i)).toNatClampNeg + e) : rowB f i m o v j = f j := by
  have q0 := h2 0 (by omega)
  have q1 := h2 1 (by omega)
  have q2 := h2 2 (by omega)
  simp only [rowB, upd, if_neg h, if_neg q0, if_neg q1, if_neg q2]
theorem z_rebase {σ : MI} {τ : ML} {b : Nat} {f : Nat → Int32} (hb : bz (σ 0 1) = b) (hr : zR σ τ b f) (x m v : Int32) :
    rebR σ x m v = mRbR f x m v ∧ (mRbC f x m v ≠ 1 → rebM σ x m v = σ) ∧
    (mRbC f x m v = 1 → mIn x 0 (f 1 - 1) = true ∧ mIn m 0 35 = true ∧ rg v 1 999 ∧ f (218 + 36 * x.toNatClampNeg + m.toNatClampNeg) = 2 ∧ (f (434 + 10 * x.toNatClampNeg)).toInt < 3 ∧
      rebM σ x m v = keepS (addRS σ b x.toNatClampNeg m v) 1 x m 0 0) := by
  obtain ⟨hB, hL, hX⟩ := hr
  unfold rebR rebM mRbR mRbC
  rw [hb, hB.2.1, hB.1, zinI hX.1, isPast_mIn, isVal_mIn]
  cases hx : mIn x 0 (f 1 - 1)
  · simp only [Bool.false_eq_true, ↓reduceIte, n11]
    exact ⟨(by first | exact trivial | rfl), fun _ => (by first | exact trivial | rfl), fun h => absurd h (by decide)⟩
  · cases hm : mIn m 0 (f 0)
    · simp only [Bool.false_eq_true, ↓reduceIte, n11]
      exact ⟨(by first | exact trivial | rfl), fun _ => (by first | exact trivial | rfl), fun h => absurd h (by decide)⟩
    · cases hv : mIn v 1 999
      · simp only [Bool.false_eq_true, ↓reduceIte, n11]
        exact ⟨(by first | exact trivial | rfl), fun _ => (by first | exact trivial | rfl), fun h => absurd h (by decide)⟩
      · have hi := mIx hX.1 hx
        have hz := hB.ix hi.2
        have hm2 := z_pastIn hX.1 hm
        have hbs := hX.1.base (clampN hi.1)
        unfold rg at hbs
        have e35 : cntM 35 = 36 := by decide
        rw [z_kind hz hm2, z_late hX.1 (clampN hi.1) hz, z_known hz, e35, hz.2.1]
        simp only [↓reduceIte]
        by_cases e2 : f (218 + 36 * x.toNatClampNeg + m.toNatClampNeg) = 2
        · simp only [e2, ↓reduceIte]
          by_cases hl : m ≤ mLate f x.toNatClampNeg
          · simp only [hl, ↓reduceIte, n31]
            exact ⟨(by first | exact trivial | rfl), fun _ => (by first | exact trivial | rfl), fun h => absurd h (by decide)⟩
          · simp only [hl, ↓reduceIte]
            by_cases hk : mKn f x.toNatClampNeg 36 ≤ m
            · simp only [hk, ↓reduceIte]
              have e3 : (3 : Int32).toInt = 3 := rfl
              by_cases h3 : f (434 + 10 * x.toNatClampNeg) = 3
              · simp only [h3, ↓reduceIte, n41]
                exact ⟨(by first | exact trivial | rfl), fun _ => (by first | exact trivial | rfl), fun h => absurd h (by decide)⟩
              · have h3' : (f (434 + 10 * x.toNatClampNeg)).toInt ≠ 3 := fun w => h3 ((i_eq _ _).mpr w)
                have hlt : f (434 + 10 * x.toNatClampNeg) < 3 := by rw [i_lt]; omega
                simp only [h3, hlt, ↓reduceIte]
                refine ⟨?_, fun h => absurd (by first | exact trivial | rfl) h, fun _ => ⟨(by first | exact trivial | rfl), hm2, m999 hv, (by first | exact trivial | rfl), by omega, (by first | exact trivial | rfl)⟩⟩
                unfold addRS
                rw [hz.2.1, if_neg (by rw [i_lt, z0]; omega), if_neg (by rw [i_le]; omega), s2_eq]
            · simp only [hk, ↓reduceIte, n31]
              exact ⟨(by first | exact trivial | rfl), fun _ => (by first | exact trivial | rfl), fun h => absurd h (by decide)⟩
        · simp only [e2, ↓reduceIte, n21]
          exact ⟨(by first | exact trivial | rfl), fun _ => (by first | exact trivial | rfl), fun h => absurd h (by decide)⟩
theorem rowB_at (f : Nat → Int32) {i : Nat} (m o v : Int32) : rowB f i m o v (434 + 10 * i) = f (434 + 10 * i) + 1 ∧ rowB f i m o v (434 + 10 * i + 1 + 3 * (f (434 + 10 * i)).toNatClampNeg + 0) = m ∧ rowB f i m o v (434 + 10 * i + 1 + 3 * (f (434 + 10 * i)).toNatClampNeg + 1) = o ∧ rowB f i m o v (434 + 10 * i + 1 + 3 * (f (434 + 10 * i)).toNatClampNeg + 2) = v := by
  refine ⟨by simp only [rowB, upd, ↓reduceIte], ?_, ?_, ?_⟩
  · simp only [rowB, upd]
    rw [if_neg (by omega), if_neg (by omega), if_neg (by omega), if_pos trivial]
  · simp only [rowB, upd]
    rw [if_neg (by omega), if_neg (by omega), if_pos trivial]
  · simp only [rowB, upd]
    rw [if_neg (by omega), if_pos trivial]
theorem RI_reb {f : Nat → Int32} (hR : RI f) {i : Nat} (hi : i < 6) {m o v : Int32} (hm : rg m 0 35) (ho : rg o 1 999) (hv : rg v 1 999) (h3 : (f (434 + 10 * i)).toInt < 3) : RI (rowB f i m o v) := by
  have hb := hR.base hi
  unfold rg at hb
  have hc := clampI (f (434 + 10 * i))
  have ne : ∀ j, (j < 434 + 10 * i ∨ 434 + 10 * i + 10 ≤ j) → rowB f i m o v j = f j := fun j hj => rowB_ne f m o v (by omega) (fun e he => by omega)
  have at_ := rowB_at f (i := i) m o v
  have e1 : (f (434 + 10 * i) + 1).toInt = (f (434 + 10 * i)).toInt + 1 := by have := z1; rw [fb_addI (by omega) (by omega)]; omega
  have lo : ∀ j, j < 434 → rowB f i m o v j = f j := fun j hj => ne j (by omega)
  have hi2 : ∀ j, 494 ≤ j → rowB f i m o v j = f j := fun j hj => ne j (by omega)
  refine ⟨by rw [lo 0 (by omega)]; exact hR.1, by rw [lo 1 (by omega)]; exact hR.2.1, by rw [hi2 494 (by omega)]; exact hR.2.2.1, by rw [hi2 609 (by omega)]; exact hR.2.2.2.1, ?_, ?_, ?_, ?_⟩
  · intro a c ha hc2
    rw [lo _ (by omega), lo _ (by omega)]
    exact hR.2.2.2.2.1 a c ha hc2
  · intro a ha
    by_cases ea : a = i
    · subst ea
      rw [at_.1]
      refine ⟨⟨by omega, by omega⟩, fun k hk => ?_⟩
      by_cases ek : k = (f (434 + 10 * a)).toNatClampNeg
      · rw [ek, at_.2.1, at_.2.2.1, at_.2.2.2]
        exact ⟨hm, ho, hv⟩
      · rw [rowB_ne f m o v (by omega) (fun e he => by omega), rowB_ne f m o v (by omega) (fun e he => by omega), rowB_ne f m o v (by omega) (fun e he => by omega)]
        exact hR.reb ha (by omega)
    · have hba := hR.base ha
      unfold rg at hba
      rw [ne _ (by omega)]
      refine ⟨hR.base ha, fun k hk => ?_⟩
      rw [ne _ (by omega), ne _ (by omega), ne _ (by omega)]
      exact hR.reb ha hk
  · intro c hc2
    rw [hi2 494 (by omega)] at hc2
    have h1 := hR.2.1
    unfold rg at h1
    exact CI_keep hR.1 hR.2.1 (lo 0 (by omega)) (by rw [lo 1 (by omega)]; omega) (fun j hj => hi2 _ (by omega)) (fun y q hy hq => lo _ (by omega)) (hR.con hc2)
  · intro d hd
    rw [hi2 609 (by omega)] at hd
    have h := hR.del hd
    unfold DI at h ⊢
    rw [hi2 494 (by omega), hi2 (610 + 9 * d + 0) (by omega), hi2 (495 + 19 * (f (610 + 9 * d + 0)).toNatClampNeg + 2) (by omega), hi2 (610 + 9 * d + 4) (by omega), hi2 (610 + 9 * d + 2) (by omega), hi2 (610 + 9 * d + 3) (by omega), hi2 (610 + 9 * d + 5) (by omega), hi2 (610 + 9 * d + 6) (by omega), hi2 (610 + 9 * d + 7) (by omega)]
    exact h
theorem z_rebaseM {σ : MI} {τ : ML} {b : Nat} {f : Nat → Int32} (hb2 : b < 2) (hr : zR σ τ b f) {x m v : Int32} (hx : mIn x 0 (f 1 - 1) = true) (hm : mIn m 0 35 = true) (hv : rg v 1 999) (h2 : f (218 + 36 * x.toNatClampNeg + m.toNatClampNeg) = 2) (h3 : (f (434 + 10 * x.toNatClampNeg)).toInt < 3) (a1 a2 a3 a4 a5 : Int32) :
    zR (keepS (addRS σ b x.toNatClampNeg m v) a1 a2 a3 a4 a5) τ b (rowB f x.toNatClampNeg m (f (2 + 36 * x.toNatClampNeg + m.toNatClampNeg)) v) := by
  obtain ⟨hB, hL, hX⟩ := hr
  have hi := mIx hX.1 hx
  have hi6 := clampN hi.1
  have hm36 := clampN (mMx hm)
  have hz := hB.ix hi.2
  generalize x.toNatClampNeg = i at *
  have hbs := hX.1.base hi6
  have h1 := hX.1.2.1
  have h4 := hX.1.2.2.1
  unfold rg at hbs h1 h4
  have hc := clampI (f (434 + 10 * i))
  have ho := hX.1.val hi6 hm36 (by rw [h2]; decide)
  have hmr := mIn_t hm
  have at_ := rowB_at f (i := i) m (f (2 + 36 * i + m.toNatClampNeg)) v
  have e1 : (f (434 + 10 * i) + 1).toInt = (f (434 + 10 * i)).toInt + 1 := by have := z1; rw [fb_addI (by omega) (by omega)]; omega
  have ne : ∀ j, (j < 434 + 10 * i ∨ 434 + 10 * i + 10 ≤ j) → rowB f i m (f (2 + 36 * i + m.toNatClampNeg)) v j = f j := fun j hj => rowB_ne f m _ v (by omega) (fun e he => by omega)
  have es : addRS σ b i m v = s2 (s2 (s2 (s2 σ (50 + 57 * b + 6 * i) (f (434 + 10 * i)).toNatClampNeg m) (51 + 57 * b + 6 * i) (f (434 + 10 * i)).toNatClampNeg (f (2 + 36 * i + m.toNatClampNeg))) (52 + 57 * b + 6 * i) (f (434 + 10 * i)).toNatClampNeg v) (47 + 57 * b + 6 * i) 5 (f (434 + 10 * i) + 1) := by
    unfold addRS
    have e3 : (3 : Int32).toInt = 3 := rfl
    rw [hz.2.1, if_neg (by rw [i_lt, z0]; omega), if_neg (by rw [i_le]; omega), z_val hz hm, if_neg (by rw [h2]; decide)]
  have hk : ∀ c, c < 6 ∨ 11 < c → keepS (addRS σ b i m v) a1 a2 a3 a4 a5 c = addRS σ b i m v c := fun c h => keepS_ne _ a1 a2 a3 a4 a5 h
  have hn : ∀ c, c ≠ 47 + 57 * b + 6 * i → c ≠ 50 + 57 * b + 6 * i → c ≠ 51 + 57 * b + 6 * i → c ≠ 52 + 57 * b + 6 * i → addRS σ b i m v c = σ c := fun c q1 q2 q3 q4 => addRS_ne σ m v q1 q2 q3 q4
  refine ⟨⟨?_, ?_, ?_, ?_, ?_⟩, ?_, ?_⟩
  · rw [hk _ (by omega), hn _ (by omega) (by omega) (by omega) (by omega), ne 0 (by omega)]; exact hB.1
  · rw [hk _ (by omega), hn _ (by omega) (by omega) (by omega) (by omega), ne 1 (by omega)]; exact hB.2.1
  · rw [hk _ (by omega), hn _ (by omega) (by omega) (by omega) (by omega), ne 494 (by omega)]; exact hB.2.2.1
  · intro a ha
    rw [ne 1 (by omega)] at ha
    have hza := hB.ix ha
    have hba := hX.1.base (i := a) (by omega)
    unfold rg at hba
    refine ⟨fun q hq => ?_, ?_, fun k hkk => ?_⟩
    · rw [hk _ (by omega), hk _ (by omega), hn _ (by omega) (by omega) (by omega) (by omega), hn _ (by omega) (by omega) (by omega) (by omega), ne _ (by omega), ne _ (by omega)]
      exact hza.1 q hq
    · rw [hk _ (by omega)]
      by_cases ea : a = i
      · subst ea
        rw [at_.1, es, s2_eq]
      · rw [hn _ (by omega) (by omega) (by omega) (by omega), ne _ (by omega)]
        exact hza.2.1
    · rw [hk _ (by omega), hk _ (by omega), hk _ (by omega)]
      by_cases ea : a = i
      · subst ea
        rw [at_.1] at hkk
        by_cases ek : k = (f (434 + 10 * a)).toNatClampNeg
        · rw [ek, at_.2.1, at_.2.2.1, at_.2.2.2, es]
          simp only [s2_at]
          refine ⟨?_, ?_, ?_⟩
          · rw [if_neg (by omega), if_neg (by omega), if_neg (by omega), if_pos ⟨trivial, trivial⟩]
          · rw [if_neg (by omega), if_neg (by omega), if_pos ⟨trivial, trivial⟩]
          · rw [if_neg (by omega), if_pos ⟨trivial, trivial⟩]
        · rw [rowB_ne f m _ v (by omega) (fun e he => by omega), rowB_ne f m _ v (by omega) (fun e he => by omega), rowB_ne f m _ v (by omega) (fun e he => by omega), es]
          simp only [s2_at]
          have q := hza.2.2 k (by omega)
          refine ⟨?_, ?_, ?_⟩
          · rw [if_neg (by omega), if_neg (by omega), if_neg (by omega), if_neg (by omega)]; exact q.1
          · rw [if_neg (by omega), if_neg (by omega), if_neg (by omega), if_neg (by omega)]; exact q.2.1
          · rw [if_neg (by omega), if_neg (by omega), if_neg (by omega), if_neg (by omega)]; exact q.2.2
      · rw [ne (434 + 10 * a) (by omega)] at hkk
        rw [hn _ (by omega) (by omega) (by omega) (by omega), hn _ (by omega) (by omega) (by omega) (by omega), hn _ (by omega) (by omega) (by omega) (by omega), ne _ (by omega), ne _ (by omega), ne _ (by omega)]
        exact hza.2.2 k hkk
  · intro c hcc
    rw [ne 494 (by omega)] at hcc
    have hzc := hB.co hcc
    refine ⟨fun j hj => ?_, fun k hkk => ?_⟩
    · rw [hk _ (by omega), hn _ (by omega) (by omega) (by omega) (by omega), ne _ (by omega)]; exact hzc.1 j hj
    · rw [ne (495 + 19 * c + 6) (by omega)] at hkk
      rw [hk _ (by omega), hk _ (by omega), hn _ (by omega) (by omega) (by omega) (by omega), hn _ (by omega) (by omega) (by omega) (by omega), ne _ (by omega), ne _ (by omega)]
      exact hzc.2 k hkk
  · refine zLe_agree hX.1 (z_keepL hL hX.1.2.2.2.1 (fun c g1 g2 => ?_) (fun d _ => rfl)) (fun j g1 g2 => ne j (by omega))
    rw [hk _ (by omega), hn _ (by omega) (by omega) (by omega) (by omega)]
  · refine ⟨RI_reb hX.1 hi6 ⟨hmr.1, hmr.2⟩ ho hv h3, fun d hd => ?_⟩
    rw [ne 609 (by omega)] at hd
    have q := hX.2 d hd
    unfold zDX at q ⊢
    rw [ne 0 (by omega), ne (610 + 9 * d + 6) (by omega), ne (610 + 9 * d + 7) (by omega), ne (610 + 9 * d + 8) (by omega)]
    exact q
