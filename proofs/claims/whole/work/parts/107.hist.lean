/-! ===== acts, and how they are undone ===== -/
def zsnap (μ : MI) (j : Nat) : Nat → Int32 := fun k => μ 4 (880 * j + k)
def zrow (μ : MI) (n j : Nat) : Nat → Int32 := if j = n then μ 2 else zsnap μ j
def zslot (p n j : Nat) : Nat := (p + 8 - (n - j)) % 8
def aPub (i m n k : Int32) (f g : Nat → Int32) : Prop := mIn i 0 (g 1 - 1) = true ∧ i.toNatClampNeg < 6 ∧ mIn m 0 35 = true ∧ m.toNatClampNeg < 36 ∧ k = g (218 + 36 * i.toNatClampNeg + m.toNatClampNeg) ∧ (k ≠ 0 → n = g (2 + 36 * i.toNatClampNeg + m.toNatClampNeg)) ∧ ∀ j, j < 880 → j ≠ 2 + 36 * i.toNatClampNeg + m.toNatClampNeg → j ≠ 218 + 36 * i.toNatClampNeg + m.toNatClampNeg → f j = g j
def aReb (i : Int32) (f g : Nat → Int32) : Prop := mIn i 0 (g 1 - 1) = true ∧ i.toNatClampNeg < 6 ∧ 0 ≤ (g (434 + 10 * i.toNatClampNeg)).toInt ∧ (g (434 + 10 * i.toNatClampNeg)).toInt < 3 ∧ f (434 + 10 * i.toNatClampNeg) = g (434 + 10 * i.toNatClampNeg) + 1 ∧ ∀ j, j < 880 → j ≠ 434 + 10 * i.toNatClampNeg → (∀ e, e < 3 → j ≠ 434 + 10 * i.toNatClampNeg + 1 + 3 * (g (434 + 10 * i.toNatClampNeg)).toNatClampNeg + e) → f j = g j
def aDel (f g : Nat → Int32) : Prop := 0 ≤ (g 609).toInt ∧ (g 609).toInt < 30 ∧ f 609 = g 609 + 1 ∧ ∀ j, j < 880 → j ≠ 609 → (j < 610 + 9 * (g 609).toNatClampNeg ∨ 610 + 9 * (g 609).toNatClampNeg + 9 ≤ j) → f j = g j
def aClo (f g : Nat → Int32) : Prop := 0 ≤ (g 0).toInt ∧ (g 0).toInt < 35 ∧ (g 609).toInt ≤ 30 ∧ f 0 = g 0 + 1 ∧ (∀ j, j ≠ 0 → j < 610 → f j = g j) ∧ ∀ d : Nat, (d : Int) < (g 609).toInt → (∀ e, e < 6 → f (610 + 9 * d + e) = g (610 + 9 * d + e)) ∧ ((f (610 + 9 * d + 7) = g (610 + 9 * d + 7) ∧ f (610 + 9 * d + 8) = g (610 + 9 * d + 8)) ∨ (g (610 + 9 * d + 7) = -1 ∧ f (610 + 9 * d + 7) = g 0))
def aAct (a i m n k : Int32) (f g : Nat → Int32) : Prop := (a = 0 ∧ aPub i m n k f g) ∨ (a = 1 ∧ aReb i f g) ∨ (a = 2 ∧ aDel f g) ∨ (a = 3 ∧ aClo f g)
theorem aAct_agree {a i m n k : Int32} {f g f' g' : Nat → Int32} (h : aAct a i m n k f g) (hf : ∀ j, j < 880 → f' j = f j) (hg : ∀ j, j < 880 → g' j = g j) : aAct a i m n k f' g' := by
  rcases h with ⟨e, h⟩ | ⟨e, h⟩ | ⟨e, h⟩ | ⟨e, h⟩
  · refine Or.inl ⟨e, ?_⟩
    obtain ⟨h1, h2, h3, h4, h5, h6, h7⟩ := h
    unfold aPub
    rw [hg 1 (by omega), hg (218 + 36 * i.toNatClampNeg + m.toNatClampNeg) (by omega), hg (2 + 36 * i.toNatClampNeg + m.toNatClampNeg) (by omega)]
    exact ⟨h1, h2, h3, h4, h5, h6, fun j w1 w2 w3 => by rw [hf j w1, hg j w1]; exact h7 j w1 w2 w3⟩
  · refine Or.inr (Or.inl ⟨e, ?_⟩)
    obtain ⟨h1, h2, h3, h4, h5, h6⟩ := h
    unfold aReb
    rw [hg 1 (by omega), hg (434 + 10 * i.toNatClampNeg) (by omega), hf (434 + 10 * i.toNatClampNeg) (by omega)]
    exact ⟨h1, h2, h3, h4, h5, fun j w1 w2 w3 => by rw [hf j w1, hg j w1]; exact h6 j w1 w2 w3⟩
  · refine Or.inr (Or.inr (Or.inl ⟨e, ?_⟩))
    obtain ⟨h1, h2, h3, h4⟩ := h
    unfold aDel
    rw [hg 609 (by omega), hf 609 (by omega)]
    exact ⟨h1, h2, h3, fun j w1 w2 w3 => by rw [hf j w1, hg j w1]; exact h4 j w1 w2 w3⟩
  · refine Or.inr (Or.inr (Or.inr ⟨e, ?_⟩))
    obtain ⟨h1, h2, h3, h4, h5, h6⟩ := h
    unfold aClo
    rw [hg 609 (by omega), hg 0 (by omega), hf 0 (by omega)]
    refine ⟨h1, h2, h3, h4, fun j w1 w2 => by rw [hf j (by omega), hg j (by omega)]; exact h5 j w1 w2, fun d hd => ?_⟩
    rw [hf (610 + 9 * d + 7) (by omega), hf (610 + 9 * d + 8) (by omega), hg (610 + 9 * d + 7) (by omega), hg (610 + 9 * d + 8) (by omega)]
    exact ⟨fun q hq => by rw [hf _ (by omega), hg _ (by omega)]; exact (h6 d hd).1 q hq, (h6 d hd).2⟩
def zH (σ μ : MI) : Prop := ∃ p n : Nat, p < 8 ∧ n ≤ 8 ∧ σ 6 5 = nI p ∧ σ 6 6 = nI n ∧ μ 0 16 = nI n ∧ (∀ j, j < n → zX (zsnap μ j)) ∧ ∀ j, j < n → aAct (σ 7 (zslot p n j)) (σ 8 (zslot p n j)) (σ 9 (zslot p n j)) (σ 10 (zslot p n j)) (σ 11 (zslot p n j)) (zrow μ n (j + 1)) (zrow μ n j)
theorem shS_at (σ : MI) (k : Nat) : ∀ n, shS σ n 4 k = if k < n then σ 4 (k + 880) else σ 4 k
  | 0 => by rw [shS, if_neg (by omega)]
  | n + 1 => by
    rw [shS]
    by_cases e : k = n
    · subst e
      rw [s2_eq, shS_at σ _ k, if_neg (by omega), if_pos (by omega)]
    · rw [s2_nj _ _ _ e, shS_at σ k n]
      by_cases h : k < n
      · rw [if_pos h, if_pos (by omega)]
      · rw [if_neg h, if_neg (by omega)]
theorem cpS_at (σ : MI) (b k : Nat) : ∀ n, cpS σ b n 4 k = if b ≤ k ∧ k < b + n then σ 2 (k - b) else σ 4 k
  | 0 => by rw [cpS, if_neg (by omega)]
  | n + 1 => by
    rw [cpS]
    by_cases e : k = b + n
    · subst e
      rw [s2_eq, if_pos (by omega)]
      congr 1
      omega
    · rw [s2_nj _ _ _ e, cpS_at σ b k n]
      by_cases h : b ≤ k ∧ k < b + n
      · rw [if_pos h, if_pos (by omega)]
      · rw [if_neg h, if_neg (by omega)]
theorem bkS_at (σ : MI) (b k : Nat) : ∀ n, bkS σ b n 2 k = if k < n then σ 4 (b + k) else σ 2 k
  | 0 => by rw [bkS, if_neg (by omega)]
  | n + 1 => by
    rw [bkS]
    by_cases e : k = n
    · subst e
      rw [s2_eq, if_pos (by omega)]
    · rw [s2_nj _ _ _ e, bkS_at σ b k n]
      by_cases h : k < n
      · rw [if_pos h, if_pos (by omega)]
      · rw [if_neg h, if_neg (by omega)]
theorem snS_spec {μ : MI} {n : Nat} (h : μ 0 16 = nI n) (hn : n ≤ 8) : ∃ m s : Nat, m + s = n ∧ m = min n 7 ∧ snS (s2 μ 0 0 0) 0 16 = nI (m + 1) ∧ (∀ j k, j < m → k < 880 → zsnap (snS (s2 μ 0 0 0)) j k = zsnap μ (j + s) k) ∧ ∀ k, k < 880 → zsnap (snS (s2 μ 0 0 0)) m k = μ 2 k := by
  have e16 : s2 μ 0 0 0 0 16 = nI n := by rw [s2_nj _ _ _ (by decide)]; exact h
  have e2 : s2 μ 0 0 0 2 = μ 2 := s2_nk _ _ _ (by decide)
  have e4 : s2 μ 0 0 0 4 = μ 4 := s2_nk _ _ _ (by decide)
  by_cases h8 : n = 8
  · subst h8
    have es : sn1 (s2 μ 0 0 0) = s2 (shS (s2 μ 0 0 0) 6160) 0 16 (nI 7) := by
      unfold sn1
      rw [e16, if_pos (show nI 8 = (8 : Int32) from rfl), show nI 8 - 1 = nI 7 by decide]
    refine ⟨7, 1, rfl, rfl, ?_, fun j k hj hk => ?_, fun k hk => ?_⟩
    · rw [snS, snC, s2_eq, es, s2_eq]; rfl
    · unfold zsnap
      rw [snS, snC, s2_nk _ _ _ (by decide), cpS_at, es, s2_eq, nI_clamp (by decide), if_neg (by omega), s2_nk _ _ _ (by decide), shS_at, if_pos (by omega), e4]
      congr 1
      omega
    · unfold zsnap
      rw [snS, snC, s2_nk _ _ _ (by decide), cpS_at, es, s2_eq, nI_clamp (by decide), if_pos (by omega), s2_nk _ _ _ (by decide), shS_ne _ (by decide), e2, show 880 * 7 + k - 880 * 7 = k by omega]
  · have es : sn1 (s2 μ 0 0 0) = s2 μ 0 0 0 := by
      unfold sn1
      rw [e16, if_neg]
      intro w
      rw [i_eq, nI_toInt (by omega)] at w
      have : (8 : Int32).toInt = 8 := rfl
      omega
    refine ⟨n, 0, rfl, by omega, ?_, fun j k hj hk => ?_, fun k hk => ?_⟩
    · rw [snS, snC, s2_eq, es, e16, nI_1]
    · unfold zsnap
      rw [snS, snC, s2_nk _ _ _ (by decide), cpS_at, es, e16, nI_clamp (by omega), if_neg (by omega), e4]
      rfl
    · unfold zsnap
      rw [snS, snC, s2_nk _ _ _ (by decide), cpS_at, es, e16, nI_clamp (by omega), if_pos (by omega), e2, show 880 * n + k - 880 * n = k by omega]
theorem rm8_nI {q : Nat} (h : q < 100) : rm8 (nI q) = nI (q % 8) := by
  unfold rm8
  have e8 : (8 : Int32) = nI 8 := rfl
  have ed : nI q / 8 = nI (q / 8) := pk_div (d := 8) (by omega) (by decide) (by decide)
  rw [ed, e8, pk_mul, nI_sub' (by omega) (by omega)]
  congr 1
  omega
theorem mn8_nI {q : Nat} (h : q < 100) : mn8 (nI q) = nI (min q 8) := by
  unfold mn8
  have e8 : (8 : Int32).toInt = 8 := rfl
  by_cases hq : 8 < q
  · rw [if_pos (by rw [i_lt, nI_toInt (by omega)]; omega), Nat.min_eq_right (by omega)]; rfl
  · rw [if_neg (by rw [i_lt, nI_toInt (by omega)]; omega), Nat.min_eq_left (by omega)]
theorem zH_act {σ σ0 σ' μ μ' : MI} {a i m v k : Int32} (hH : zH σ μ) (hX : zX (μ 2)) (h0 : ∀ c, 6 ≤ c → c ≤ 11 → σ0 c = σ c) (hσ : ∀ c, 6 ≤ c → c ≤ 11 → σ' c = keepS σ0 a i m v k c) (h4 : μ' 4 = snS (s2 μ 0 0 0) 4) (h16 : μ' 0 16 = snS (s2 μ 0 0 0) 0 16) (hA : aAct a i m v k (μ' 2) (μ 2)) : zH σ' μ' := by
  obtain ⟨p, n, hp, hn, e5, e6, em, hs, ha⟩ := hH
  obtain ⟨q, s, hqs, hq7, q16, qo, qn⟩ := snS_spec em hn
  have ek : keepS σ0 a i m v k = s2 (s2 (s2 (s2 (s2 (s2 (s2 σ0 7 p a) 8 p i) 9 p m) 10 p v) 11 p k) 6 5 (nI ((p + 1) % 8))) 6 6 (nI (min (n + 1) 8)) := by
    unfold keepS
    have e8 : (8 : Int32).toInt = 8 := rfl
    rw [h0 6 (by omega) (by omega), e5, e6, if_neg (by rw [i_lt, nI_toInt (by omega), z0]; omega), if_pos (by rw [i_lt, nI_toInt (by omega)]; omega), nI_clamp (by omega), nI_1, nI_1, rm8_nI (by omega), mn8_nI (by omega)]
  have c7 : ∀ j, σ' 7 j = if j = p then a else σ 7 j := fun j => by
    rw [hσ 7 (by omega) (by omega), ek]
    simp only [s2_at]
    simp [h0 7]
  have c8 : ∀ j, σ' 8 j = if j = p then i else σ 8 j := fun j => by
    rw [hσ 8 (by omega) (by omega), ek]
    simp only [s2_at]
    simp [h0 8]
  have c9 : ∀ j, σ' 9 j = if j = p then m else σ 9 j := fun j => by
    rw [hσ 9 (by omega) (by omega), ek]
    simp only [s2_at]
    simp [h0 9]
  have c10 : ∀ j, σ' 10 j = if j = p then v else σ 10 j := fun j => by
    rw [hσ 10 (by omega) (by omega), ek]
    simp only [s2_at]
    simp [h0 10]
  have c11 : ∀ j, σ' 11 j = if j = p then k else σ 11 j := fun j => by
    rw [hσ 11 (by omega) (by omega), ek]
    simp only [s2_at]
    simp [h0 11]
  have so : ∀ j k, j < q → k < 880 → zsnap μ' j k = zsnap μ (j + s) k := fun j k w1 w2 => by
    rw [← qo j k w1 w2]; unfold zsnap; rw [h4]
  have sn : ∀ k, k < 880 → zsnap μ' q k = μ 2 k := fun k w => by
    rw [← qn k w]; unfold zsnap; rw [h4]
  refine ⟨(p + 1) % 8, q + 1, by omega, by omega, ?_, ?_, ?_, fun j hj => ?_, fun j hj => ?_⟩
  · rw [hσ 6 (by omega) (by omega), ek, s2_nj _ _ _ (by decide), s2_eq]
  · rw [hσ 6 (by omega) (by omega), ek, s2_eq]
    congr 1
    omega
  · rw [h16, q16]
  · rcases (by omega : j < q ∨ j = q) with w | w
    · exact zX_agree (hs (j + s) (by omega)) (fun k hk => so j k w hk)
    · subst w
      exact zX_agree hX (fun k hk => sn k hk)
  · rw [c7, c8, c9, c10, c11]
    rcases (by omega : j < q ∨ j = q) with w | w
    · have e1 : zslot ((p + 1) % 8) (q + 1) j = zslot p n (j + s) := by unfold zslot; omega
      have e2 : ¬ zslot p n (j + s) = p := by unfold zslot; omega
      rw [e1, if_neg e2, if_neg e2, if_neg e2, if_neg e2, if_neg e2]
      refine aAct_agree (ha (j + s) (by omega)) (fun t ht => ?_) (fun t ht => ?_)
      · unfold zrow
        rw [if_neg (by omega)]
        by_cases w2 : j + 1 = q
        · rw [if_pos (by omega), w2]; exact sn t ht
        · rw [if_neg (by omega), so (j + 1) t (by omega) ht]
          congr 1
          omega
      · unfold zrow
        rw [if_neg (by omega), if_neg (by omega)]
        exact so j t w ht
    · subst w
      have e1 : zslot ((p + 1) % 8) (j + 1) j = p := by unfold zslot; omega
      rw [e1, if_pos rfl, if_pos rfl, if_pos rfl, if_pos rfl, if_pos rfl]
      refine aAct_agree hA (fun t ht => ?_) (fun t ht => ?_)
      · unfold zrow; rw [if_pos rfl]
      · unfold zrow; rw [if_neg (by omega)]; exact sn t ht
/-! undone -/
theorem zBk_agree2 {σ : MI} {b : Nat} {f g : Nat → Int32} (hR : RI g) (hB : zBk σ b f) (h : ∀ j, (j < 2 ∨ 218 ≤ j) → j < 609 → g j = f j) (hv : ∀ i m, i < 6 → m < 36 → g (218 + 36 * i + m) ≠ 0 → g (2 + 36 * i + m) = f (2 + 36 * i + m)) : zBk σ b g := by
  have h1 := hR.2.1
  have h4 := hR.2.2.1
  unfold rg at h1 h4
  refine ⟨by rw [h 0 (by omega) (by omega)]; exact hB.1, by rw [h 1 (by omega) (by omega)]; exact hB.2.1, by rw [h 494 (by omega) (by omega)]; exact hB.2.2.1, fun i hi => ?_, fun c hc => ?_⟩
  · have hi2 := hi
    rw [h 1 (by omega) (by omega)] at hi2
    have hz := hB.ix hi2
    have hb := hR.base (i := i) (by omega)
    unfold rg at hb
    refine ⟨fun m hm => ?_, by rw [h _ (by omega) (by omega)]; exact hz.2.1, fun k hk => ?_⟩
    · have e := h (218 + 36 * i + m) (by omega) (by omega)
      refine ⟨by rw [e]; exact (hz.1 m hm).1, fun w => ?_⟩
      rw [hv i m (by omega) hm w]
      exact (hz.1 m hm).2 (by rw [← e]; exact w)
    · rw [h _ (by omega) (by omega), h _ (by omega) (by omega), h _ (by omega) (by omega)]
      exact hz.2.2 k (by rw [← h (434 + 10 * i) (by omega) (by omega)]; exact hk)
  · have hc2 := hc
    rw [h 494 (by omega) (by omega)] at hc2
    have hz := hB.co hc2
    have h6 := (hR.con hc).2.2.2.2.2.2.1
    unfold rg at h6
    refine ⟨fun j hj => by rw [h _ (by omega) (by omega)]; exact hz.1 j hj, fun k hk => ?_⟩
    rw [h _ (by omega) (by omega), h _ (by omega) (by omega)]
    exact hz.2 k (by rw [← h (495 + 19 * c + 6) (by omega) (by omega)]; exact hk)
theorem u_pub {ρ : MI} {τ : ML} {b : Nat} {f g : Nat → Int32} {S : Int32} (hb2 : b < 2) (hb : bz (ρ 0 1) = b) (hr : zR ρ τ b f) (hg : zX g) (h : aPub (ρ 8 S.toNatClampNeg) (ρ 9 S.toNatClampNeg) (ρ 10 S.toNatClampNeg) (ρ 11 S.toNatClampNeg) f g) : zR (tbV ρ S) τ b g := by
  obtain ⟨hB, hL, hX⟩ := hr
  unfold tbV
  generalize ρ 8 S.toNatClampNeg = i at *
  generalize ρ 9 S.toNatClampNeg = m at *
  generalize ρ 10 S.toNatClampNeg = n at *
  generalize ρ 11 S.toNatClampNeg = k at *
  obtain ⟨h1, h2, h3, h4, h5, h6, h7⟩ := h
  have e1 : f 1 = g 1 := h7 1 (by omega) (by omega) (by omega)
  have h9 := hg.1.2.2.2.1
  unfold rg at h9
  rw [hb, hB.2.1, zinI hX.1, e1, if_pos h1]
  have hi : (i.toNatClampNeg : Int) < (f 1).toInt := by rw [e1]; exact (mIx hg.1 h1).2
  have hP := z_put hX.1 hB hi h3 n k
  refine ⟨zBk_agree2 hg.1 hP (fun j w1 w2 => ?_) (fun x q hx hq w => ?_), ?_, hg⟩
  · by_cases e : j = 218 + 36 * i.toNatClampNeg + m.toNatClampNeg
    · rw [e, rowV_k]; exact h5.symm
    · rw [rowV_ne f n k (by omega) e, h7 j (by omega) (by omega) e]
  · by_cases e : x = i.toNatClampNeg ∧ q = m.toNatClampNeg
    · obtain ⟨rfl, rfl⟩ := e
      rw [rowV_v f n k h2 h4, h6 (by rw [h5]; exact w)]
    · rw [rowV_ne f n k (by omega) (by omega), h7 _ (by omega) (by omega) (by omega)]
  · refine zLe_agree hX.1 (z_keepL hL hX.1.2.2.2.1 (fun c w1 w2 => putS_ne _ _ _ _ (by omega) (by omega)) (fun d _ => rfl)) (fun j w1 w2 => (h7 j w2 (by omega) (by omega)).symm)
theorem u_reb {ρ : MI} {τ : ML} {b : Nat} {f g : Nat → Int32} {S : Int32} (hb2 : b < 2) (hb : bz (ρ 0 1) = b) (hr : zR ρ τ b f) (hg : zX g) (h : aReb (ρ 8 S.toNatClampNeg) f g) : zR (tbR ρ S) τ b g := by
  obtain ⟨hB, hL, hX⟩ := hr
  unfold tbR
  generalize ρ 8 S.toNatClampNeg = i at *
  obtain ⟨h1, h2, h3, h4, h5, h6⟩ := h
  have e1 : f 1 = g 1 := h6 1 (by omega) (by omega) (fun e he => by omega)
  have hgi := (mIx hg.1 h1).2
  have hi : (i.toNatClampNeg : Int) < (f 1).toInt := by rw [e1]; exact hgi
  have hz := hB.ix hi
  rw [hb, hB.2.1, zinI hX.1, e1, if_pos h1, hz.2.1]
  generalize i.toNatClampNeg = x at *
  have hc := clampI (g (434 + 10 * x))
  have ef : (f (434 + 10 * x)).toInt = (g (434 + 10 * x)).toInt + 1 := by have := z1; rw [h5, fb_addI (by omega) (by omega)]; omega
  rw [if_neg (by rw [i_le, z0]; omega), h5, Int32.add_sub_cancel]
  have r1 := hg.1.2.1
  have r4 := hg.1.2.2.1
  unfold rg at r1 r4
  have e4 : f 494 = g 494 := h6 494 (by omega) (by omega) (fun e he => by omega)
  refine ⟨⟨?_, ?_, ?_, fun a ha => ?_, fun c hcc => ?_⟩, ?_, hg⟩
  · rw [s2_nk _ _ _ (by omega), ← h6 0 (by omega) (by omega) (fun e he => by omega)]; exact hB.1
  · rw [s2_nk _ _ _ (by omega), ← e1]; exact hB.2.1
  · rw [s2_nk _ _ _ (by omega), ← e4]; exact hB.2.2.1
  · have hza := hB.ix (i := a) (by rw [e1]; exact ha)
    have hba := hg.1.base (i := a) (by omega)
    unfold rg at hba
    refine ⟨fun q hq => ?_, ?_, fun k hk => ?_⟩
    · rw [s2_nk _ _ _ (by omega), s2_nk _ _ _ (by omega), ← h6 (218 + 36 * a + q) (by omega) (by omega) (fun e he => by omega), ← h6 (2 + 36 * a + q) (by omega) (by omega) (fun e he => by omega)]
      exact hza.1 q hq
    · by_cases ea : a = x
      · subst ea
        rw [s2_eq]
      · rw [s2_nk _ _ _ (by omega), ← h6 (434 + 10 * a) (by omega) (by omega) (fun e he => by omega)]
        exact hza.2.1
    · rw [s2_nk _ _ _ (by omega), s2_nk _ _ _ (by omega), s2_nk _ _ _ (by omega)]
      have hk2 : (k : Int) < (f (434 + 10 * a)).toInt := by
        by_cases ea : a = x
        · subst ea; omega
        · rw [h6 (434 + 10 * a) (by omega) (by omega) (fun e he => by omega)]; exact hk
      have hq := hza.2.2 k hk2
      have ne : ∀ e, e < 3 → f (434 + 10 * a + 1 + 3 * k + e) = g (434 + 10 * a + 1 + 3 * k + e) := fun e he => by
        by_cases ea : a = x
        · subst ea
          exact h6 _ (by omega) (by omega) (fun e2 he2 => by omega)
        · exact h6 _ (by omega) (by omega) (fun e2 he2 => by omega)
      rw [← ne 0 (by omega), ← ne 1 (by omega), ← ne 2 (by omega)]
      exact hq
  · have hzc := hB.co (c := c) (by rw [e4]; exact hcc)
    have h6c := (hg.1.con hcc).2.2.2.2.2.2.1
    unfold rg at h6c
    have ne : ∀ j, j < 19 → f (495 + 19 * c + j) = g (495 + 19 * c + j) := fun j hj => h6 _ (by omega) (by omega) (fun e he => by omega)
    refine ⟨fun j hj => ?_, fun k hk => ?_⟩
    · rw [s2_nk _ _ _ (by omega), ← ne j (by omega)]; exact hzc.1 j hj
    · rw [s2_nk _ _ _ (by omega), s2_nk _ _ _ (by omega), ← ne (7 + 2 * k) (by omega), ← ne (8 + 2 * k) (by omega)]
      exact hzc.2 k (by rw [ne 6 (by omega)]; exact hk)
  · refine zLe_agree hX.1 (z_keepL hL hX.1.2.2.2.1 (fun c w1 w2 => s2_nk _ _ _ (by omega)) (fun d _ => rfl)) (fun j w1 w2 => (h6 j w2 (by omega) (fun e he => by omega)).symm)
theorem u_del {ρ : MI} {τ : ML} {b : Nat} {f g : Nat → Int32} (hr : zR ρ τ b f) (hg : zX g) (h : aDel f g) : zR (drS ρ) τ b g := by
  obtain ⟨hB, hL, hX⟩ := hr
  obtain ⟨h1, h2, h3, h4⟩ := h
  have hc := clampI (g 609)
  have ef : (f 609).toInt = (g 609).toInt + 1 := by have := z1; rw [h3, fb_addI (by omega) (by omega)]; omega
  unfold drS
  rw [hL.1, if_neg (by rw [i_le, z0]; omega), h3, Int32.add_sub_cancel]
  refine ⟨zBk_agree hX.1 (z_keepB hB hX.1.2.1 hX.1.2.2.1 (fun c w1 w2 => s2_nk _ _ _ (by omega))) (fun j w1 w2 => (h4 j (by omega) (by omega) (by omega)).symm) (fun i m hi hm _ => (h4 _ (by omega) (by omega) (by omega)).symm), ⟨s2_eq _ _ _ _, fun d hd => ?_⟩, hg⟩
  have hz := hL.de (d := d) (by omega)
  have ne : ∀ e, e < 9 → f (610 + 9 * d + e) = g (610 + 9 * d + e) := fun e he => h4 _ (by omega) (by omega) (by omega)
  refine ⟨fun j hj => ?_, ?_, ?_⟩
  · rw [s2_nk _ _ _ (by omega), ← ne j (by omega)]; exact hz.1 j hj
  · rw [s2_nk _ _ _ (by omega), ← ne 7 (by omega)]; exact hz.2.1
  · rw [← ne 8 (by omega)]; exact hz.2.2
theorem unsS_at (σ : MI) (τ : ML) (mo : Int32) (d j : Nat) : ∀ n, (unsS σ τ mo n).1 (14 + d) j = (if d < n ∧ σ (14 + d) 6 = mo ∧ j = 6 then -1 else σ (14 + d) j) ∧ (unsS σ τ mo n).2 (14 + d) 7 = (if d < n ∧ σ (14 + d) 6 = mo then 0 else τ (14 + d) 7)
  | 0 => ⟨by rw [if_neg (by omega)]; rfl, by rw [if_neg (by omega)]; rfl⟩
  | n + 1 => by
    have ih := unsS_at σ τ mo d j n
    rw [unsS]
    by_cases hm : σ (14 + n) 6 = mo
    · rw [if_pos hm]
      show s2 (unsS σ τ mo n).1 (14 + n) 6 (-1) (14 + d) j = _ ∧ s2L (unsS σ τ mo n).2 (14 + n) 7 0 (14 + d) 7 = _
      by_cases e : d = n
      · subst e
        refine ⟨?_, by rw [s2L_eq, if_pos ⟨by omega, hm⟩]⟩
        by_cases ej : j = 6
        · rw [ej, s2_eq, if_pos ⟨by omega, hm, rfl⟩]
        · rw [s2_nj _ _ _ ej, ih.1, if_neg (by omega), if_neg (fun w => ej w.2.2)]
      · rw [s2_nk _ _ _ (by omega), s2L_ne _ _ (Or.inl (by omega)), ih.1, ih.2]
        have ed : d < n ↔ d < n + 1 := by omega
        simp only [ed, and_self]
    · rw [if_neg hm, ih.1, ih.2]
      by_cases e : d = n
      · subst e
        exact ⟨by rw [if_neg (by omega), if_neg (fun w => hm w.2.1)], by rw [if_neg (by omega), if_neg (fun w => hm w.2)]⟩
      · have ed : d < n ↔ d < n + 1 := by omega
        simp only [ed, and_self]
theorem u_clo {ρ : MI} {τ : ML} {b : Nat} {f g : Nat → Int32} (hb2 : b < 2) (hb : bz (ρ 0 1) = b) (hr : zR ρ τ b f) (hg : zX g) (h : aClo f g) : zR (tbC ρ τ) (tbT ρ τ) b g := by
  obtain ⟨hB, hL, hX⟩ := hr
  obtain ⟨h1, h2, h3, h4, h5, h6⟩ := h
  have ef : (f 0).toInt = (g 0).toInt + 1 := by have := z1; rw [h4, fb_addI (by omega) (by omega)]; omega
  have e9 : f 609 = g 609 := h5 609 (by omega) (by omega)
  have hc := clampI (g 609)
  have r1 := hg.1.2.1
  have r4 := hg.1.2.2.1
  have r9 := hg.1.2.2.2.1
  unfold rg at r1 r4 r9
  unfold tbC tbT
  rw [hb, hB.1, if_neg (by rw [i_le, z0]; omega), if_neg (by rw [i_le, z0]; omega), h4, Int32.add_sub_cancel]
  have t12 : tbN ρ 12 = ρ 12 := by unfold tbN; rw [hb]; exact s2_nk _ _ _ (by omega)
  rw [t12, hL.1, e9, kmin_eq (by exact r9.2)]
  have tD : ∀ d j, d < 30 → tbN ρ (14 + d) j = ρ (14 + d) j := fun d j hd => by unfold tbN; rw [hb, s2_nk _ _ _ (by omega)]
  have tO : ∀ c, c < 14 ∨ 44 ≤ c → (unsS (tbN ρ) τ (g 0) (g 609).toNatClampNeg).1 c = tbN ρ c := fun c w => unsS_ne _ _ _ _ (by omega)
  have tN : ∀ c, c ≠ 44 + 57 * b → tbN ρ c = ρ c := fun c w => by unfold tbN; rw [hb, s2_nk _ _ _ w]
  have tN4 : ∀ j, tbN ρ (44 + 57 * b) j = if j = 0 then g 0 else ρ (44 + 57 * b) j := fun j => by
    unfold tbN
    rw [hb, hB.1, h4, Int32.add_sub_cancel, s2_at]
    simp
  refine ⟨⟨?_, ?_, ?_, fun i hi => ?_, fun c hcc => ?_⟩, ⟨?_, fun d hd => ?_⟩, hg⟩
  · rw [tO _ (by omega), tN4]; rfl
  · rw [tO _ (by omega), tN4, ← h5 1 (by omega) (by omega)]; exact hB.2.1
  · rw [tO _ (by omega), tN4, ← h5 494 (by omega) (by omega)]; exact hB.2.2.1
  · have hz := hB.ix (i := i) (by rw [h5 1 (by omega) (by omega)]; exact hi)
    have hba := hg.1.base (i := i) (by omega)
    unfold rg at hba
    unfold zIx at hz ⊢
    rw [tO (49 + 57 * b + 6 * i) (by omega), tO (48 + 57 * b + 6 * i) (by omega), tO (47 + 57 * b + 6 * i) (by omega), tO (50 + 57 * b + 6 * i) (by omega), tO (51 + 57 * b + 6 * i) (by omega), tO (52 + 57 * b + 6 * i) (by omega), tN (49 + 57 * b + 6 * i) (by omega), tN (48 + 57 * b + 6 * i) (by omega), tN (47 + 57 * b + 6 * i) (by omega), tN (50 + 57 * b + 6 * i) (by omega), tN (51 + 57 * b + 6 * i) (by omega), tN (52 + 57 * b + 6 * i) (by omega), ← h5 (434 + 10 * i) (by omega) (by omega)]
    refine ⟨fun m hm => ?_, hz.2.1, fun k hk => ?_⟩
    · rw [← h5 (218 + 36 * i + m) (by omega) (by omega), ← h5 (2 + 36 * i + m) (by omega) (by omega)]; exact hz.1 m hm
    · rw [h5 (434 + 10 * i) (by omega) (by omega)] at hk
      rw [← h5 (434 + 10 * i + 1 + 3 * k + 0) (by omega) (by omega), ← h5 (434 + 10 * i + 1 + 3 * k + 1) (by omega) (by omega), ← h5 (434 + 10 * i + 1 + 3 * k + 2) (by omega) (by omega)]
      exact hz.2.2 k (by rw [h5 (434 + 10 * i) (by omega) (by omega)]; exact hk)
  · have hz := hB.co (c := c) (by rw [h5 494 (by omega) (by omega)]; exact hcc)
    have h6c := (hg.1.con hcc).2.2.2.2.2.2.1
    unfold rg at h6c
    unfold zCo at hz ⊢
    rw [tO (83 + 57 * b + 3 * c) (by omega), tO (84 + 57 * b + 3 * c) (by omega), tO (85 + 57 * b + 3 * c) (by omega), tN (83 + 57 * b + 3 * c) (by omega), tN (84 + 57 * b + 3 * c) (by omega), tN (85 + 57 * b + 3 * c) (by omega)]
    refine ⟨fun j hj => ?_, fun k hk => ?_⟩
    · rw [← h5 (495 + 19 * c + j) (by omega) (by omega)]; exact hz.1 j hj
    · rw [← h5 (495 + 19 * c + (7 + 2 * k)) (by omega) (by omega), ← h5 (495 + 19 * c + (8 + 2 * k)) (by omega) (by omega)]
      exact hz.2 k (by rw [h5 (495 + 19 * c + 6) (by omega) (by omega)]; exact hk)
  · rw [tO _ (by omega), t12, hL.1, e9]
  · have hz := hL.de (d := d) (by rw [e9]; exact hd)
    obtain ⟨g1, g2⟩ := h6 d hd
    have gx := hg.2 d hd
    have ua := fun j => unsS_at (tbN ρ) τ (g 0) d j (g 609).toNatClampNeg
    have hd30 : d < 30 := by omega
    rw [zDe]
    refine ⟨fun j hj => ?_, ?_, ?_⟩
    · rw [(ua j).1, if_neg (by omega), tD d j hd30, ← g1 j hj]; exact hz.1 j hj
    · rw [(ua 6).1, tD d 6 hd30, hz.2.1]
      rcases g2 with ⟨e7, e8⟩ | ⟨e7, e8⟩
      · rw [e7, if_neg]
        intro w
        have := gx.2.1
        rw [w.2.1] at this
        omega
      · rw [e8, if_pos ⟨by omega, rfl, rfl⟩, e7]
    · rw [(ua 6).2, tD d 6 hd30, hz.2.1]
      rcases g2 with ⟨e7, e8⟩ | ⟨e7, e8⟩
      · rw [e7, if_neg, hz.2.2, e8]
        intro w
        have := gx.2.1
        rw [w.2] at this
        omega
      · rw [e8, if_pos ⟨by omega, rfl⟩, gx.2.2 e7]; rfl
theorem tbV_ne (ρ : MI) (S : Int32) {c : Nat} (h : c < 44) : tbV ρ S c = ρ c := by
  unfold tbV
  split
  · exact putS_ne _ _ _ _ (by omega) (by omega)
  · rfl
theorem tbR_ne (ρ : MI) (S : Int32) {c : Nat} (h : c < 44) : tbR ρ S c = ρ c := by
  unfold tbR
  split
  · split
    · rfl
    · exact s2_nk _ _ _ (by omega)
  · rfl
theorem drS_ne (ρ : MI) {c : Nat} (h : c ≠ 12) : drS ρ c = ρ c := by
  unfold drS
  split
  · rfl
  · exact s2_nk _ _ _ h
theorem tbC_ne (ρ : MI) (τ : ML) {c : Nat} (h : c < 14) : tbC ρ τ c = ρ c := by
  unfold tbC
  split
  · rfl
  · rw [unsS_ne _ _ _ _ (by omega)]
    unfold tbN
    exact s2_nk _ _ _ (by omega)
theorem z_undo {σ μ : MI} {τ : ML} {b : Nat} (hb2 : b < 2) (hb : bz (σ 0 1) = b) (hr : zR σ τ b (μ 2)) (hH : zH σ μ) :
    unR σ τ = mUnR μ ∧ zR (unM σ τ) (unT σ τ) b (mUnM μ 2) ∧ zH (unM σ τ) (mUnM μ) ∧ (∀ c, c < 6 → unM σ τ c = σ c) ∧ (∀ c, c ≠ 0 → c ≠ 2 → mUnM μ c = μ c) ∧ ∀ j, j ≠ 0 → j ≠ 16 → mUnM μ 0 j = μ 0 j := by
  obtain ⟨p, n, hp, hn, e5, e6, em, hs, ha⟩ := id hH
  by_cases h0 : n = 0
  · subst h0
    have et : tlR σ = -1 := by unfold tlR; rw [e6, if_neg (by decide)]
    have es : tlS σ = σ := by unfold tlS; rw [e6, if_neg (by decide)]
    have lt : tlR σ < 0 := by rw [et]; decide
    have em0 : μ 0 16 = 0 := em
    unfold unR unM unT mUnR mUnM
    rw [if_pos lt, if_pos lt, if_pos lt, if_pos em0, if_pos em0, es, s2_nk _ _ _ (by decide)]
    refine ⟨rfl, hr, ⟨p, 0, hp, hn, e5, e6, by rw [s2_nj _ _ _ (by decide)]; exact em, fun j hj => by omega, fun j hj => by omega⟩, fun _ _ => rfl, fun c hc _ => s2_nk _ _ _ hc, fun j hj _ => s2_nj _ _ _ hj⟩
  · have e1 : nI n - 1 = nI (n - 1) := by rw [show (1 : Int32) = nI 1 from rfl, nI_sub' (by omega) (by omega)]
    have hpos : (0 : Int32) < σ 6 6 := by rw [e6, i_lt, nI_toInt (by omega), z0]; omega
    have er : rm8 (σ 6 5 + 8 - 1) = nI ((p + 7) % 8) := by
      rw [e5, show (8 : Int32) = nI 8 from rfl, nI_add, show (1 : Int32) = nI 1 from rfl, nI_sub' (by omega) (by omega), rm8_nI (by omega)]
      congr 1
    have et : tlR σ = nI ((p + 7) % 8) := by unfold tlR; rw [if_pos hpos, er]
    have es : tlS σ = s2 (s2 σ 6 5 (nI ((p + 7) % 8))) 6 6 (nI (n - 1)) := by unfold tlS; rw [if_pos hpos, er, e6, e1]
    have ecl : (tlR σ).toNatClampNeg = (p + 7) % 8 := by rw [et, nI_clamp (by omega)]
    have n0 : ¬ μ 0 16 = 0 := fun w => by
      rw [em, i_eq, nI_toInt (by omega), z0] at w
      omega
    have nl : ¬ tlR σ < 0 := by rw [et, i_lt, nI_toInt (by omega), z0]; omega
    have l8 : tlR σ < 8 := by rw [et, i_lt, nI_toInt (by omega)]; have : (8 : Int32).toInt = 8 := rfl; omega
    have eU : unR σ τ = unM σ τ 6 6 := by unfold unR; rw [if_neg nl, if_pos l8]
    have ero : mUnM μ 2 = bkS (mUd μ) (880 * (n - 1)) 880 2 := by unfold mUnM; rw [if_neg n0, em, e1, nI_clamp (by omega)]
    have ud4 : mUd μ 4 = μ 4 := by unfold mUd; rw [s2_nk _ _ _ (by decide), s2_nk _ _ _ (by decide)]
    have row : ∀ j, j < 880 → mUnM μ 2 j = zsnap μ (n - 1) j := fun j hj => by
      rw [ero, bkS_at, if_pos hj, ud4]; rfl
    have mo : ∀ c, c ≠ 2 → mUnM μ c = mUd μ c := fun c hc => by unfold mUnM; rw [if_neg n0, bkS_ne _ _ hc]
    have hX := hs (n - 1) (by omega)
    have act := ha (n - 1) (by omega)
    have eslot : zslot p n (n - 1) = (p + 7) % 8 := by unfold zslot; omega
    have erow : zrow μ n (n - 1 + 1) = μ 2 := by unfold zrow; rw [if_pos (by omega)]
    have erow2 : zrow μ n (n - 1) = zsnap μ (n - 1) := by unfold zrow; rw [if_neg (by omega)]
    rw [eslot, erow, erow2] at act
    have ne6 : ∀ c, c ≠ 6 → tlS σ c = σ c := fun c w => tlS_ne σ w
    have hrT : zR (tlS σ) τ b (μ 2) := ⟨z_keepB hr.1 hr.2.2.1.2.1 hr.2.2.1.2.2.1 (fun c w1 w2 => ne6 c (by omega)), z_keepL hr.2.1 hr.2.2.1.2.2.2.1 (fun c w1 w2 => ne6 c (by omega)) (fun _ _ => rfl), hr.2.2⟩
    have hbT : bz (tlS σ 0 1) = b := by rw [ne6 0 (by omega)]; exact hb
    have main : zR (unM σ τ) (unT σ τ) b (zsnap μ (n - 1)) ∧ ∀ c, c < 12 → unM σ τ c = tlS σ c := by
      unfold unM unT
      rw [if_neg nl, if_neg nl, if_pos l8, if_pos l8, ecl]
      rcases act with ⟨e, h⟩ | ⟨e, h⟩ | ⟨e, h⟩ | ⟨e, h⟩
      · have sw : swt (σ 7 ((p + 7) % 8)) 3 = 0 := by rw [e]; rfl
        rw [sw]
        refine ⟨u_pub hb2 hbT hrT hX ?_, fun c hc => tbV_ne _ _ (by omega)⟩
        rw [ecl, ne6 8 (by omega), ne6 9 (by omega), ne6 10 (by omega), ne6 11 (by omega)]
        exact h
      · have sw : swt (σ 7 ((p + 7) % 8)) 3 = 1 := by rw [e]; rfl
        rw [sw]
        refine ⟨u_reb hb2 hbT hrT hX ?_, fun c hc => tbR_ne _ _ (by omega)⟩
        rw [ecl, ne6 8 (by omega)]
        exact h
      · have sw : swt (σ 7 ((p + 7) % 8)) 3 = 2 := by rw [e]; rfl
        rw [sw]
        exact ⟨u_del hrT hX h, fun c hc => drS_ne _ (by omega)⟩
      · have sw : swt (σ 7 ((p + 7) % 8)) 3 = 3 := by rw [e]; rfl
        rw [sw]
        exact ⟨u_clo hb2 hbT hrT hX h, fun c hc => tbC_ne _ _ (by omega)⟩
    have m6 : unM σ τ 6 = tlS σ 6 := main.2 6 (by omega)
    refine ⟨?_, zR_agree main.1 row, ⟨(p + 7) % 8, n - 1, by omega, by omega, ?_, ?_, ?_, fun j hj => ?_, fun j hj => ?_⟩, fun c hc => ?_, fun c w1 w2 => ?_, fun j w1 w2 => ?_⟩
    · rw [eU, m6, es, s2_eq]
      unfold mUnR
      rw [if_neg n0, em, e1]
    · rw [m6, es, s2_nj _ _ _ (by decide), s2_eq]
    · rw [m6, es, s2_eq]
    · rw [mo 0 (by decide)]
      unfold mUd
      rw [s2_eq, em, e1]
    · have : zsnap (mUnM μ) j = zsnap μ j := by unfold zsnap; rw [mo 4 (by decide), ud4]
      rw [this]; exact hs j (by omega)
    · have e1 : zslot ((p + 7) % 8) (n - 1) j = zslot p n j := by unfold zslot; omega
      rw [e1, main.2 7 (by omega), main.2 8 (by omega), main.2 9 (by omega), main.2 10 (by omega), main.2 11 (by omega), ne6 7 (by omega), ne6 8 (by omega), ne6 9 (by omega), ne6 10 (by omega), ne6 11 (by omega)]
      have sp : ∀ j, zsnap (mUnM μ) j = zsnap μ j := fun j => by unfold zsnap; rw [mo 4 (by decide), ud4]
      refine aAct_agree (ha j (by omega)) (fun t ht => ?_) (fun t ht => ?_)
      · unfold zrow
        rw [if_neg (show ¬ j + 1 = n by omega)]
        by_cases w : j + 1 = n - 1
        · rw [if_pos w, row t ht, w]
        · rw [if_neg w, sp]
      · unfold zrow
        rw [if_neg (show ¬ j = n by omega), if_neg (by omega), sp]
    · rw [main.2 c (by omega), ne6 c (by omega)]
    · rw [mo c w2]
      unfold mUd
      rw [s2_nk _ _ _ w1, s2_nk _ _ _ w1]
    · rw [mo 0 (by decide)]
      unfold mUd
      rw [s2_nj _ _ _ w2, s2_nj _ _ _ w1]
