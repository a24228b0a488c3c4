/-! ===== the reference: lines ===== -/
theorem gO_at (σ : MI) {k : Nat} (h : k ≠ 0) : gO σ k = σ k := by rw [gO, s2_nk _ _ _ h, s2_nk _ _ _ h]
theorem goM_ne (σ : MI) {k : Nat} (h : k ≠ 0) : goM σ k = σ k := by
  have hB : gB σ k = σ k := by
    unfold gB
    generalize (if mLet (gC σ) = true then true else mDig (gC σ)) = qq
    split
    · split
      · rw [s2_nk _ _ _ h, s2_nk _ _ _ h, s2_nk _ _ _ h, gO_at σ h]
      · rw [s2_nk _ _ _ h, s2_nk _ _ _ h, s2_nk _ _ _ h, gO_at σ h]
    · rw [s2_nk _ _ _ h, gO_at σ h]
  unfold goM
  split
  · exact hB
  · split
    · exact hB
    · rw [s2_nk _ _ _ h, s2_nk _ _ _ h, gO_at σ h]
theorem mBad_ne (σ : MI) (w : Int32) {k : Nat} (h : k ≠ 0) : mBad σ w k = σ k := by rw [mBad, s2_nk _ _ _ h, s2_nk _ _ _ h]
theorem s2L_ne (τ : ML) {k j k' j' : Nat} (v : Int64) (h : k' ≠ k ∨ j' ≠ j) : s2L τ k j v k' j' = τ k' j' := by
  simp only [s2L, va_up]
  by_cases e : k' = k
  · subst e
    have hj : j' ≠ j := by rcases h with h | h <;> first | exact absurd rfl h | exact h
    simp [vp_updL, hj]
  · simp [e]
theorem s2L_eq (τ : ML) (k j : Nat) (v : Int64) : s2L τ k j v k j = v := by simp [s2L, va_up, vp_updL]
theorem goT_ne (σ : MI) (τ : ML) {k j : Nat} (h : k ≠ 0 ∨ j ≠ 11) : goT σ τ k j = τ k j := by
  unfold goT
  split
  · exact s2L_ne τ _ h
  · rfl
/-! the tape's place stays sound -/
theorem tkL_t (σ : MI) (fr : Nat) (le : Bool) {N : Nat} (h3 : σ 0 3 = nI N) (hN : N ≤ 740) : ∀ r t g w u, t ≤ N → t ≤ (tkL σ fr le r t g w u).1 ∧ (tkL σ fr le r t g w u).1 ≤ N
  | 0, t, g, w, u, h => ⟨Nat.le_refl t, h⟩
  | r + 1, t, g, w, u, h => by
    rw [tkL]
    split
    · rename_i hc
      have hlt := tkC_lt h3 hN h hc
      have ih := tkL_t σ fr le h3 hN r (t + 1) (tkG g le (σ 1 t)) (if 8 ≤ nI t - nI fr then w else 27 * w + (σ 1 t).toInt64 - 96) (if 4 ≤ nI t - nI fr then u else 10 * u + σ 1 t - 48) (by omega)
      omega
    · exact ⟨Nat.le_refl t, h⟩
theorem nI_sub' {a b : Nat} (h : b ≤ a) (ha : a < 2 ^ 31) : nI a - nI b = nI (a - b) := by
  have h1 := nI_toInt ha
  have h2 := nI_toInt (show b < 2 ^ 31 by omega)
  have h3 := nI_toInt (show a - b < 2 ^ 31 by omega)
  rw [i_eq, fb_subI (by omega) (by omega), h1, h2, h3]
  omega
theorem mDig_t {c : Int32} (h : mDig c = true) : 48 ≤ c.toInt ∧ c.toInt ≤ 57 := by
  unfold mDig at h
  by_cases h1 : c < 48
  · simp [h1] at h
  · by_cases h2 : 57 < c
    · simp [h1, h2] at h
    · rw [i_lt] at h1 h2
      have e1 : (48 : Int32).toInt = 48 := rfl
      have e2 : (57 : Int32).toInt = 57 := rfl
      omega
theorem mLet_t {c : Int32} (h : mLet c = true) : 97 ≤ c.toInt ∧ c.toInt ≤ 122 := by
  unfold mLet at h
  by_cases h1 : c < 97
  · simp [h1] at h
  · by_cases h2 : 122 < c
    · simp [h1, h2] at h
    · rw [i_lt] at h1 h2
      have e1 : (97 : Int32).toInt = 97 := rfl
      have e2 : (122 : Int32).toInt = 122 := rfl
      omega
theorem mTape_in {σ : MI} {N t : Nat} (h3 : σ 0 3 = nI N) (hN : N ≤ 740) (ht : t < N) : mTape σ (nI t) = σ 1 t := by
  unfold mTape
  rw [h3, if_neg (by rw [i_le, nI_toInt (by omega), nI_toInt (by omega)]; omega), nI_clamp (by omega)]
/-- a number's digits -/
theorem tkL_num (σ : MI) (fr : Nat) {N : Nat} (h3 : σ 0 3 = nI N) (hN : N ≤ 740) : ∀ r t g w u, fr ≤ t → t ≤ N → (g = true → (t - fr ≤ 4 → 0 ≤ u.toInt ∧ u.toInt + 1 ≤ 10 ^ (t - fr)) ∧ (4 < t - fr → True)) →
    (tkL σ fr false r t g w u).2.1 = true → (tkL σ fr false r t g w u).1 - fr ≤ 4 → 0 ≤ (tkL σ fr false r t g w u).2.2.2.toInt ∧ (tkL σ fr false r t g w u).2.2.2.toInt + 1 ≤ 10 ^ ((tkL σ fr false r t g w u).1 - fr)
  | 0, t, g, w, u, h1, h2, hi, hg, h4 => (hi hg).1 h4
  | r + 1, t, g, w, u, h1, h2, hi, hg, h4 => by
    rw [tkL] at hg h4 ⊢
    by_cases hc : tkC σ t = true
    · rw [if_pos hc] at hg h4 ⊢
      have hlt := tkC_lt h3 hN h2 hc
      refine tkL_num σ fr h3 hN r (t + 1) _ _ _ (by omega) (by omega) (fun hg2 => ⟨fun h5 => ?_, fun _ => trivial⟩) hg h4
      have hgt : g = true := by
        unfold tkG at hg2
        by_cases q : g = true
        · exact q
        · rw [if_neg q] at hg2; cases hg2
      have hlet : mLet (σ 1 t) = false := by
        unfold tkG at hg2
        rw [if_pos hgt] at hg2
        by_cases q : b2i (mLet (σ 1 t)) = b2i false
        · cases hq : mLet (σ 1 t)
          · rfl
          · rw [hq] at q; exact absurd q (by decide)
        · rw [if_neg q] at hg2; cases hg2
      have hdig : mDig (σ 1 t) = true := by
        unfold tkC at hc
        rw [mTape_in h3 hN hlt, hlet] at hc
        simpa using hc
      have hd := mDig_t hdig
      have hu := (hi hgt).1 (by omega)
      rw [if_neg (by rw [nI_sub' h1 (by omega), i_le, nI_toInt (by omega)]; have e4 : (4 : Int32).toInt = 4 := rfl; omega)]
      have hp : (10 : Int) ^ (t - fr) ≤ 1000 := by
        rcases (by omega : t - fr = 0 ∨ t - fr = 1 ∨ t - fr = 2 ∨ t - fr = 3) with q | q | q | q <;> rw [q] <;> decide
      have e10 : (10 : Int32).toInt = 10 := rfl
      have e48 : (48 : Int32).toInt = 48 := rfl
      have ea : (10 * u).toInt = 10 * u.toInt := by rw [fb_mulI (by rw [e10]; omega) (by rw [e10]; omega), e10]
      have eb : (10 * u + σ 1 t).toInt = 10 * u.toInt + (σ 1 t).toInt := by rw [fb_addI (by omega) (by omega), ea]
      have ec : (10 * u + σ 1 t - 48).toInt = 10 * u.toInt + (σ 1 t).toInt - 48 := by rw [fb_subI (by omega) (by omega), eb, e48]
      rw [ec, show t + 1 - fr = (t - fr) + 1 by omega, Int.pow_succ]
      omega
    · rw [if_neg hc] at hg h4 ⊢
      exact (hi hg).1 h4
theorem gT_le {σ : MI} {N t : Nat} (h3 : σ 0 3 = nI N) (hN : N ≤ 740) (h4 : σ 0 4 = nI t) (ht : t ≤ N) : t ≤ gT σ ∧ gT σ ≤ N := by
  have q := skp_le (σ 1) ((σ 0 3).toNatClampNeg - (σ 0 4).toNatClampNeg) (σ 0 4).toNatClampNeg
  unfold gT
  rw [h3, h4, nI_clamp (by omega), nI_clamp (by omega)] at q ⊢
  omega
theorem gO_03 (σ : MI) : gO σ 0 3 = σ 0 3 := by rw [gO, s2_nj _ _ _ (by decide), s2_nj _ _ _ (by decide)]
theorem gO_04 (σ : MI) : gO σ 0 4 = nI (gT σ) := by rw [gO, s2_nj _ _ _ (by decide), s2_eq]
theorem gS_ne (c : Int32) : ¬ gS c = 3 := by
  unfold gS
  split
  · decide
  · split
    · decide
    · split <;> decide
theorem TI_go {σ : MI} (h : TI σ) : TI (goM σ) := by
  obtain ⟨N, t, h3, hN, h4, ht, -⟩ := h
  have hg := gT_le h3 hN h4 ht
  have hA : TI (s2 (s2 (gO σ) 0 5 700) 0 6 1) := by
    refine ⟨N, gT σ, ?_, hN, ?_, hg.2, ?_⟩
    · rw [s2_nj _ _ _ (by decide), s2_nj _ _ _ (by decide), gO_03, h3]
    · rw [s2_nj _ _ _ (by decide), s2_nj _ _ _ (by decide), gO_04]
    · rw [s2_eq]; intro q; exact absurd q (by decide)
  have hB : TI (gB σ) := by
    unfold gB
    generalize (if mLet (gC σ) = true then true else mDig (gC σ)) = qq
    split
    · rename_i hlt
      rw [h3, i_lt, nI_toInt (by omega), nI_toInt (by omega)] at hlt
      have hk := tkL_t σ (gT σ) (mLet (gC σ)) h3 hN ((σ 0 3).toNatClampNeg - gT σ + 1) (gT σ) true 0 0 hg.2
      split
      · refine ⟨N, (gK σ).1, ?_, hN, ?_, hk.2, ?_⟩
        · rw [s2_nj _ _ _ (by decide), s2_nj _ _ _ (by decide), s2_nj _ _ _ (by decide), gO_03, h3]
        · rw [s2_nj _ _ _ (by decide), s2_eq]
        · rw [s2_eq, s2_nj _ _ _ (by decide), s2_nj _ _ _ (by decide), s2_eq]
          intro q
          unfold tkS at q
          by_cases q1 : (gK σ).2.1 = true
          · rw [if_pos q1] at q
            by_cases q2 : mLet (gC σ) = true
            · rw [if_pos q2] at q
              by_cases q3 : nI (gK σ).1 - nI (gT σ) ≤ 8
              · rw [if_pos q3] at q; exact absurd q (by decide)
              · rw [if_neg q3] at q; exact absurd q (by decide)
            · rw [if_neg q2] at q
              by_cases q3 : nI (gK σ).1 - nI (gT σ) ≤ 4
              · have hle : mLet (gC σ) = false := by simpa using q2
                unfold gK at q1 q3 ⊢
                rw [hle] at q1 q3 hk ⊢
                rw [nI_sub' hk.1 (by omega), i_le, nI_toInt (by omega)] at q3
                have e4 : (4 : Int32).toInt = 4 := rfl
                refine (tkL_num σ (gT σ) h3 hN _ (gT σ) true 0 0 (Nat.le_refl _) hg.2 (fun _ => ⟨fun _ => ?_, fun _ => trivial⟩) q1 (by omega)).1
                rw [Nat.sub_self]
                exact ⟨by decide, by decide⟩
              · rw [if_neg q3] at q; exact absurd q (by decide)
          · rw [if_neg q1] at q; exact absurd q (by decide)
      · refine ⟨N, gT σ + 1, ?_, hN, ?_, by omega, ?_⟩
        · rw [s2_nj _ _ _ (by decide), s2_nj _ _ _ (by decide), s2_nj _ _ _ (by decide), gO_03, h3]
        · rw [s2_eq, nI_1]
        · rw [s2_nj _ _ _ (by decide), s2_nj _ _ _ (by decide), s2_eq]
          intro q; exact absurd q (gS_ne _)
    · refine ⟨N, gT σ, ?_, hN, ?_, hg.2, ?_⟩
      · rw [s2_nj _ _ _ (by decide), gO_03, h3]
      · rw [s2_nj _ _ _ (by decide), gO_04]
      · rw [s2_eq]; intro q; exact absurd q (by decide)
  unfold goM
  split
  · exact hB
  · split
    · exact hB
    · exact hA
theorem TI_k {σ : MI} {k : Nat} (hk : 0 ≠ k) (h : TI σ) (j : Nat) (v : Int32) : TI (s2 σ k j v) := by
  obtain ⟨N, t, h⟩ := h
  refine ⟨N, t, ?_⟩
  rw [s2_nk _ _ _ hk]
  exact h
theorem TI_j {σ : MI} {j : Nat} (h3 : 3 ≠ j) (h4 : 4 ≠ j) (h6 : 6 ≠ j) (h7 : 7 ≠ j) (k : Nat) (h : TI σ) (v : Int32) : TI (s2 σ k j v) := by
  obtain ⟨N, t, h⟩ := h
  refine ⟨N, t, ?_⟩
  rw [s2_nj _ _ _ h3, s2_nj _ _ _ h4, s2_nj _ _ _ h6, s2_nj _ _ _ h7]
  exact h
theorem TI_bad {σ : MI} (h : TI σ) (w : Int32) : TI (mBad σ w) := TI_j (by decide) (by decide) (by decide) (by decide) _ (TI_j (by decide) (by decide) (by decide) (by decide) _ h _) _
/-- told -/
def tdB (σ : MI) (lo hi : Int32) : Bool := if σ 0 6 = 3 then mIn (σ 0 7) lo hi else false
def tdM (σ : MI) (a : Nat) (lo hi : Int32) : MI := if σ 0 6 = 3 then (if mIn (σ 0 7) lo hi = true then goM (s2 σ 3 a (σ 0 7)) else mBad σ 2) else mBad σ 1
def tdT (σ : MI) (τ : ML) (a : Nat) (lo hi : Int32) : ML := if σ 0 6 = 3 then (if mIn (σ 0 7) lo hi = true then goT (s2 σ 3 a (σ 0 7)) τ else τ) else τ
theorem tdM_ne (σ : MI) (a : Nat) (lo hi : Int32) {k : Nat} (h0 : k ≠ 0) (h3 : k ≠ 3) : tdM σ a lo hi k = σ k := by
  unfold tdM
  split
  · split
    · rw [goM_ne _ h0, s2_nk _ _ _ h3]
    · exact mBad_ne _ _ h0
  · exact mBad_ne _ _ h0
theorem tdM_nj (σ : MI) {a : Nat} (lo hi : Int32) {j : Nat} (hj : j ≠ a) : tdM σ a lo hi 3 j = σ 3 j := by
  unfold tdM
  split
  · split
    · rw [goM_ne _ (by decide), s2_nj _ _ _ hj]
    · rw [mBad_ne _ _ (by decide)]
  · rw [mBad_ne _ _ (by decide)]
theorem TI_td {σ : MI} (h : TI σ) (a : Nat) (lo hi : Int32) : TI (tdM σ a lo hi) := by
  unfold tdM
  split
  · split
    · exact TI_go (TI_k (by decide) h _ _)
    · exact TI_bad h _
  · exact TI_bad h _
theorem tdM_3 {σ : MI} {a : Nat} {lo hi : Int32} (h : tdB σ lo hi = true) : tdM σ a lo hi 3 a = σ 0 7 ∧ lo.toInt ≤ (σ 0 7).toInt ∧ (σ 0 7).toInt ≤ hi.toInt := by
  unfold tdB at h
  by_cases h6 : σ 0 6 = 3
  · rw [if_pos h6] at h
    refine ⟨?_, mIn_t h⟩
    rw [tdM, if_pos h6, if_pos h, goM_ne _ (by decide), s2_eq]
  · rw [if_neg h6] at h; cases h
theorem tdT_ne (σ : MI) (τ : ML) (a : Nat) (lo hi : Int32) {k j : Nat} (h : k ≠ 0 ∨ j ≠ 11) : tdT σ τ a lo hi k j = τ k j := by
  unfold tdT
  split
  · split
    · exact goT_ne _ _ h
    · rfl
  · rfl
/-- named -/
def nmd (σ : MI) (τ : ML) : Int32 := fnd (fun k => decide (τ 5 k = τ 0 11)) (σ 3 1).toNatClampNeg 0
def mwM (σ : MI) (τ : ML) (w : Int32) : MI := if mIs σ τ w = true then goM σ else mBad σ 1
def mwT (σ : MI) (τ : ML) (w : Int32) : ML := if mIs σ τ w = true then goT σ τ else τ
theorem mwM_ne (σ : MI) (τ : ML) (w : Int32) {k : Nat} (h : k ≠ 0) : mwM σ τ w k = σ k := by
  unfold mwM
  split
  · exact goM_ne _ h
  · exact mBad_ne _ _ h
theorem TI_mw {σ : MI} (h : TI σ) (τ : ML) (w : Int32) : TI (mwM σ τ w) := by
  unfold mwM
  split
  · exact TI_go h
  · exact TI_bad h _
/-- readIndex -/
def miL (i : Nat) : Nat → Nat → MI → ML → Bool × MI × ML
  | 0, _, σ, τ => (true, σ, τ)
  | r + 1, m, σ, τ => if σ 0 6 = 3 then (if nI m ≤ σ 3 0 then (if tdB σ 1 999 = true then miL i r (m + 1) (s2 (tdM σ (2 + 36 * i + m) 1 999) 3 (218 + 36 * i + m) 2) (tdT σ τ (2 + 36 * i + m) 1 999) else (false, tdM σ (2 + 36 * i + m) 1 999, tdT σ τ (2 + 36 * i + m) 1 999)) else (false, mBad σ 2, τ)) else (true, s2 σ 3 1 (σ 3 1 + 1), τ)
def miW (i : Nat) (τ : ML) : ML := s2L τ 5 i (τ 0 11)
def miQ (i : Nat) (σ : MI) (τ : ML) : Bool × MI × ML := if mName σ τ = true then (if nmd σ τ = -1 then (if goM σ 0 6 = 3 then miL i 37 0 (goM σ) (goT σ (miW i τ)) else (false, mBad (goM σ) 1, goT σ (miW i τ))) else (false, mBad σ 3, τ)) else (false, mBad σ 1, τ)
def miP (i : Nat) (σ : MI) (τ : ML) : Bool × MI × ML := if σ 3 1 = 6 then (false, mBad σ 4, τ) else miQ i (goM σ) (goT σ τ)
/-- readTerms -/
def mtX (f : Nat → Int32) (c : Nat) : Nat → Int32 := fun n => f (495 + 19 * c + (8 + 2 * n))
def mtS (c k : Nat) (σ : MI) (w x : Int32) : MI := s2 (s2 (s2 σ 3 (495 + 19 * c + (7 + 2 * k)) w) 3 (495 + 19 * c + (8 + 2 * k)) x) 3 (495 + 19 * c + 6) (nI (k + 1))
def mtE (s : Int32) (σ : MI) (τ : ML) : Bool × MI × ML := if mIs σ τ 3 = true then (if s = 1000 then (true, goM σ, goT σ τ) else (false, mBad σ 5, τ)) else (false, mBad σ 1, τ)
def mtL (c : Nat) : Nat → Nat → Int32 → MI → ML → Bool × MI × ML
  | 0, _, _, σ, τ => (false, σ, τ)
  | r + 1, k, s, σ, τ => if mSig σ 43 = true then
      (if goM σ 0 6 = 3 then (if mIn (goM σ 0 7) 0 1000 = true then
        (if mName (goM (goM σ)) (goT (goM σ) (goT σ τ)) = true then
          (if nmd (goM (goM σ)) (goT (goM σ) (goT σ τ)) = -1 then (false, mBad (goM (goM σ)) 3, goT (goM σ) (goT σ τ))
           else if anyS (mtX (σ 3) c) (nmd (goM (goM σ)) (goT (goM σ) (goT σ τ))) k = true then (false, mBad (goM (goM σ)) 3, goT (goM σ) (goT σ τ))
           else mtL c r (k + 1) (s + goM σ 0 7) (goM (mtS c k (goM (goM σ)) (goM σ 0 7) (nmd (goM (goM σ)) (goT (goM σ) (goT σ τ))))) (goT (mtS c k (goM (goM σ)) (goM σ 0 7) (nmd (goM (goM σ)) (goT (goM σ) (goT σ τ)))) (goT (goM σ) (goT σ τ))))
         else (false, mBad (goM (goM σ)) 1, goT (goM σ) (goT σ τ)))
       else (false, mBad (goM σ) 2, goT σ τ)) else (false, mBad (goM σ) 1, goT σ τ))
    else mtE s σ τ
def mtP (c : Nat) (σ : MI) (τ : ML) : Bool × MI × ML := mtL c 7 0 (σ 3 (495 + 19 * c + 1)) σ τ
/-- readBase -/
def mbK (c : Nat) (σ : MI) : Bool := if σ 0 6 = 3 then (if σ 0 7 ≤ σ 3 0 then allS (fun n => decide (σ 3 (218 + 36 * (σ 3 (495 + 19 * c + (8 + 2 * n))).toNatClampNeg + (σ 0 7).toNatClampNeg) ≠ 0)) (σ 3 (495 + 19 * c + 6)).toNatClampNeg else true) else true
def mbP (c : Nat) (σ : MI) (τ : ML) : Bool × MI × ML := if mbK c σ = true then (tdB σ 0 (σ 3 0), tdM σ (495 + 19 * c + 2) 0 (σ 3 0), tdT σ τ (495 + 19 * c + 2) 0 (σ 3 0)) else (false, mBad σ 5, τ)
/-- readContract -/
def mcU (c : Nat) (σ : MI) (τ : ML) (b : Bool) : MI := goM (s2 σ 3 (495 + 19 * c + 5) (b2i b))
def mcV (c : Nat) (σ : MI) (τ : ML) (b : Bool) : ML := goT (s2 σ 3 (495 + 19 * c + 5) (b2i b)) τ
def mcF (c : Nat) (σ : MI) (τ : ML) : Bool × MI × ML := if tdB σ 0 100 = true then (true, s2 (tdM σ (495 + 19 * c + 4) 0 100) 3 494 (nI (c + 1)), tdT σ τ (495 + 19 * c + 4) 0 100) else (false, tdM σ (495 + 19 * c + 4) 0 100, tdT σ τ (495 + 19 * c + 4) 0 100)
def mcE (c : Nat) (σ : MI) (τ : ML) : Bool × MI × ML := if mIs σ τ 6 = true then mcF c (mwM σ τ 6) (mwT σ τ 6) else (false, mwM σ τ 6, mwT σ τ 6)
def mcD (c : Nat) (σ : MI) (τ : ML) : Bool × MI × ML := if tdB σ 0 999 = true then mcE c (tdM σ (495 + 19 * c + 3) 0 999) (tdT σ τ (495 + 19 * c + 3) 0 999) else (false, tdM σ (495 + 19 * c + 3) 0 999, tdT σ τ (495 + 19 * c + 3) 0 999)
def mcC (c : Nat) (σ : MI) (τ : ML) : Bool × MI × ML := if mIs σ τ 5 = true then mcD c (goM (s2 σ 3 (495 + 19 * c + 5) 1)) (goT (s2 σ 3 (495 + 19 * c + 5) 1) τ) else if mIs σ τ 4 = true then mcD c (goM (s2 σ 3 (495 + 19 * c + 5) 0)) (goT (s2 σ 3 (495 + 19 * c + 5) 0) τ) else (false, mBad σ 1, τ)
def mcB (c : Nat) (z : Bool × MI × ML) : Bool × MI × ML := if z.1 = true then (if (mbP c z.2.1 z.2.2).1 = true then mcC c (mbP c z.2.1 z.2.2).2.1 (mbP c z.2.1 z.2.2).2.2 else (false, (mbP c z.2.1 z.2.2).2)) else (false, z.2)
def mcA (c : Nat) (σ : MI) (τ : ML) : Bool × MI × ML := if tdB σ 0 1000 = true then mcB c (mtP c (tdM σ (495 + 19 * c + 1) 0 1000) (tdT σ τ (495 + 19 * c + 1) 0 1000)) else (false, tdM σ (495 + 19 * c + 1) 0 1000, tdT σ τ (495 + 19 * c + 1) 0 1000)
def mcQ (c : Nat) (σ : MI) (τ : ML) : Bool × MI × ML := if tdB σ 1 9999 = true then (if mSig (tdM σ (495 + 19 * c + 0) 1 9999) 61 = true then mcA c (goM (tdM σ (495 + 19 * c + 0) 1 9999)) (goT (tdM σ (495 + 19 * c + 0) 1 9999) (tdT σ τ (495 + 19 * c + 0) 1 9999)) else (false, mBad (tdM σ (495 + 19 * c + 0) 1 9999) 1, tdT σ τ (495 + 19 * c + 0) 1 9999)) else (false, tdM σ (495 + 19 * c + 0) 1 9999, tdT σ τ (495 + 19 * c + 0) 1 9999)
def mcP (c : Nat) (σ : MI) (τ : ML) : Bool × MI × ML := if σ 3 494 = 6 then (false, mBad σ 4, τ) else mcQ c (goM σ) (goT σ τ)
/-- readLine, readEnd -/
def mlP (σ : MI) (τ : ML) (first : Bool) : Bool × MI × ML := if first = true then (if mIs σ τ 0 = true then (tdB (goM σ) 0 35, tdM (goM σ) 0 0 35, tdT (goM σ) (goT σ τ) 0 0 35) else (false, mBad σ 1, τ)) else if mIs σ τ 1 = true then miP (σ 3 1).toNatClampNeg σ τ else if mIs σ τ 2 = true then mcP (σ 3 494).toNatClampNeg σ τ else (false, mBad σ 1, τ)
def meM (σ : MI) : MI := if mSig σ 59 = true then goM σ else mBad σ 1
def meT (σ : MI) (τ : ML) : ML := if mSig σ 59 = true then goT σ τ else τ
/-- text -/
def zrS (σ : MI) : Nat → MI
  | 0 => σ
  | k + 1 => s2 (zrS σ k) 3 k 0
theorem zrS_ne (σ : MI) {k : Nat} (h : k ≠ 3) : ∀ n, zrS σ n k = σ k
  | 0 => rfl
  | n + 1 => by rw [zrS, s2_nk _ _ _ h, zrS_ne σ h n]
def nwS (σ : MI) : Nat → MI
  | 0 => σ
  | k + 1 => s2 (nwS σ k) 2 k (σ 3 k)
theorem nwS_ne (σ : MI) {k : Nat} (h : k ≠ 2) : ∀ n, nwS σ n k = σ k
  | 0 => rfl
  | n + 1 => by rw [nwS, s2_nk _ _ _ h, nwS_ne σ h n]
def mxL : Nat → Nat → MI → ML → Int32 × MI × ML
  | 0, _, σ, τ => (0, σ, τ)
  | r + 1, k, σ, τ => if σ 0 6 = 0 then (nI k, s2 (nwS σ 880) 0 16 0, τ) else if (mlP σ τ (decide (k = 0))).1 = true then (if mSig (mlP σ τ (decide (k = 0))).2.1 59 = true then mxL r (k + 1) (meM (mlP σ τ (decide (k = 0))).2.1) (meT (mlP σ τ (decide (k = 0))).2.1 (mlP σ τ (decide (k = 0))).2.2) else (-1 - meM (mlP σ τ (decide (k = 0))).2.1 0 10, meM (mlP σ τ (decide (k = 0))).2.1, meT (mlP σ τ (decide (k = 0))).2.1 (mlP σ τ (decide (k = 0))).2.2)) else (-1 - (mlP σ τ (decide (k = 0))).2.1 0 10, (mlP σ τ (decide (k = 0))).2)
def mx0 (σ : MI) : MI := zrS (s2 (s2 (s2 (s2 (s2 σ 0 0 0) 0 3 (σ 0 2)) 0 2 0) 0 9 0) 0 4 0) 880
def mxP (σ : MI) (τ : ML) : Int32 × MI × ML := mxL 15 0 (goM (mx0 σ)) (goT (mx0 σ) τ)
theorem php : ∀ (n : Nat) (f : Nat → Nat), (∀ i, i < n + 1 → f i < n) → ∃ i j, i < j ∧ j < n + 1 ∧ f i = f j
  | 0, f, h => absurd (h 0 (by omega)) (Nat.not_lt_zero _)
  | n + 1, f, h => by
    by_cases hex : ∃ i, i < n + 1 ∧ f i = f (n + 1)
    · obtain ⟨i, hi, e⟩ := hex
      exact ⟨i, n + 1, hi, by omega, e⟩
    · have hne : ∀ i, i < n + 1 → f i ≠ f (n + 1) := fun i hi e => hex ⟨i, hi, e⟩
      have hl := h (n + 1) (by omega)
      obtain ⟨i, j, h1, h2, e⟩ := php n (fun i => if f i = n then f (n + 1) else f i) (fun i hi => by
        have a := h i (by omega)
        have b := hne i hi
        show (if f i = n then f (n + 1) else f i) < n
        split <;> omega)
      refine ⟨i, j, h1, by omega, ?_⟩
      have b1 := hne i (by omega)
      have b2 := hne j (by omega)
      have e : (if f i = n then f (n + 1) else f i) = (if f j = n then f (n + 1) else f j) := e
      by_cases q1 : f i = n
      · rw [if_pos q1] at e
        by_cases q2 : f j = n
        · omega
        · rw [if_neg q2] at e; omega
      · rw [if_neg q1] at e
        by_cases q2 : f j = n
        · rw [if_pos q2] at e; omega
        · rw [if_neg q2] at e; exact e
def XD (f : Nat → Int32) (c k : Nat) : Prop := ∀ n, n < k → 0 ≤ (mtX f c n).toInt ∧ (mtX f c n).toInt < (f 1).toInt ∧ ∀ n', n' < n → mtX f c n' ≠ mtX f c n
theorem XD_six {f : Nat → Int32} {c : Nat} (h : XD f c 6) (h1 : rg (f 1) 0 6) {x : Int32} (hx : 0 ≤ x.toInt ∧ x.toInt < (f 1).toInt) : anyS (mtX f c) x 6 = true := by
  have h6 := h1.2
  obtain ⟨i, j, hij, hj, e⟩ := php 6 (fun n => if n < 6 then (mtX f c n).toInt.toNat else x.toInt.toNat) (fun i hi => by
    show (if i < 6 then (mtX f c i).toInt.toNat else x.toInt.toNat) < 6
    by_cases q : i < 6
    · rw [if_pos q]; have := h i q; omega
    · rw [if_neg q]; omega)
  have e : (if i < 6 then (mtX f c i).toInt.toNat else x.toInt.toNat) = (if j < 6 then (mtX f c j).toInt.toNat else x.toInt.toNat) := e
  rw [if_pos (show i < 6 by omega)] at e
  have hi := h i (by omega)
  by_cases q : j < 6
  · rw [if_pos q] at e
    have hj := h j q
    exact absurd ((i_eq _ _).mpr (by omega)) (hj.2.2 i hij)
  · rw [if_neg q] at e
    exact anyS_t (k := i) (by omega) ((i_eq _ _).mpr (by omega))
theorem fnd_rng (P : Nat → Bool) : ∀ r k, k + r < 2 ^ 31 → fnd P r k = -1 ∨ ∃ j, k ≤ j ∧ j < k + r ∧ fnd P r k = nI j ∧ P j = true
  | 0, _, _ => Or.inl rfl
  | r + 1, k, h => by
    rw [fnd]
    split
    · rename_i hp
      exact Or.inr ⟨k, Nat.le_refl k, by omega, rfl, hp⟩
    · rcases fnd_rng P r (k + 1) (by omega) with q | ⟨j, h1, h2, h3, h4⟩
      · exact Or.inl q
      · exact Or.inr ⟨j, by omega, by omega, h3, h4⟩
theorem nmd_rng {σ : MI} {τ : ML} (h1 : rg (σ 3 1) 0 6) (h : ¬ nmd σ τ = -1) : 0 ≤ (nmd σ τ).toInt ∧ (nmd σ τ).toInt < (σ 3 1).toInt := by
  have hc := clampI (σ 3 1)
  unfold rg at h1
  rcases fnd_rng (fun k => decide (τ 5 k = τ 0 11)) (σ 3 1).toNatClampNeg 0 (by omega) with q | ⟨j, a, b, d, -⟩
  · exact absurd q h
  · have e : nmd σ τ = nI j := d
    rw [e, nI_toInt (by omega)]
    omega
theorem ixL {A B : Int32} (A' B' : Nat) (hA : A = nI A') (hB : B = nI B') (i m : Nat) : A + B * nI i + nI m = nI (A' + B' * i + m) := by
  rw [hA, hB, pk_mul, nI_add, nI_add]
theorem ixC {J : Int32} (J' : Nat) (hJ : J = nI J') (a : Nat) : nI a + J = nI (a + J') := by rw [hJ, nI_add]
theorem ixT {J : Int32} (J' : Nat) (hJ : J = nI J') (a k : Nat) : nI a + J + 2 * nI k = nI (a + (J' + 2 * k)) := by
  rw [hJ, show (2 : Int32) = nI 2 from rfl, pk_mul, nI_add, nI_add, Nat.add_assoc]
theorem ixT1 (a k : Nat) : nI a + 7 + 2 * nI k + 1 = nI (a + (8 + 2 * k)) := by
  rw [ixT (J := 7) 7 rfl, show (1 : Int32) = nI 1 from rfl, nI_add]
  congr 1
  omega
theorem anyS_ne {f : Nat → Int32} {x : Int32} {n : Nat} (h : anyS f x n = false) {k : Nat} (hk : k < n) : f k ≠ x := fun e => by
  rw [anyS_t hk e] at h
  cases h
theorem mtS_3 (c k : Nat) (σ : MI) (w x : Int32) {j : Nat} (h6 : j ≠ 495 + 19 * c + 6) (h7 : j ≠ 495 + 19 * c + (7 + 2 * k)) (h8 : j ≠ 495 + 19 * c + (8 + 2 * k)) : mtS c k σ w x 3 j = σ 3 j := by
  rw [mtS, s2_nj _ _ _ h6, s2_nj _ _ _ h8, s2_nj _ _ _ h7]
theorem mtS_6 (c k : Nat) (σ : MI) (w x : Int32) : mtS c k σ w x 3 (495 + 19 * c + 6) = nI (k + 1) := by rw [mtS, s2_eq]
theorem mtS_7 (c k : Nat) (σ : MI) (w x : Int32) : mtS c k σ w x 3 (495 + 19 * c + (7 + 2 * k)) = w := by
  rw [mtS, s2_nj _ _ _ (by omega), s2_nj _ _ _ (by omega), s2_eq]
theorem mtS_8 (c k : Nat) (σ : MI) (w x : Int32) : mtS c k σ w x 3 (495 + 19 * c + (8 + 2 * k)) = x := by
  rw [mtS, s2_nj _ _ _ (by omega), s2_eq]
theorem XD_step {f : Nat → Int32} {μ : MI} {c k : Nat} (hμ : μ 3 = f) {w x : Int32} (h : XD f c k) (hx : 0 ≤ x.toInt ∧ x.toInt < (f 1).toInt) (hno : anyS (mtX f c) x k = false) : XD (goM (mtS c k μ w x) 3) c (k + 1) := by
  have e1 : goM (mtS c k μ w x) 3 1 = f 1 := by rw [goM_ne _ (by decide), mtS_3 _ _ _ _ _ (by omega) (by omega) (by omega), hμ]
  have eo : ∀ n, n < k → mtX (goM (mtS c k μ w x) 3) c n = mtX f c n := fun n hn => by
    unfold mtX
    rw [goM_ne _ (by decide), mtS_3 _ _ _ _ _ (by omega) (by omega) (by omega), hμ]
  have ek : mtX (goM (mtS c k μ w x) 3) c k = x := by
    unfold mtX
    rw [goM_ne _ (by decide), mtS_8]
  intro n hn
  rw [e1]
  rcases (by omega : n < k ∨ n = k) with q | q
  · rw [eo n q]
    obtain ⟨a, b, d⟩ := h n q
    exact ⟨a, b, fun n' hn' => by rw [eo n' (by omega)]; exact d n' hn'⟩
  · subst q
    rw [ek]
    exact ⟨hx.1, hx.2, fun n' hn' => by rw [eo n' hn']; exact anyS_ne hno hn'⟩
