/-! ===== tokens: both cut alike ===== -/
theorem zb_eq {x y c : Int32} (h : zb x y) (hc : 0 ≤ c.toInt ∧ c.toInt < 128) : x = c ↔ y = c := by
  obtain ⟨h1, h2, h3⟩ := h
  rw [i_eq, i_eq, h3]
  split <;> omega
theorem zb_same {x y : Int32} (h : zb x y) (hc : y.toInt < 128) : x = y := by
  obtain ⟨h1, h2, h3⟩ := h
  rw [if_pos hc] at h3
  exact (i_eq _ _).mpr h3
theorem zb_let {x y : Int32} (h : zb x y) : mLet x = mLet y ∧ mDig x = mDig y := by
  obtain ⟨h1, h2, h3⟩ := h
  have e1 : (97 : Int32).toInt = 97 := rfl
  have e2 : (122 : Int32).toInt = 122 := rfl
  have e3 : (48 : Int32).toInt = 48 := rfl
  have e4 : (57 : Int32).toInt = 57 := rfl
  by_cases hc : y.toInt < 128
  · rw [zb_same ⟨h1, h2, h3⟩ hc]; exact ⟨rfl, rfl⟩
  · rw [if_neg hc] at h3
    unfold mLet mDig
    rw [if_pos (show x < 97 by rw [i_lt]; omega), if_neg (show ¬ y < 97 by rw [i_lt]; omega), if_pos (show 122 < y by rw [i_lt]; omega), if_pos (show x < 48 by rw [i_lt]; omega), if_neg (show ¬ y < 48 by rw [i_lt]; omega), if_pos (show 57 < y by rw [i_lt]; omega)]
    exact ⟨rfl, rfl⟩
theorem bt_at {f : Nat → Int32} {N j : Nat} (hN : N ≤ 740) (hj : j < N) : btS f (nI N) (nI j) = f j := by
  unfold btS
  have e7 : (740 : Int32).toInt = 740 := rfl
  have h : inC (nI j) (nI N) 740 = true := by
    cases q : inC (nI j) (nI N) 740
    · have := inC_f q
      rw [nI_toInt (by omega), nI_toInt (by omega)] at this
      omega
    · rfl
  rw [if_pos h, nI_clamp (by omega)]
/-- what both have of the tape while a text is read -/
def zBy (σ μ : MI) (N : Nat) : Prop := N ≤ 740 ∧ σ 2 1 = nI N ∧ μ 0 3 = nI N ∧ ∀ j, j < N → zb (σ 3 j) (μ 1 j)
theorem z_skip {f g : Nat → Int32} {N : Nat} (hN : N ≤ 740) (hb : ∀ j, j < N → zb (f j) (g j)) : ∀ d t r, N - t = d → t ≤ N → d ≤ r → skS f (nI N) r (nI t) = nI (skp g d t) := by
  intro d
  induction d with
  | zero =>
    intro t r h1 h2 h3
    obtain rfl : t = N := by omega
    cases r with
    | zero => rfl
    | succ r => rw [skS, if_pos (by rw [i_le]; exact Int.le_refl _)]; rfl
  | succ d ih =>
    intro t r h1 h2 h3
    cases r with
    | zero => omega
    | succ r =>
      have hz := hb t (by omega)
      rw [skS, if_neg (by rw [i_le, nI_toInt (by omega), nI_toInt (by omega)]; omega), bt_at hN (by omega), skp, nI_1]
      have a := zb_eq hz (c := 32) ⟨by decide, by decide⟩
      have b := zb_eq hz (c := 10) ⟨by decide, by decide⟩
      unfold isBl
      by_cases c1 : g t = 32
      · rw [if_pos c1, if_pos (a.mpr c1), if_pos rfl]
        exact ih (t + 1) r (by omega) (by omega) (by omega)
      · rw [if_neg c1, if_neg (fun w => c1 (a.mp w))]
        by_cases c2 : g t = 10
        · rw [if_pos c2, if_pos (b.mpr c2), if_pos rfl]
          exact ih (t + 1) r (by omega) (by omega) (by omega)
        · rw [if_neg c2, if_neg (fun w => c2 (b.mp w)), if_neg Bool.false_ne_true]
theorem z_run {σ μ : MI} {N G : Nat} (h : zBy σ μ N) (le : Bool) : ∀ m t a d u g w n r1 r2, N - t = m → t ≤ N → G ≤ t → m < r1 → m < r2 → a + d = t - G → (g = true ↔ (if le = true then d = 0 else a = 0)) → (le = true → g = true → (t - G ≤ 8 → w = hsh (μ 1) G (t - G)) ∧ ∀ j, G ≤ j → j < t → mLet (μ 1 j) = true) → (le = false → g = true → t - G ≤ 4 → u = n) →
    ∃ A D U E g' w' n', lnS (σ 3) (nI N) r1 (nI t) (nI a) (nI d) u = (nI A, nI D, U) ∧ tkL μ G le r2 t g w n = (E, g', w', n') ∧ t ≤ E ∧ E ≤ N ∧ A + D = E - G ∧ (g' = true ↔ (if le = true then D = 0 else A = 0)) ∧ (le = true → g' = true → (E - G ≤ 8 → w' = hsh (μ 1) G (E - G)) ∧ ∀ j, G ≤ j → j < E → mLet (μ 1 j) = true) ∧ (le = false → g' = true → E - G ≤ 4 → U = n') ∧ a ≤ A ∧ d ≤ D ∧ (t < N → (mLet (μ 1 t) = true → a < A) ∧ (mLet (μ 1 t) = false → mDig (μ 1 t) = true → d < D)) := by
  obtain ⟨hN, hl, h3, hb⟩ := h
  have e97 : (97 : Int32).toInt = 97 := rfl
  have e122 : (122 : Int32).toInt = 122 := rfl
  have e48 : (48 : Int32).toInt = 48 := rfl
  have e57 : (57 : Int32).toInt = 57 := rfl
  intro m
  induction m with
  | zero =>
    intro t a d u g w n r1 r2 hm ht hG f1 f2 i1 i2 i3 i4
    obtain rfl : t = N := by omega
    obtain ⟨r1, rfl⟩ : ∃ r, r1 = r + 1 := ⟨r1 - 1, by omega⟩
    obtain ⟨r2, rfl⟩ : ∃ r, r2 = r + 1 := ⟨r2 - 1, by omega⟩
    refine ⟨a, d, u, t, g, w, n, ?_, ?_, Nat.le_refl t, Nat.le_refl t, i1, i2, i3, i4, Nat.le_refl a, Nat.le_refl d, fun q => absurd q (Nat.lt_irrefl t)⟩
    · rw [lnS, if_pos (by rw [i_le]; exact Int.le_refl _)]
    · rw [tkL, if_neg]
      intro q
      exact absurd (tkC_lt h3 hN (Nat.le_refl t) q) (Nat.lt_irrefl t)
  | succ m ih =>
    intro t a d u g w n r1 r2 hm ht hG f1 f2 i1 i2 i3 i4
    obtain ⟨r1, rfl⟩ : ∃ r, r1 = r + 1 := ⟨r1 - 1, by omega⟩
    obtain ⟨r2, rfl⟩ : ∃ r, r2 = r + 1 := ⟨r2 - 1, by omega⟩
    have hz := hb t (by omega)
    have hlt := zb_let hz
    have eC : tkC μ t = if mLet (μ 1 t) = true then true else mDig (μ 1 t) := by unfold tkC; rw [mTape_in h3 hN (by omega)]
    rw [lnS, if_neg (by rw [i_le, nI_toInt (by omega), nI_toInt (by omega)]; omega), bt_at hN (by omega), tkL, eC]
    cases hL : mLet (μ 1 t)
    · rw [if_neg Bool.false_ne_true]
      have hLf : mLet (σ 3 t) = false := hlt.1.trans hL
      have notlet : ¬ (97 ≤ (σ 3 t).toInt ∧ (σ 3 t).toInt ≤ 122) := fun q => by
        unfold mLet at hLf
        rw [if_neg (by rw [i_lt]; omega), if_neg (by rw [i_lt]; omega)] at hLf
        cases hLf
      cases hD : mDig (μ 1 t)
      · have hDf : mDig (σ 3 t) = false := hlt.2.trans hD
        have notdig : ¬ (48 ≤ (σ 3 t).toInt ∧ (σ 3 t).toInt ≤ 57) := fun q => by
          unfold mDig at hDf
          rw [if_neg (by rw [i_lt]; omega), if_neg (by rw [i_lt]; omega)] at hDf
          cases hDf
        rw [if_neg Bool.false_ne_true]
        refine ⟨a, d, u, t, g, w, n, ?_, rfl, Nat.le_refl t, ht, i1, i2, i3, i4, Nat.le_refl a, Nat.le_refl d, fun _ => ⟨fun q => (by cases q), fun _ q => (by cases q)⟩⟩
        by_cases c1 : σ 3 t < 97
        · rw [if_pos c1]
          by_cases c2 : σ 3 t < 48
          · rw [if_pos c2]
          · rw [if_neg c2, if_pos (by rw [i_lt] at c1 c2 ⊢; omega)]
        · rw [if_neg c1, if_pos (by rw [i_lt] at c1 ⊢; omega)]
          by_cases c2 : σ 3 t < 48
          · rw [if_pos c2]
          · rw [if_neg c2, if_pos (by rw [i_lt] at c1 c2 ⊢; omega)]
      · have hd := mDig_t hD
        have es : σ 3 t = μ 1 t := zb_same hz (by omega)
        rw [if_pos rfl, es, if_pos (show μ 1 t < 97 by rw [i_lt]; omega), if_neg (show ¬ μ 1 t < 48 by rw [i_lt]; omega), if_neg (show ¬ 57 < μ 1 t by rw [i_lt]; omega), nI_1, nI_1]
        have hg2 : tkG g le (μ 1 t) = (if g = true then (if le = true then false else true) else false) := by
          unfold tkG
          rw [hL]
          cases g <;> cases le <;> rfl
        obtain ⟨A, D, U, E, g', w', n', q1, q2, q3, q4, q5, q6, q7, q8, q9, q10, -⟩ := ih (t + 1) a (d + 1) (u * 10 + μ 1 t - 48) (tkG g le (μ 1 t)) (if 8 ≤ nI t - nI G then w else 27 * w + (μ 1 t).toInt64 - 96) (if 4 ≤ nI t - nI G then n else 10 * n + μ 1 t - 48) r1 r2 (by omega) (by omega) (by omega) (by omega) (by omega) (by omega) (by
            rw [hg2]
            cases le
            · cases g
              · exact ⟨fun q => (by cases q), fun q => absurd (i2.mpr q) (by decide)⟩
              · exact ⟨fun _ => i2.mp rfl, fun _ => rfl⟩
            · cases g
              · exact ⟨fun q => (by cases q), fun q => by rw [if_pos rfl] at q; omega⟩
              · exact ⟨fun q => (by cases q), fun q => by rw [if_pos rfl] at q; omega⟩) (by
            intro k1 k2
            rw [hg2, k1] at k2
            cases g <;> cases k2) (by
            intro k1 k2 k3
            rw [hg2, k1] at k2
            have gt : g = true := by cases g; cases k2; rfl
            have := i4 k1 gt (by omega)
            rw [if_neg (by rw [nI_sub' (by omega) (by omega), i_le, nI_toInt (by omega)]; have : (4 : Int32).toInt = 4 := rfl; omega), this, Int32.mul_comm])
        exact ⟨A, D, U, E, g', w', n', q1, q2, by omega, q4, q5, q6, q7, q8, q9, by omega, fun _ => ⟨fun q => (by cases q), fun _ _ => by omega⟩⟩
    · rw [if_pos rfl, if_pos rfl]
      have hd := mLet_t hL
      have es : σ 3 t = μ 1 t := zb_same hz (by omega)
      rw [es, if_neg (show ¬ μ 1 t < 97 by rw [i_lt]; omega), if_neg (show ¬ 122 < μ 1 t by rw [i_lt]; omega), nI_1, nI_1]
      have hg2 : tkG g le (μ 1 t) = (if g = true then le else false) := by
        unfold tkG
        rw [hL]
        cases g <;> cases le <;> rfl
      obtain ⟨A, D, U, E, g', w', n', q1, q2, q3, q4, q5, q6, q7, q8, q9, q10, -⟩ := ih (t + 1) (a + 1) d u (tkG g le (μ 1 t)) (if 8 ≤ nI t - nI G then w else 27 * w + (μ 1 t).toInt64 - 96) (if 4 ≤ nI t - nI G then n else 10 * n + μ 1 t - 48) r1 r2 (by omega) (by omega) (by omega) (by omega) (by omega) (by omega) (by
          rw [hg2]
          cases le
          · cases g
            · exact ⟨fun q => (by cases q), fun q => by rw [if_neg Bool.false_ne_true] at q; omega⟩
            · exact ⟨fun q => (by cases q), fun q => by rw [if_neg Bool.false_ne_true] at q; omega⟩
          · cases g
            · exact ⟨fun q => (by cases q), fun q => absurd (i2.mpr q) (by decide)⟩
            · exact ⟨fun _ => i2.mp rfl, fun _ => rfl⟩) (by
          intro k1 k2
          rw [hg2, k1] at k2
          have gt : g = true := by cases g; cases k2; rfl
          have old := i3 k1 gt
          refine ⟨fun k3 => ?_, fun j j1 j2 => ?_⟩
          · rw [if_neg (by rw [nI_sub' (by omega) (by omega), i_le, nI_toInt (by omega)]; have : (8 : Int32).toInt = 8 := rfl; omega), old.1 (by omega), show t + 1 - G = (t - G) + 1 by omega, hsh, show G + (t - G) = t by omega]
          · rcases (by omega : j < t ∨ j = t) with k | k
            · exact old.2 j j1 k
            · subst k; exact hL) (by
          intro k1 k2
          rw [hg2, k1] at k2
          cases g <;> cases k2)
      exact ⟨A, D, U, E, g', w', n', q1, q2, by omega, q4, q5, q6, q7, q8, by omega, q10, fun _ => ⟨fun _ => by omega, fun q => (by cases q)⟩⟩
/-- the token that both stand at -/
def zK (σ μ : MI) (υ : ML) (N : Nat) : Prop := zBy σ μ N ∧ σ 2 2 = μ 0 5 ∧
  ((σ 2 4 = 4 ∧ μ 0 6 = 0) ∨ (σ 2 4 = 0 ∧ μ 0 6 = 1) ∨
   (σ 2 4 = 1 ∧ μ 0 6 = 2 ∧ ∃ s e : Nat, s < e ∧ e ≤ N ∧ e - s ≤ 8 ∧ σ 2 2 = nI s ∧ σ 2 3 = nI e ∧ μ 0 4 = nI e ∧ (∀ j, j < e - s → mLet (μ 1 (s + j)) = true) ∧ υ 0 11 = hsh (μ 1) s (e - s)) ∨
   (σ 2 4 = 2 ∧ μ 0 6 = 3 ∧ σ 2 5 = μ 0 7 ∧ 0 ≤ (μ 0 7).toInt ∧ ∃ e : Nat, e ≤ N ∧ σ 2 3 = nI e ∧ μ 0 4 = nI e) ∨
   (σ 2 4 = 3 ∧ μ 0 6 = 4 ∧ ∃ s : Nat, s < N ∧ σ 2 2 = nI s ∧ σ 2 3 = nI (s + 1) ∧ μ 0 4 = nI (s + 1) ∧ μ 0 8 = μ 1 s))
/-- where the next token begins -/
def zP (σ μ : MI) (N : Nat) : Prop := zBy σ μ N ∧ ∃ t : Nat, t ≤ N ∧ σ 2 3 = nI t ∧ μ 0 4 = nI t
theorem zBy_of {σ σ' μ μ' : MI} {N : Nat} (h : zBy σ μ N) (h1 : σ' 2 1 = σ 2 1) (h2 : σ' 3 = σ 3) (h3 : μ' 0 3 = μ 0 3) (h4 : μ' 1 = μ 1) : zBy σ' μ' N := by
  obtain ⟨a, b, c, d⟩ := h
  exact ⟨a, by rw [h1]; exact b, by rw [h3]; exact c, fun j hj => by rw [h2, h4]; exact d j hj⟩
theorem goM_1 (μ : MI) : goM μ 1 = μ 1 := goM_ne μ (by decide)
theorem z_cut {σ μ : MI} (υ : ML) {N G : Nat} (hB : zBy σ μ N) (hG : G < N) (hs : σ 2 2 = nI G) (eG : gT μ = G) : zK (cuS σ) (gB μ) (if (if mLet (gC μ) = true then true else mDig (gC μ)) = true then s2L υ 0 11 (gK μ).2.2.1 else υ) N := by
  obtain ⟨hN, hl, h3, hb⟩ := id hB
  have hz := hb G hG
  have hzl := zb_let hz
  have eC : gC μ = μ 1 G := by unfold gC; rw [eG]
  have ebt : btS (σ 3) (σ 2 1) (σ 2 2) = σ 3 G := by rw [hl, hs, bt_at hN hG]
  have hlt : nI (gT μ) < μ 0 3 := by rw [eG, h3, i_lt, nI_toInt (by omega), nI_toInt (by omega)]; omega
  have e59 := zb_eq hz (c := 59) ⟨by decide, by decide⟩
  have e61 := zb_eq hz (c := 61) ⟨by decide, by decide⟩
  have e43 := zb_eq hz (c := 43) ⟨by decide, by decide⟩
  have gO5 : gO μ 0 5 = nI G := by rw [gO, s2_eq, eG]
  have gO0 : ∀ j, j ≠ 4 → j ≠ 5 → gO μ 0 j = μ 0 j := fun j w1 w2 => by rw [gO, s2_nj _ _ _ w2, s2_nj _ _ _ w1]
  have gO1 : gO μ 1 = μ 1 := gO_at μ (by decide)
  have cu2 : ∀ c, c ≠ 2 → cuS σ c = σ c := fun c w => cuS_ne σ w
  have sgS : isSg (σ 3 G) = true ↔ (μ 1 G = 59 ∨ μ 1 G = 61 ∨ μ 1 G = 43) := by
    unfold isSg
    by_cases a : σ 3 G = 59
    · rw [if_pos a]; exact ⟨fun _ => Or.inl (e59.mp a), fun _ => rfl⟩
    · rw [if_neg a]
      by_cases b : σ 3 G = 61
      · rw [if_pos b]; exact ⟨fun _ => Or.inr (Or.inl (e61.mp b)), fun _ => rfl⟩
      · rw [if_neg b]
        by_cases c : σ 3 G = 43
        · rw [if_pos c]; exact ⟨fun _ => Or.inr (Or.inr (e43.mp c)), fun _ => rfl⟩
        · rw [if_neg c]
          refine ⟨fun q => (by cases q), fun q => ?_⟩
          rcases q with q | q | q
          · exact absurd (e59.mpr q) a
          · exact absurd (e61.mpr q) b
          · exact absurd (e43.mpr q) c
  have gBe : gB μ = if (if mLet (gC μ) = true then true else mDig (gC μ)) = true then s2 (s2 (s2 (gO μ) 0 7 (gK μ).2.2.2) 0 4 (nI (gK μ).1)) 0 6 (tkS (gT μ) (mLet (gC μ)) (gK μ)) else s2 (s2 (s2 (gO μ) 0 6 (gS (gC μ))) 0 8 (gC μ)) 0 4 (nI (gT μ) + 1) := by
    unfold gB
    rw [if_pos hlt]
  rw [gBe, eC]
  by_cases hch : (if mLet (μ 1 G) = true then true else mDig (μ 1 G)) = true
  · rw [if_pos hch, if_pos hch]
    have nsg : ¬ isSg (btS (σ 3) (σ 2 1) (σ 2 2)) = true := by
      rw [ebt, sgS]
      intro q
      rcases q with q | q | q <;> (rw [q] at hch; exact absurd hch (by decide))
    have hcl : (μ 0 3).toNatClampNeg = N := by rw [h3, nI_clamp (by omega)]
    obtain ⟨A, D, U, E, g', w', n', q1, q2, q3, q4, q5, q6, q7, q8, -, -, q11⟩ := z_run (G := G) hB (mLet (μ 1 G)) (N - G) G 0 0 0 true 0 0 741 (N - G + 1) rfl (by omega) (Nat.le_refl G) (by omega) (by omega) (by omega) (by cases mLet (μ 1 G) <;> exact ⟨fun _ => rfl, fun _ => rfl⟩) (fun _ _ => ⟨fun _ => by rw [Nat.sub_self]; rfl, fun j j1 j2 => by omega⟩) (fun _ _ _ => rfl)
    have ek : gK μ = (E, g', w', n') := by unfold gK; rw [eC, eG, hcl]; exact q2
    have el : lnS (σ 3) (σ 2 1) 741 (σ 2 2) 0 0 0 = (nI A, nI D, U) := by rw [hl, hs]; exact q1
    have hE : G < E := by
      rcases (by omega : G < E ∨ E = G) with w | w
      · exact w
      · -- the run has its first byte
        exfalso
        have := q2
        rw [show N - G + 1 = (N - G) + 1 from rfl, tkL, if_pos (by unfold tkC; rw [mTape_in h3 hN hG]; exact hch)] at this
        have ht := tkL_t μ G (mLet (μ 1 G)) h3 hN (N - G) (G + 1) (tkG true (mLet (μ 1 G)) (μ 1 G)) (if 8 ≤ nI G - nI G then 0 else 27 * 0 + (μ 1 G).toInt64 - 96) (if 4 ≤ nI G - nI G then 0 else 10 * 0 + μ 1 G - 48) (by omega)
        rw [this] at ht
        have h5 := ht.1
        dsimp only at h5
        omega
    have en : mxS (nI G + 1) (nI G + nI A + nI D) = nI E := by
      unfold mxS
      rw [nI_1, nI_add, nI_add, show G + A + D = E by omega]
      by_cases w : G + 1 < E
      · rw [if_pos (by rw [i_lt, nI_toInt (by omega), nI_toInt (by omega)]; omega)]
      · rw [if_neg (by rw [i_lt, nI_toInt (by omega), nI_toInt (by omega)]; omega)]
        congr 1
        omega
    have ecu : cuS σ = s2 (s2 (s2 (s2 σ 2 3 (nI G + 1)) 2 5 U) 2 3 (nI E)) 2 4 (kdS (nI A) (nI D)) := by
      unfold cuS
      rw [if_neg nsg, el, hs, en]
    rw [ek, eG, ecu]
    have esub : nI E - nI G = nI (E - G) := nI_sub' (by omega) (by omega)
    have e8 : (8 : Int32).toInt = 8 := rfl
    have e4 : (4 : Int32).toInt = 4 := rfl
    have e1 := z1
    have e0 := z0
    refine ⟨zBy_of hB ?_ ?_ ?_ ?_, ?_, ?_⟩
    · rw [s2_nj _ _ _ (by decide), s2_nj _ _ _ (by decide), s2_nj _ _ _ (by decide), s2_nj _ _ _ (by decide)]
    · rw [s2_nk _ _ _ (by decide), s2_nk _ _ _ (by decide), s2_nk _ _ _ (by decide), s2_nk _ _ _ (by decide)]
    · rw [s2_nj _ _ _ (by decide), s2_nj _ _ _ (by decide), s2_nj _ _ _ (by decide), gO0 3 (by decide) (by decide)]
    · rw [s2_nk _ _ _ (by decide), s2_nk _ _ _ (by decide), s2_nk _ _ _ (by decide), gO1]
    · rw [s2_nj _ _ _ (by decide), s2_nj _ _ _ (by decide), s2_nj _ _ _ (by decide), s2_nj _ _ _ (by decide), s2_nj _ _ _ (by decide), s2_nj _ _ _ (by decide), s2_nj _ _ _ (by decide), gO5, hs]
    · have k24 : s2 (s2 (s2 (s2 σ 2 3 (nI G + 1)) 2 5 U) 2 3 (nI E)) 2 4 (kdS (nI A) (nI D)) 2 4 = kdS (nI A) (nI D) := s2_eq _ _ _ _
      have k22 : s2 (s2 (s2 (s2 σ 2 3 (nI G + 1)) 2 5 U) 2 3 (nI E)) 2 4 (kdS (nI A) (nI D)) 2 2 = nI G := by rw [s2_nj _ _ _ (by decide), s2_nj _ _ _ (by decide), s2_nj _ _ _ (by decide), s2_nj _ _ _ (by decide), hs]
      have k23 : s2 (s2 (s2 (s2 σ 2 3 (nI G + 1)) 2 5 U) 2 3 (nI E)) 2 4 (kdS (nI A) (nI D)) 2 3 = nI E := by rw [s2_nj _ _ _ (by decide), s2_eq]
      have k25 : s2 (s2 (s2 (s2 σ 2 3 (nI G + 1)) 2 5 U) 2 3 (nI E)) 2 4 (kdS (nI A) (nI D)) 2 5 = U := by rw [s2_nj _ _ _ (by decide), s2_nj _ _ _ (by decide), s2_eq]
      have m06 : ∀ z, s2 (s2 (s2 (gO μ) 0 7 n') 0 4 (nI E)) 0 6 z 0 6 = z := fun z => s2_eq _ _ _ _
      have m07 : ∀ z, s2 (s2 (s2 (gO μ) 0 7 n') 0 4 (nI E)) 0 6 z 0 7 = n' := fun z => by rw [s2_nj _ _ _ (by decide), s2_nj _ _ _ (by decide), s2_eq]
      have m04 : ∀ z, s2 (s2 (s2 (gO μ) 0 7 n') 0 4 (nI E)) 0 6 z 0 4 = nI E := fun z => by rw [s2_nj _ _ _ (by decide), s2_eq]
      have m1 : ∀ z, s2 (s2 (s2 (gO μ) 0 7 n') 0 4 (nI E)) 0 6 z 1 = μ 1 := fun z => by rw [s2_nk _ _ _ (by decide), s2_nk _ _ _ (by decide), s2_nk _ _ _ (by decide), gO1]
      simp only [k24, k22, k23, k25, m06, m07, m04, m1, s2L_eq]
      unfold tkS kdS wdB nmB
      simp only [esub]
      have zA : nI A = 0 ↔ A = 0 := by rw [i_eq, nI_toInt (by omega)]; omega
      have zD : nI D = 0 ↔ D = 0 := by rw [i_eq, nI_toInt (by omega)]; omega
      cases hle : mLet (μ 1 G)
      · -- digits first
        rw [hle] at q6 q8
        rw [if_neg Bool.false_ne_true] at q6
        cases hg : g'
        · have hA : A ≠ 0 := fun w => by rw [q6.mpr w] at hg; cases hg
          have hD : D ≠ 0 := by
            have dg : mDig (μ 1 G) = true := by rw [hle] at hch; simpa using hch
            have := (q11 hG).2 hle dg
            omega
          refine Or.inr (Or.inl ⟨?_, ?_⟩)
          · rw [if_neg (fun w => hD (zD.mp w)), if_neg Bool.false_ne_true, if_neg (fun w => hA (zA.mp w)), if_neg Bool.false_ne_true]
          · simp
        · have hA : A = 0 := q6.mp hg
          subst hA
          have hDE : D = E - G := by omega
          have hD0 : ¬ nI D = 0 := fun w => by have := zD.mp w; omega
          rw [if_neg hD0, if_neg Bool.false_ne_true, if_pos nI_0, if_neg (show ¬ nI D < 1 by rw [i_lt, nI_toInt (by omega)]; omega)]
          by_cases h4 : E - G ≤ 4
          · rw [if_neg (show ¬ 4 < nI D by rw [i_lt, nI_toInt (by omega)]; omega), if_pos rfl, if_pos (show nI (E - G) ≤ 4 by rw [i_le, nI_toInt (by omega)]; omega)]
            have hn := tkL_num μ G h3 hN (N - G + 1) G true 0 0 (Nat.le_refl G) (by omega) (fun _ => ⟨fun _ => by rw [Nat.sub_self]; exact ⟨by decide, by decide⟩, fun _ => trivial⟩)
            rw [hle] at q2
            rw [q2] at hn
            exact Or.inr (Or.inr (Or.inr (Or.inl ⟨rfl, by simp, q8 rfl hg h4, (hn hg h4).1, E, q4, rfl, rfl⟩)))
          · rw [if_pos (show 4 < nI D by rw [i_lt, nI_toInt (by omega)]; omega), if_neg Bool.false_ne_true, if_neg (show ¬ nI (E - G) ≤ 4 by rw [i_le, nI_toInt (by omega)]; omega)]
            exact Or.inr (Or.inl ⟨rfl, by simp⟩)
      · rw [hle] at q6 q7
        rw [if_pos rfl] at q6
        cases hg : g'
        · have hD : D ≠ 0 := fun w => by rw [q6.mpr w] at hg; cases hg
          have hA : A ≠ 0 := by
            have := (q11 hG).1 hle
            omega
          refine Or.inr (Or.inl ⟨?_, ?_⟩)
          · rw [if_neg (fun w => hD (zD.mp w)), if_neg Bool.false_ne_true, if_neg (fun w => hA (zA.mp w)), if_neg Bool.false_ne_true]
          · simp
        · have hD : D = 0 := q6.mp hg
          subst hD
          have hAE : A = E - G := by omega
          rw [if_pos nI_0, if_neg (show ¬ nI A < 1 by rw [i_lt, nI_toInt (by omega)]; omega)]
          by_cases h8 : E - G ≤ 8
          · rw [if_neg (show ¬ 8 < nI A by rw [i_lt, nI_toInt (by omega)]; omega), if_pos rfl, if_pos (show nI (E - G) ≤ 8 by rw [i_le, nI_toInt (by omega)]; omega)]
            refine Or.inr (Or.inr (Or.inl ⟨rfl, by simp, G, E, hE, q4, h8, rfl, rfl, rfl, fun j hj => (q7 rfl hg).2 (G + j) (by omega) (by omega), (q7 rfl hg).1 h8⟩))
          · have hA0 : ¬ nI A = 0 := fun w => by have := zA.mp w; omega
            rw [if_pos (show 8 < nI A by rw [i_lt, nI_toInt (by omega)]; omega), if_neg Bool.false_ne_true, if_neg hA0, if_neg Bool.false_ne_true, if_neg (show ¬ nI (E - G) ≤ 8 by rw [i_le, nI_toInt (by omega)]; omega)]
            exact Or.inr (Or.inl ⟨rfl, by simp⟩)
  · rw [if_neg hch, if_neg hch]
    have m05 : s2 (s2 (s2 (gO μ) 0 6 (gS (μ 1 G))) 0 8 (μ 1 G)) 0 4 (nI (gT μ) + 1) 0 5 = nI G := by rw [s2_nj _ _ _ (by decide), s2_nj _ _ _ (by decide), s2_nj _ _ _ (by decide), gO5]
    have m06 : s2 (s2 (s2 (gO μ) 0 6 (gS (μ 1 G))) 0 8 (μ 1 G)) 0 4 (nI (gT μ) + 1) 0 6 = gS (μ 1 G) := by rw [s2_nj _ _ _ (by decide), s2_nj _ _ _ (by decide), s2_eq]
    have m04 : s2 (s2 (s2 (gO μ) 0 6 (gS (μ 1 G))) 0 8 (μ 1 G)) 0 4 (nI (gT μ) + 1) 0 4 = nI (G + 1) := by rw [s2_eq, eG, nI_1]
    have m08 : s2 (s2 (s2 (gO μ) 0 6 (gS (μ 1 G))) 0 8 (μ 1 G)) 0 4 (nI (gT μ) + 1) 0 8 = μ 1 G := by rw [s2_nj _ _ _ (by decide), s2_eq]
    have m03 : s2 (s2 (s2 (gO μ) 0 6 (gS (μ 1 G))) 0 8 (μ 1 G)) 0 4 (nI (gT μ) + 1) 0 3 = μ 0 3 := by rw [s2_nj _ _ _ (by decide), s2_nj _ _ _ (by decide), s2_nj _ _ _ (by decide), gO0 3 (by decide) (by decide)]
    have m1 : s2 (s2 (s2 (gO μ) 0 6 (gS (μ 1 G))) 0 8 (μ 1 G)) 0 4 (nI (gT μ) + 1) 1 = μ 1 := by rw [s2_nk _ _ _ (by decide), s2_nk _ _ _ (by decide), s2_nk _ _ _ (by decide), gO1]
    by_cases hsg : isSg (btS (σ 3) (σ 2 1) (σ 2 2)) = true
    · have ecu : cuS σ = s2 (s2 σ 2 3 (nI (G + 1))) 2 4 3 := by unfold cuS; rw [if_pos hsg, hs, nI_1]
      rw [ebt] at hsg
      have hg4 : gS (μ 1 G) = 4 := by
        rcases sgS.mp hsg with q | q | q <;> rw [q] <;> rfl
      rw [ecu]
      refine ⟨zBy_of hB ?_ ?_ m03 m1, ?_, Or.inr (Or.inr (Or.inr (Or.inr ⟨s2_eq _ _ _ _, by rw [m06, hg4], G, hG, ?_, ?_, m04, by rw [m08, m1]⟩)))⟩
      · rw [s2_nj _ _ _ (by decide), s2_nj _ _ _ (by decide)]
      · rw [s2_nk _ _ _ (by decide), s2_nk _ _ _ (by decide)]
      · rw [m05, s2_nj _ _ _ (by decide), s2_nj _ _ _ (by decide), hs]
      · rw [s2_nj _ _ _ (by decide), s2_nj _ _ _ (by decide), hs]
      · rw [s2_nj _ _ _ (by decide), s2_eq]
    · have hns := hsg
      rw [ebt] at hns
      have hg1 : gS (μ 1 G) = 1 := by
        unfold gS
        rw [if_neg (fun w => hns (sgS.mpr (Or.inl w))), if_neg (fun w => hns (sgS.mpr (Or.inr (Or.inl w)))), if_neg (fun w => hns (sgS.mpr (Or.inr (Or.inr w))))]
      have el : lnS (σ 3) (σ 2 1) 741 (σ 2 2) 0 0 0 = (0, 0, 0) := by
        have nl : mLet (σ 3 G) = false := by
          rw [hzl.1]
          cases q : mLet (μ 1 G)
          · rfl
          · rw [q] at hch; exact absurd rfl hch
        have nd : mDig (σ 3 G) = false := by
          rw [hzl.2]
          cases q : mDig (μ 1 G)
          · rfl
          · rw [q] at hch
            exact absurd (by split <;> rfl) hch
        unfold mLet at nl
        unfold mDig at nd
        rw [lnS, ebt, hl, hs, if_neg (by rw [i_le, nI_toInt (by omega), nI_toInt (by omega)]; omega)]
        have dg : (if σ 3 G < 48 then ((0 : Int32), (0 : Int32), (0 : Int32)) else if 57 < σ 3 G then (0, 0, 0) else lnS (σ 3) (nI N) 740 (nI G + 1) 0 (0 + 1) (0 * 10 + σ 3 G - 48)) = (0, 0, 0) := by
          by_cases c1 : σ 3 G < 48
          · rw [if_pos c1]
          · rw [if_neg c1] at nd ⊢
            by_cases c2 : 57 < σ 3 G
            · rw [if_pos c2]
            · rw [if_neg c2] at nd; cases nd
        by_cases c1 : σ 3 G < 97
        · rw [if_pos c1]; exact dg
        · rw [if_neg c1] at nl ⊢
          by_cases c2 : 122 < σ 3 G
          · rw [if_pos c2]; exact dg
          · rw [if_neg c2] at nl; cases nl
      have ecu : cuS σ = s2 (s2 (s2 (s2 σ 2 3 (nI G + 1)) 2 5 0) 2 3 (mxS (nI G + 1) (nI G + 0 + 0))) 2 4 0 := by
        unfold cuS
        rw [if_neg hsg, el, hs]
        rfl
      rw [ecu]
      refine ⟨zBy_of hB ?_ ?_ m03 m1, ?_, Or.inr (Or.inl ⟨s2_eq _ _ _ _, by rw [m06, hg1]⟩)⟩
      · rw [s2_nj _ _ _ (by decide), s2_nj _ _ _ (by decide), s2_nj _ _ _ (by decide), s2_nj _ _ _ (by decide)]
      · rw [s2_nk _ _ _ (by decide), s2_nk _ _ _ (by decide), s2_nk _ _ _ (by decide), s2_nk _ _ _ (by decide)]
      · rw [m05, s2_nj _ _ _ (by decide), s2_nj _ _ _ (by decide), s2_nj _ _ _ (by decide), s2_nj _ _ _ (by decide), hs]
