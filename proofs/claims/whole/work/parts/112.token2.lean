/-! ===== the next token; words, names, signs ===== -/
theorem goM_0 (μ : MI) {j : Nat} (h4 : j ≠ 4) (h5 : j ≠ 5) (h6 : j ≠ 6) (h7 : j ≠ 7) (h8 : j ≠ 8) : goM μ 0 j = μ 0 j := by
  have hO : gO μ 0 j = μ 0 j := by rw [gO, s2_nj _ _ _ h5, s2_nj _ _ _ h4]
  have hB : gB μ 0 j = μ 0 j := by
    unfold gB
    generalize (if mLet (gC μ) = true then true else mDig (gC μ)) = qq
    split
    · split
      · rw [s2_nj _ _ _ h6, s2_nj _ _ _ h4, s2_nj _ _ _ h7, hO]
      · rw [s2_nj _ _ _ h4, s2_nj _ _ _ h8, s2_nj _ _ _ h6, hO]
    · rw [s2_nj _ _ _ h6, hO]
  unfold goM
  split
  · exact hB
  · split
    · exact hB
    · rw [s2_nj _ _ _ h6, s2_nj _ _ _ h5, hO]
theorem z_go {σ μ : MI} (υ : ML) {N : Nat} (h : zP σ μ N) : zK (adS σ) (goM μ) (goT μ υ) N := by
  obtain ⟨hB, t, ht, hs, hm⟩ := h
  obtain ⟨hN, hl, h3, hb⟩ := id hB
  have ht7 : t ≤ 740 := by omega
  have eG : gT μ = skp (μ 1) (N - t) t := by unfold gT; rw [h3, hm, nI_clamp (by omega), nI_clamp (by omega)]
  have hG := skp_le (μ 1) (N - t) t
  have eS : skS (σ 3) (σ 2 1) 741 (σ 2 3) = nI (skp (μ 1) (N - t) t) := by
    rw [hl, hs]
    exact z_skip hN hb (N - t) t 741 rfl ht (by omega)
  generalize skp (μ 1) (N - t) t = G at *
  have aT : adT σ = s2 σ 2 2 (nI G) := by unfold adT; rw [eS]
  have a22 : adT σ 2 2 = nI G := by rw [aT, s2_eq]
  have hBa : zBy (adT σ) μ N := zBy_of hB (by rw [aT, s2_nj _ _ _ (by decide)]) (by rw [aT, s2_nk _ _ _ (by decide)]) rfl rfl
  have e7 : (700 : Int32).toInt = 700 := rfl
  have tG : (nI G).toInt = (G : Int) := nI_toInt (by omega)
  have tN : (nI N).toInt = (N : Int) := nI_toInt (by omega)
  have l7 : nI G < 700 ↔ G < 700 := by rw [i_lt, tG, e7]; omega
  have lN : nI G < nI N ↔ G < N := by rw [i_lt, tG, tN]; omega
  have n7 : nI N ≤ 700 ↔ N ≤ 700 := by rw [i_le, tN, e7]; omega
  have cut : G < N → (adS σ = cuS (adT σ)) → goM μ = gB μ → (gX μ = (if mLet (gC μ) = true then true else mDig (gC μ))) → zK (adS σ) (goM μ) (goT μ υ) N := fun w e1 e2 e3 => by
    have q := z_cut υ hBa w a22 eG
    rw [e1, e2]
    unfold goT
    rw [e3]
    exact q
  have fin : ¬ G < N → (adS σ = s2 (adT σ) 2 4 4) → goM μ = gB μ → zK (adS σ) (goM μ) (goT μ υ) N := fun w e1 e2 => by
    have eB : gB μ = s2 (gO μ) 0 6 0 := by unfold gB; rw [if_neg (by rw [eG, h3, lN]; exact w)]
    rw [e1, e2, eB]
    refine ⟨zBy_of hB ?_ ?_ ?_ ?_, ?_, Or.inl ⟨s2_eq _ _ _ _, s2_eq _ _ _ _⟩⟩
    · rw [s2_nj _ _ _ (by decide), aT, s2_nj _ _ _ (by decide)]
    · rw [s2_nk _ _ _ (by decide), aT, s2_nk _ _ _ (by decide)]
    · rw [s2_nj _ _ _ (by decide), gO_03]
    · rw [s2_nk _ _ _ (by decide), gO_at μ (by decide)]
    · rw [s2_nj _ _ _ (by decide), a22, s2_nj _ _ _ (by decide), gO, s2_eq, eG]
  by_cases c7 : N ≤ 700
  · have e2 : goM μ = gB μ := by unfold goM; rw [h3, if_pos (n7.mpr c7)]
    by_cases cN : G < N
    · refine cut cN ?_ e2 ?_
      · unfold adS; rw [a22, hl, if_pos (l7.mpr (by omega)), if_pos (lN.mpr cN)]
      · unfold gX; rw [h3, eG, if_pos (n7.mpr c7), if_pos (lN.mpr cN)]
    · refine fin cN ?_ e2
      unfold adS
      rw [a22, hl]
      by_cases c : G < 700
      · rw [if_pos (l7.mpr c), if_neg (fun w => cN (lN.mp w))]
      · rw [if_neg (fun w => c (l7.mp w)), if_pos (n7.mpr c7), if_neg (fun w => cN (lN.mp w))]
  · by_cases c : G < 700
    · have e2 : goM μ = gB μ := by unfold goM; rw [h3, eG, if_neg (fun w => c7 (n7.mp w)), if_pos (l7.mpr c)]
      refine cut (by omega) ?_ e2 ?_
      · unfold adS; rw [a22, hl, if_pos (l7.mpr c), if_pos (lN.mpr (by omega))]
      · unfold gX; rw [h3, eG, if_neg (fun w => c7 (n7.mp w)), if_pos (l7.mpr c), if_pos (lN.mpr (by omega))]
    · have e1 : adS σ = s2 (s2 (adT σ) 2 2 700) 2 4 0 := by unfold adS; rw [a22, hl, if_neg (fun w => c (l7.mp w)), if_neg (fun w => c7 (n7.mp w))]
      have e2 : goM μ = s2 (s2 (gO μ) 0 5 700) 0 6 1 := by unfold goM; rw [h3, eG, if_neg (fun w => c7 (n7.mp w)), if_neg (fun w => c (l7.mp w))]
      rw [e1, e2]
      refine ⟨zBy_of hB ?_ ?_ ?_ ?_, ?_, Or.inr (Or.inl ⟨s2_eq _ _ _ _, s2_eq _ _ _ _⟩)⟩
      · rw [s2_nj _ _ _ (by decide), s2_nj _ _ _ (by decide), aT, s2_nj _ _ _ (by decide)]
      · rw [s2_nk _ _ _ (by decide), s2_nk _ _ _ (by decide), aT, s2_nk _ _ _ (by decide)]
      · rw [s2_nj _ _ _ (by decide), s2_nj _ _ _ (by decide), gO_03]
      · rw [s2_nk _ _ _ (by decide), s2_nk _ _ _ (by decide), gO_at μ (by decide)]
      · rw [s2_nj _ _ _ (by decide), s2_eq, s2_nj _ _ _ (by decide), s2_eq]
/-- kinds -/
theorem zK_num {σ μ : MI} {υ : ML} {N : Nat} (h : zK σ μ υ N) : (σ 2 4 = 2 ↔ μ 0 6 = 3) ∧ (μ 0 6 = 3 → σ 2 5 = μ 0 7 ∧ 0 ≤ (μ 0 7).toInt ∧ zP σ μ N) := by
  obtain ⟨hB, -, h | h | h | h | h⟩ := h
  · rw [h.1, h.2]; exact ⟨⟨fun q => absurd q (by decide), fun q => absurd q (by decide)⟩, fun q => absurd q (by decide)⟩
  · rw [h.1, h.2]; exact ⟨⟨fun q => absurd q (by decide), fun q => absurd q (by decide)⟩, fun q => absurd q (by decide)⟩
  · rw [h.1, h.2.1]; exact ⟨⟨fun q => absurd q (by decide), fun q => absurd q (by decide)⟩, fun q => absurd q (by decide)⟩
  · obtain ⟨a, b, c, d, e, f1, f2, f3⟩ := h
    exact ⟨⟨fun _ => b, fun _ => a⟩, fun _ => ⟨c, d, hB, e, f1, f2, f3⟩⟩
  · rw [h.1, h.2.1]; exact ⟨⟨fun q => absurd q (by decide), fun q => absurd q (by decide)⟩, fun q => absurd q (by decide)⟩
theorem zK_end {σ μ : MI} {υ : ML} {N : Nat} (h : zK σ μ υ N) : σ 2 4 = 4 ↔ μ 0 6 = 0 := by
  obtain ⟨hB, -, h | h | h | h | h⟩ := h
  · exact ⟨fun _ => h.2, fun _ => h.1⟩
  · rw [h.1, h.2]; exact ⟨fun q => absurd q (by decide), fun q => absurd q (by decide)⟩
  · rw [h.1, h.2.1]; exact ⟨fun q => absurd q (by decide), fun q => absurd q (by decide)⟩
  · rw [h.1, h.2.1]; exact ⟨fun q => absurd q (by decide), fun q => absurd q (by decide)⟩
  · rw [h.1, h.2.1]; exact ⟨fun q => absurd q (by decide), fun q => absurd q (by decide)⟩
/-- a word stands there -/
def zW (σ μ : MI) (υ : ML) (N s e : Nat) : Prop := s < e ∧ e ≤ N ∧ e - s ≤ 8 ∧ σ 2 2 = nI s ∧ σ 2 3 = nI e ∧ μ 0 4 = nI e ∧ (∀ j, j < e - s → mLet (μ 1 (s + j)) = true) ∧ υ 0 11 = hsh (μ 1) s (e - s)
theorem zK_word {σ μ : MI} {υ : ML} {N : Nat} (h : zK σ μ υ N) : (σ 2 4 = 1 ↔ μ 0 6 = 2) ∧ (μ 0 6 = 2 → zP σ μ N ∧ ∃ s e, zW σ μ υ N s e) := by
  obtain ⟨hB, -, h | h | h | h | h⟩ := h
  · rw [h.1, h.2]; exact ⟨⟨fun q => absurd q (by decide), fun q => absurd q (by decide)⟩, fun q => absurd q (by decide)⟩
  · rw [h.1, h.2]; exact ⟨⟨fun q => absurd q (by decide), fun q => absurd q (by decide)⟩, fun q => absurd q (by decide)⟩
  · obtain ⟨a, b, s, e, w⟩ := h
    exact ⟨⟨fun _ => b, fun _ => a⟩, fun _ => ⟨⟨hB, e, w.2.1, w.2.2.2.2.1, w.2.2.2.2.2.1⟩, s, e, w⟩⟩
  · rw [h.1, h.2.1]; exact ⟨⟨fun q => absurd q (by decide), fun q => absurd q (by decide)⟩, fun q => absurd q (by decide)⟩
  · rw [h.1, h.2.1]; exact ⟨⟨fun q => absurd q (by decide), fun q => absurd q (by decide)⟩, fun q => absurd q (by decide)⟩
theorem zK_sig {σ μ : MI} {υ : ML} {N : Nat} (h : zK σ μ υ N) {c : Int32} (hc : 0 ≤ c.toInt ∧ c.toInt < 128) : sigS σ c = mSig μ c ∧ (mSig μ c = true → zP σ μ N) := by
  obtain ⟨hB, -, h⟩ := h
  unfold sigS mSig
  rcases h with h | h | h | h | h
  · rw [h.1, h.2]; exact ⟨rfl, fun q => by rw [if_neg (by decide)] at q; cases q⟩
  · rw [h.1, h.2]; exact ⟨rfl, fun q => by rw [if_neg (by decide)] at q; cases q⟩
  · rw [h.1, h.2.1]; exact ⟨rfl, fun q => by rw [if_neg (by decide)] at q; cases q⟩
  · rw [h.1, h.2.1]; exact ⟨rfl, fun q => by rw [if_neg (by decide)] at q; cases q⟩
  · obtain ⟨a, b, s, e, w1, w2, w3, w4⟩ := h
    obtain ⟨hN, hl, h3, hb⟩ := id hB
    rw [if_pos a, if_pos b, hl, w1, bt_at hN e, w4]
    refine ⟨?_, fun _ => ⟨hB, s + 1, by omega, w2, w3⟩⟩
    have q := zb_eq (hb s e) hc
    by_cases c1 : μ 1 s = c
    · rw [if_pos c1, if_pos (q.mpr c1)]
    · rw [if_neg c1, if_neg (fun w => c1 (q.mp w))]
theorem zW_bt {σ μ : MI} {υ : ML} {N s e : Nat} (hB : zBy σ μ N) (w : zW σ μ υ N s e) {k : Nat} (hk : k < e - s) : btS (σ 3) (σ 2 1) (σ 2 2 + nI k) = μ 1 (s + k) := by
  obtain ⟨hN, hl, h3, hb⟩ := hB
  rw [hl, w.2.2.2.1, nI_add, bt_at hN (by have := w.2.1; omega)]
  exact zb_same (hb _ (by have := w.2.1; omega)) (by have := mLet_t (w.2.2.2.2.2.2.1 k hk); omega)
theorem zW_len {σ μ : MI} {υ : ML} {N s e : Nat} (hN : N ≤ 740) (w : zW σ μ υ N s e) : σ 2 3 - σ 2 2 = nI (e - s) := by
  rw [w.2.2.2.1, w.2.2.2.2.1]
  exact nI_sub' (by have := w.1; omega) (by have := w.2.1; omega)
theorem nI_inj' {a b : Nat} (ha : a < 2 ^ 31) (hb : b < 2 ^ 31) : nI a = nI b ↔ a = b := by
  rw [i_eq, nI_toInt ha, nI_toInt hb]; omega
theorem z_wd {σ μ : MI} {υ : ML} {N : Nat} (h : zK σ μ υ N) {w : Nat} (hw : w < 7) : isWd σ w = mIs μ υ (nI w) := by
  have hk := zK_word h
  unfold isWd mIs
  by_cases c : μ 0 6 = 2
  · rw [if_pos c, if_pos (hk.1.mpr c)]
    obtain ⟨-, s, e, ww⟩ := hk.2 c
    have hN := h.1.1
    have hll := wd_len w hw
    rw [zW_len hN ww, ww.2.2.2.2.2.2.2, wd_hsh w hw]
    have inj := hsh_inj (f := μ 1) (g := chJ w) (s := s) (t := 0) ww.2.2.1 hll.1 ww.2.2.2.2.2.2.1 (wd_let w hw)
    by_cases c1 : e - s = lenJ.getD w 0
    · rw [if_pos (by rw [c1])]
      by_cases c2 : hsh (μ 1) s (e - s) = hsh (chJ w) 0 (lenJ.getD w 0)
      · rw [if_pos c2]
        have q := inj.mp c2
        refine allS_t (fun k hk => decide_eq_true ?_)
        rw [zW_bt h.1 ww (by omega), q.2 k (by omega), Nat.zero_add]
      · rw [if_neg c2, Bool.eq_false_iff]
        intro q
        refine c2 (inj.mpr ⟨c1, fun j hj => ?_⟩)
        simp only [allS, List.all_eq_true, List.mem_range] at q
        have := of_decide_eq_true (q j (by omega))
        rw [zW_bt h.1 ww hj] at this
        rw [this, Nat.zero_add]
    · rw [if_neg (fun q => c1 ((nI_inj' (by have := ww.2.2.1; omega) (by omega)).mp q)), if_neg (fun q => c1 (inj.mp q).1)]
  · rw [if_neg c, if_neg (fun q => c (hk.1.mp q))]
theorem z_nm {σ μ : MI} {υ : ML} {N : Nat} (h : zK σ μ υ N) : nmB' σ = mName μ υ := by
  have hk := zK_word h
  have hw := fun w hw => z_wd h (w := w) hw
  unfold nmB' mName
  by_cases c : μ 0 6 = 2
  · rw [if_pos c, if_pos (hk.1.mpr c), hw 0 (by omega), hw 1 (by omega), hw 2 (by omega), hw 3 (by omega), hw 4 (by omega), hw 5 (by omega), hw 6 (by omega)]
    unfold mIs
    simp only [c, ↓reduceIte, mNm]
    by_cases d0 : υ 0 11 = mWord (nI 0)
    · simp [d0]
    · by_cases d1 : υ 0 11 = mWord (nI 1)
      · simp [d0, d1]
      · by_cases d2 : υ 0 11 = mWord (nI 2)
        · simp [d0, d1, d2]
        · by_cases d3 : υ 0 11 = mWord (nI 3)
          · simp [d0, d1, d2, d3]
          · by_cases d4 : υ 0 11 = mWord (nI 4)
            · simp [d0, d1, d2, d3, d4]
            · by_cases d5 : υ 0 11 = mWord (nI 5)
              · simp [d0, d1, d2, d3, d4, d5]
              · simp [d0, d1, d2, d3, d4, d5]
  · rw [if_neg c, if_neg (fun q => c (hk.1.mp q))]
    simp only [mNm, Bool.false_eq_true, ↓reduceIte]
theorem mName_w {μ : MI} {υ : ML} (h : mName μ υ = true) : μ 0 6 = 2 := by
  unfold mName at h
  by_cases c : μ 0 6 = 2
  · exact c
  · rw [if_neg c] at h
    simp only [mNm, Bool.false_eq_true, ↓reduceIte] at h
theorem mIs_w {μ : MI} {υ : ML} {w : Int32} (h : mIs μ υ w = true) : μ 0 6 = 2 := by
  unfold mIs at h
  by_cases c : μ 0 6 = 2
  · exact c
  · rw [if_neg c] at h; cases h
/-- names that were told -/
def zNm (σ μ : MI) (υ : ML) (N i : Nat) : Prop := ∃ p z : Nat, σ 4 i = nI p ∧ σ 5 i = nI z ∧ p + z ≤ N ∧ 1 ≤ z ∧ z ≤ 8 ∧ (∀ j, j < z → mLet (μ 1 (p + j)) = true) ∧ υ 5 i = hsh (μ 1) p z
theorem z_sam {σ μ : MI} {υ : ML} {N i : Nat} (h : zK σ μ υ N) (c : μ 0 6 = 2) (hn : zNm σ μ υ N i) : samS σ (σ 4 i) (σ 5 i) = decide (υ 5 i = υ 0 11) := by
  have hk := zK_word h
  obtain ⟨-, s, e, ww⟩ := hk.2 c
  obtain ⟨hN, hl, h3, hb⟩ := id h.1
  obtain ⟨p, z, n1, n2, n3, n4, n5, n6, n7⟩ := hn
  unfold samS
  rw [if_pos (hk.1.mpr c), zW_len hN ww, n1, n2, n7, ww.2.2.2.2.2.2.2, nI_clamp (by omega)]
  have inj := hsh_inj (f := μ 1) (g := μ 1) (s := p) (t := s) n5 ww.2.2.1 n6 ww.2.2.2.2.2.2.1
  have hbz : ∀ k, k < z → btS (σ 3) (σ 2 1) (nI p + nI k) = μ 1 (p + k) := fun k hk => by
    rw [hl, nI_add, bt_at hN (by omega)]
    exact zb_same (hb _ (by omega)) (by have := mLet_t (n6 k hk); omega)
  by_cases c1 : e - s = z
  · rw [if_pos (by rw [c1])]
    by_cases c2 : hsh (μ 1) p z = hsh (μ 1) s (e - s)
    · rw [decide_eq_true c2]
      have q := inj.mp c2
      refine allS_t (fun k hk => decide_eq_true ?_)
      rw [zW_bt h.1 ww (by omega), hbz k hk, q.2 k hk]
    · rw [decide_eq_false c2, Bool.eq_false_iff]
      intro q
      refine c2 (inj.mpr ⟨c1.symm, fun j hj => ?_⟩)
      simp only [allS, List.all_eq_true, List.mem_range] at q
      have := of_decide_eq_true (q j hj)
      rw [zW_bt h.1 ww (by omega), hbz j hj] at this
      exact this.symm
  · rw [if_neg (fun q => c1 ((nI_inj' (by have := ww.2.2.1; omega) (by omega)).mp q)), decide_eq_false (fun q => c1 (inj.mp q).1.symm)]
theorem fnd_cong {P Q : Nat → Bool} : ∀ r k, (∀ j, k ≤ j → j < k + r → P j = Q j) → fnd P r k = fnd Q r k
  | 0, _, _ => rfl
  | r + 1, k, h => by rw [fnd, fnd, h k (Nat.le_refl k) (by omega), fnd_cong r (k + 1) (fun j a b => h j (by omega) (by omega))]
theorem z_named {σ μ : MI} {υ : ML} {N : Nat} (h : zK σ μ υ N) (c : μ 0 6 = 2) (h1 : rg (μ 3 1) 0 6) (hn : ∀ i : Nat, (i : Int) < (μ 3 1).toInt → zNm σ μ υ N i) : ixN σ (μ 3 1) = nmd μ υ := by
  unfold rg at h1
  have hc := clampI (μ 3 1)
  unfold ixN nmd
  rw [kmin_eq (by exact h1.2)]
  exact fnd_cong _ 0 (fun j _ hj => z_sam h c (hn j (by omega)))
/-- a number is told -/
theorem z_inB {σ μ : MI} {υ : ML} {N : Nat} (h : zK σ μ υ N) (a z : Int32) : inB σ a z = tdB μ a z := by
  have hk := zK_num h
  unfold inB tdB
  by_cases c : μ 0 6 = 3
  · rw [if_pos c, if_pos (hk.1.mpr c), (hk.2 c).1]
    exact le_range1 _ _ _
  · rw [if_neg c, if_neg (fun q => c (hk.1.mp q))]
/-- what both tell of a fault -/
def zF (σ μ : MI) : Prop := σ 1 5 = μ 0 9 ∧ σ 2 2 = μ 0 10
theorem zK_wrong {σ μ : MI} {υ : ML} {N : Nat} (h : zK σ μ υ N) : σ 2 2 = μ 0 5 := h.2.1
theorem zF_1 {σ μ : MI} {υ : ML} {N : Nat} (h : zK σ μ υ N) : zF (s2 σ 1 5 1) (mBad μ 1) := by
  refine ⟨?_, ?_⟩
  · rw [s2_eq, mBad, s2_nj _ _ _ (by decide), s2_eq]
    split <;> rfl
  · rw [s2_nk _ _ _ (by decide), mBad, s2_eq]; exact h.2.1
theorem zF_w {σ μ : MI} {υ : ML} {N : Nat} (h : zK σ μ υ N) (hs : μ 0 6 ≠ 1) (v : Int32) : zF (s2 σ 1 5 v) (mBad μ v) := by
  refine ⟨?_, ?_⟩
  · rw [s2_eq, mBad, s2_nj _ _ _ (by decide), s2_eq, if_neg hs]
  · rw [s2_nk _ _ _ (by decide), mBad, s2_eq]; exact h.2.1
/-- number out of range, or none: both refuse alike -/
theorem z_inF {σ μ : MI} {υ : ML} {N : Nat} (h : zK σ μ υ N) {a z : Int32} (hf : tdB μ a z = false) (p : Nat) : zF (inM σ a z) (tdM μ p a z) := by
  have hk := zK_num h
  unfold tdB at hf
  unfold inM tdM
  by_cases c : μ 0 6 = 3
  · rw [if_pos c] at hf ⊢
    rw [if_pos (hk.1.mpr c), (hk.2 c).1, if_neg (show ¬ mIn (μ 0 7) a z = true by rw [hf]; decide)]
    have q := mIn_f hf
    have f2 := zF_w h (by rw [c]; decide) 2
    by_cases c1 : μ 0 7 < a
    · rw [if_pos c1]; exact f2
    · rw [if_neg c1, if_neg (by rw [i_le]; rw [i_lt] at c1; omega)]; exact f2
  · rw [if_neg c] at hf ⊢
    rw [if_neg (fun q => c (hk.1.mp q))]
    exact zF_1 h
