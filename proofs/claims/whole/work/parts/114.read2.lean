/-! ===== an index's line ===== -/
theorem zIx_of {σ σ' : MI} {b i : Nat} {f f' : Nat → Int32} (h : zIx σ b i f) (h0 : f (434 + 10 * i) = 0) (hσ : ∀ c, 47 + 57 * b + 6 * i ≤ c → c < 53 + 57 * b + 6 * i → σ' c = σ c) (hf : ∀ m, m < 36 → f' (2 + 36 * i + m) = f (2 + 36 * i + m) ∧ f' (218 + 36 * i + m) = f (218 + 36 * i + m)) (h4 : f' (434 + 10 * i) = f (434 + 10 * i)) : zIx σ' b i f' := by
  refine ⟨fun m hm => ?_, ?_, fun k hk => ?_⟩
  · rw [hσ _ (by omega) (by omega), hσ _ (by omega) (by omega), (hf m hm).1, (hf m hm).2]; exact h.1 m hm
  · rw [hσ _ (by omega) (by omega), h4]; exact h.2.1
  · rw [h4, h0, z0] at hk; omega
theorem zCo_of {σ σ' : MI} {b c : Nat} {f f' : Nat → Int32} (h : zCo σ b c f) (h6 : rg (f (495 + 19 * c + 6)) 0 6) (hσ : ∀ x, 83 + 57 * b + 3 * c ≤ x → x < 86 + 57 * b + 3 * c → σ' x = σ x) (hf : ∀ j, j < 19 → f' (495 + 19 * c + j) = f (495 + 19 * c + j)) : zCo σ' b c f' := by
  unfold rg at h6
  refine ⟨fun j hj => ?_, fun k hk => ?_⟩
  · rw [hσ _ (by omega) (by omega), hf j (by omega)]; exact h.1 j hj
  · rw [hf 6 (by omega)] at hk
    rw [hσ _ (by omega) (by omega), hσ _ (by omega) (by omega), hf _ (by omega), hf _ (by omega)]
    exact h.2 k hk
def zIn (b i : Nat) (σ : MI) (f : Nat → Int32) : Prop := σ (44 + 57 * b) 0 = f 0 ∧ σ (44 + 57 * b) 1 = nI (i + 1) ∧ σ (44 + 57 * b) 2 = f 494 ∧ f 1 = nI i ∧ rg (f 0) 0 35 ∧ (∀ d, d < 6 → f (434 + 10 * d) = 0) ∧ (∀ d, d ≤ i → zIx σ b d f) ∧ ∀ c : Nat, (c : Int) < (f 494).toInt → c < 6 ∧ rg (f (495 + 19 * c + 6)) 0 6 ∧ zCo σ b c f
theorem zIn_of {b i : Nat} {σ σ' : MI} {f : Nat → Int32} (hi : i < 6) (h : zIn b i σ f) (hσ : ∀ c, 44 ≤ c → σ' c = σ c) : zIn b i σ' f := by
  obtain ⟨h1, h2, h3, h4, h5, h6, h7, h8⟩ := h
  refine ⟨by rw [hσ _ (by omega)]; exact h1, by rw [hσ _ (by omega)]; exact h2, by rw [hσ _ (by omega)]; exact h3, h4, h5, h6, fun d hd => ?_, fun c hc => ?_⟩
  · exact zIx_of (h7 d hd) (h6 d (by omega)) (fun c _ _ => hσ c (by omega)) (fun m hm => ⟨rfl, rfl⟩) rfl
  · obtain ⟨a1, a2, a3⟩ := h8 c hc
    exact ⟨a1, a2, zCo_of a3 a2 (fun x _ _ => hσ x (by omega)) (fun j _ => rfl)⟩
theorem clrS_at (σ : MI) (b i m : Nat) : ∀ n, clrS σ b i n (49 + 57 * b + 6 * i) m = if m < n then 0 else σ (49 + 57 * b + 6 * i) m
  | 0 => by rw [clrS, if_neg (by omega)]
  | n + 1 => by
    rw [clrS]
    by_cases e : m = n
    · subst e
      rw [s2_eq, if_pos (by omega)]
    · rw [s2_nj _ _ _ e, s2_nk _ _ _ (by omega), clrS_at σ b i m n]
      by_cases h : m < n
      · rw [if_pos h, if_pos (by omega)]
      · rw [if_neg h, if_neg (by omega)]
theorem zIn_begin {σ μ : MI} {b i : Nat} (hi : i < 6) (hL : LI μ) (hB : zBk σ b (μ 3)) (e1 : μ 3 1 = nI i) : zIn b i (aiS σ b) (μ 3) := by
  obtain ⟨hR, h9, hb0, hc0, hk0⟩ := hL
  have t1 : (μ 3 1).toInt = (i : Int) := by rw [e1, nI_toInt (by omega)]
  have ec : (σ (44 + 57 * b) 1).toNatClampNeg = i := by rw [hB.2.1, e1, nI_clamp (by omega)]
  have ea : aiS σ b = s2 (forgS σ b i) (44 + 57 * b) 1 (nI (i + 1)) := by unfold aiS; rw [ec, hB.2.1, e1, nI_1]
  have eo : ∀ c, c ≠ 44 + 57 * b → c ≠ 47 + 57 * b + 6 * i → c ≠ 48 + 57 * b + 6 * i → c ≠ 49 + 57 * b + 6 * i → aiS σ b c = σ c := fun c a1 a2 a3 a4 => by
    rw [ea, s2_nk _ _ _ a1]; exact forgS_ne σ (by omega) (by omega) (by omega)
  have e44 : ∀ j, j ≠ 1 → aiS σ b (44 + 57 * b) j = σ (44 + 57 * b) j := fun j hj => by
    rw [ea, s2_nj _ _ _ hj, forgS_ne σ (by omega) (by omega) (by omega)]
  refine ⟨by rw [e44 0 (by decide)]; exact hB.1, by rw [ea, s2_eq], by rw [e44 2 (by decide)]; exact hB.2.2.1, e1, hR.1, hb0, fun d hd => ?_, fun c hc => ?_⟩
  · by_cases e : d = i
    · subst e
      refine ⟨fun m hm => ?_, ?_, fun k hk => ?_⟩
      · have z : μ 3 (218 + 36 * d + m) = 0 := hk0 d m hi hm (by omega)
        refine ⟨?_, fun w => absurd z w⟩
        rw [ea, s2_nk _ _ _ (by omega), forgS, s2_nk _ _ _ (by omega), clrS_at, if_pos hm, z]
      · rw [ea, s2_nk _ _ _ (by omega), forgS, s2_eq, hb0 d hi]
      · rw [hb0 d hi, z0] at hk; omega
    · exact zIx_of (hB.ix (i := d) (by omega)) (hb0 d (by omega)) (fun c _ _ => eo c (by omega) (by omega) (by omega) (by omega)) (fun m hm => ⟨rfl, rfl⟩) rfl
  · have h4 := hR.2.2.1
    unfold rg at h4
    have h6 := (hR.con hc).2.2.2.2.2.2.1
    exact ⟨by omega, h6, zCo_of (hB.co hc) h6 (fun x _ _ => eo x (by omega) (by omega) (by omega) (by omega)) (fun j _ => rfl)⟩
/-- a value comes in -/
theorem zIn_put {σ σ' : MI} {f f' : Nat → Int32} {b i m : Nat} (hi : i < 6) (hm : m < 36) (h : zIn b i σ f) (v : Int32) (h48 : ∀ j, σ' (48 + 57 * b + 6 * i) j = if j = m then v else σ (48 + 57 * b + 6 * i) j) (h49 : ∀ j, σ' (49 + 57 * b + 6 * i) j = if j = m then 2 else σ (49 + 57 * b + 6 * i) j) (hσ : ∀ c, 44 ≤ c → c ≠ 48 + 57 * b + 6 * i → c ≠ 49 + 57 * b + 6 * i → σ' c = σ c) (hv : f' (2 + 36 * i + m) = v) (hk : f' (218 + 36 * i + m) = 2) (hf : ∀ j, j ≠ 2 + 36 * i + m → j ≠ 218 + 36 * i + m → f' j = f j) : zIn b i σ' f' := by
  obtain ⟨h1, h2, h3, h4, h5, h6, h7, h8⟩ := h
  have g0 : f' 0 = f 0 := hf 0 (by omega) (by omega)
  have g1 : f' 1 = f 1 := hf 1 (by omega) (by omega)
  have g4 : f' 494 = f 494 := hf 494 (by omega) (by omega)
  have gb : ∀ d, d < 6 → f' (434 + 10 * d) = f (434 + 10 * d) := fun d hd => hf _ (by omega) (by omega)
  refine ⟨by rw [hσ _ (by omega) (by omega) (by omega), g0]; exact h1, by rw [hσ _ (by omega) (by omega) (by omega)]; exact h2, by rw [hσ _ (by omega) (by omega) (by omega), g4]; exact h3, by rw [g1]; exact h4, by rw [g0]; exact h5, fun d hd => by rw [gb d hd]; exact h6 d hd, fun d hd => ?_, fun c hc => ?_⟩
  · by_cases e : d = i
    · subst e
      have old := h7 d hd
      refine ⟨fun q hq => ?_, ?_, fun k hkk => ?_⟩
      · rw [h48, h49]
        by_cases eq : q = m
        · subst eq
          rw [if_pos rfl, if_pos rfl, hk, hv]
          exact ⟨rfl, fun _ => rfl⟩
        · rw [if_neg eq, if_neg eq, hf _ (by omega) (by omega), hf _ (by omega) (by omega)]
          exact old.1 q hq
      · rw [hσ _ (by omega) (by omega) (by omega), gb d hi]; exact old.2.1
      · rw [gb d hi, h6 d hi, z0] at hkk; omega
    · exact zIx_of (h7 d hd) (h6 d (by omega)) (fun c _ _ => hσ c (by omega) (by omega) (by omega)) (fun q hq => ⟨hf _ (by omega) (by omega), hf _ (by omega) (by omega)⟩) (gb d (by omega))
  · rw [g4] at hc
    obtain ⟨a1, a2, a3⟩ := h8 c hc
    have gc : ∀ j, j < 19 → f' (495 + 19 * c + j) = f (495 + 19 * c + j) := fun j hj => hf _ (by omega) (by omega)
    exact ⟨a1, by rw [gc 6 (by omega)]; exact a2, zCo_of a3 a2 (fun x _ _ => hσ x (by omega) (by omega) (by omega)) gc⟩
theorem zIn_end {σ μ : MI} {b i : Nat} (hi : i < 6) (h : zIn b i σ (μ 3)) : zBk σ b (s2 μ 3 1 (μ 3 1 + 1) 3) ∧ s2 μ 3 1 (μ 3 1 + 1) 3 1 = nI (i + 1) := by
  obtain ⟨h1, h2, h3, h4, h5, h6, h7, h8⟩ := h
  have e1 : s2 μ 3 1 (μ 3 1 + 1) 3 1 = nI (i + 1) := by rw [s2_eq, h4, nI_1]
  have eo : ∀ j, j ≠ 1 → s2 μ 3 1 (μ 3 1 + 1) 3 j = μ 3 j := fun j hj => s2_nj _ _ _ hj
  refine ⟨⟨by rw [eo 0 (by omega)]; exact h1, by rw [e1]; exact h2, by rw [eo 494 (by omega)]; exact h3, fun d hd => ?_, fun c hc => ?_⟩, e1⟩
  · rw [e1, nI_toInt (by omega)] at hd
    exact zIx_of (h7 d (by omega)) (h6 d (by omega)) (fun c _ _ => rfl) (fun m hm => ⟨eo _ (by omega), eo _ (by omega)⟩) (eo _ (by omega))
  · rw [eo 494 (by omega)] at hc
    obtain ⟨a1, a2, a3⟩ := h8 c hc
    exact zCo_of a3 a2 (fun x _ _ => rfl) (fun j _ => eo _ (by omega))
section RDV
variable {σ0 μ0 : MI} {N b n i : Nat}
theorem FR_bz {σ : MI} (hb : bz (σ0 1 3) = b) (h : FR σ0 σ b) : bz (σ 1 3) = b := by rw [h.2.1]; exact hb
theorem putS_zG {σ μ : MI} {υ : ML} (hi : i < 6) (h : zG σ0 μ0 N b n σ μ υ) (mo v k : Int32) : zG σ0 μ0 N b n (putS σ b i mo v k) μ υ :=
  zG_s h (fun c _ a => putS_ne σ mo v k (by omega) (by omega)) (by rw [putS_lo σ mo v k (by omega)]) (by rw [putS_lo σ mo v k (by omega)])
/-- the value of a month, told -/
theorem z_val1 (hb : bz (σ0 1 3) = b) (hi : i < 6) {ρ μ : MI} {υ : ML} (hK : zK ρ μ υ N) (hG : zG σ0 μ0 N b n ρ μ υ) (hI : zIn b i ρ (μ 3)) (h6 : μ 0 6 = 3) {m : Nat} (hm : m ≤ 36) :
    (nI m ≤ μ 3 0 → tdB μ 1 999 = true → m < 36 ∧ inB ρ 1 (vmS ρ (nI m)) = true ∧ zK (rvM ρ b i (nI m)) (s2 (tdM μ (2 + 36 * i + m) 1 999) 3 (218 + 36 * i + m) 2) (tdT μ υ (2 + 36 * i + m) 1 999) N ∧ zG σ0 μ0 N b n (rvM ρ b i (nI m)) (s2 (tdM μ (2 + 36 * i + m) 1 999) 3 (218 + 36 * i + m) 2) (tdT μ υ (2 + 36 * i + m) 1 999) ∧ zIn b i (rvM ρ b i (nI m)) (s2 (tdM μ (2 + 36 * i + m) 1 999) 3 (218 + 36 * i + m) 2 3)) ∧
    (nI m ≤ μ 3 0 → tdB μ 1 999 = false → inB ρ 1 (vmS ρ (nI m)) = false ∧ zF (rvM ρ b i (nI m)) (tdM μ (2 + 36 * i + m) 1 999) ∧ FR σ0 (rvM ρ b i (nI m)) b ∧ GR μ0 (tdM μ (2 + 36 * i + m) 1 999)) ∧
    (¬ nI m ≤ μ 3 0 → inB ρ 1 (vmS ρ (nI m)) = false ∧ zF (rvM ρ b i (nI m)) (mBad μ 2) ∧ FR σ0 (rvM ρ b i (nI m)) b ∧ GR μ0 (mBad μ 2)) := by
  have eb := FR_bz hb hG.1
  have h0 := hI.2.2.2.2.1
  unfold rg at h0
  have ev : vmS ρ (nI m) = if μ 3 0 < nI m then 0 else 999 := by unfold vmS; rw [eb, hI.1]
  refine ⟨fun hle ht => ?_, fun hle ht => ?_, fun hle => ?_⟩
  · have ev9 : vmS ρ (nI m) = 999 := by rw [ev, if_neg (by rw [i_lt]; rw [i_le] at hle; omega)]
    have hm36 : m < 36 := by rw [i_le, nI_toInt (by omega)] at hle; omega
    have hib := z_inB hK 1 999
    rw [ht] at hib
    obtain ⟨k1, k2, k3⟩ := z_rnT hK hG ht (2 + 36 * i + m)
    have t3 := (tdM_3 (a := 2 + 36 * i + m) ht).1
    rw [ev9]
    have er : rvM ρ b i (nI m) = putS (rnM ρ 1 999) b i (nI m) (μ 0 7) 2 := by unfold rvM; rw [ev9, if_pos hib, k3]
    have hmon : isMon (nI m) = true := by rw [isMon_mIn]; exact mIn_of (by rw [nI_toInt (by omega), z0]; omega) (by rw [nI_toInt (by omega)]; have : (35 : Int32).toInt = 35 := rfl; omega)
    have ep : putS (rnM ρ 1 999) b i (nI m) (μ 0 7) 2 = s2 (s2 (rnM ρ 1 999) (48 + 57 * b + 6 * i) m (μ 0 7)) (49 + 57 * b + 6 * i) m 2 := by unfold putS; rw [if_pos hmon, nI_clamp (by omega)]
    rw [er]
    refine ⟨hm36, hib, ?_, ?_, ?_⟩
    · exact zK_cg k1 (putS_lo _ _ _ _ (by omega)) (putS_lo _ _ _ _ (by omega)) (s2_nk _ _ _ (by decide)) (s2_nk _ _ _ (by decide)) rfl
    · exact zG_3 (putS_zG hi k2 _ _ _) _ _
    · have e48 : rnM ρ 1 999 (48 + 57 * b + 6 * i) = ρ (48 + 57 * b + 6 * i) := rnM_ne ρ 1 999 (by omega) (by omega)
      have e49 : rnM ρ 1 999 (49 + 57 * b + 6 * i) = ρ (49 + 57 * b + 6 * i) := rnM_ne ρ 1 999 (by omega) (by omega)
      refine zIn_put hi hm36 hI (μ 0 7) (fun j => ?_) (fun j => ?_) (fun c h1 h2 h3 => ?_) ?_ ?_ (fun j h1 h2 => ?_)
      · rw [ep, s2_nk _ _ _ (by omega), s2_at, e48]
        by_cases e : j = m
        · rw [if_pos ⟨rfl, e⟩, if_pos e]
        · rw [if_neg (fun w => e w.2), if_neg e]
      · rw [ep, s2_at]
        by_cases e : j = m
        · rw [if_pos ⟨rfl, e⟩, if_pos e]
        · rw [if_neg (fun w => e w.2), if_neg e, s2_nk _ _ _ (by omega), e49]
      · rw [ep, s2_nk _ _ _ h3, s2_nk _ _ _ h2, rnM_ne ρ 1 999 (by omega) (by omega)]
      · rw [s2_nj _ _ _ (by omega)]; exact t3
      · exact s2_eq _ _ _ _
      · rw [s2_nj _ _ _ h2, tdM_nj _ _ _ h1]
  · have ev9 : vmS ρ (nI m) = 999 := by rw [ev, if_neg (by rw [i_lt]; rw [i_le] at hle; omega)]
    have hib := z_inB hK 1 999
    rw [ht] at hib
    have er : rvM ρ b i (nI m) = rnM ρ 1 999 := by unfold rvM; rw [ev9, if_neg (by rw [hib]; exact Bool.false_ne_true)]
    rw [er, ev9]
    exact ⟨hib, z_rnF hK hG ht _⟩
  · have ev0 : vmS ρ (nI m) = 0 := by rw [ev, if_pos (by rw [i_lt]; rw [i_le] at hle; omega)]
    have hno : mIn (μ 0 7) 1 0 = false := mIn_no (by have := z0; have := z1; omega)
    have hq := z_rnF' hK (a := 1) (z := 0) (fun w => by rw [hno] at w; exact Bool.false_ne_true w.2)
    rw [if_pos h6] at hq
    have er : rvM ρ b i (nI m) = rnM ρ 1 0 := by unfold rvM; rw [ev0, if_neg (by rw [hq.1]; exact Bool.false_ne_true)]
    rw [er, ev0]
    exact ⟨hq.1, hq.2, FR_rn hG.1 hq.1, GR_bad hG.2.1 _⟩
def pIx (b i : Nat) : MI → MI → ML → Prop := fun σ μ _ => zBk σ b (μ 3) ∧ μ 3 1 = nI (i + 1)
theorem z_vals (hb : bz (σ0 1 3) = b) (hi : i < 6) : ∀ r m ρ μ υ, m + r = 36 → zK ρ μ υ N → zG σ0 μ0 N b n ρ μ υ → zIn b i ρ (μ 3) → zO σ0 μ0 N b n (pIx b i) (vsL b i (r + 1) ρ m) (miL i (r + 1) m μ υ) := by
  intro r
  induction r with
  | zero =>
    intro m ρ μ υ hm hK hG hI
    rw [vsL, miL]
    have hk := zK_num hK
    by_cases h6 : μ 0 6 = 3
    · rw [if_pos h6, if_pos (hk.1.mpr h6)]
      obtain ⟨-, -, q3⟩ := z_val1 hb hi hK hG hI h6 (m := m) (by omega)
      have hno : ¬ nI m ≤ μ 3 0 := by
        have h0 := hI.2.2.2.2.1
        unfold rg at h0
        rw [i_le, nI_toInt (by omega)]
        omega
      obtain ⟨q, qq⟩ := q3 hno
      rw [if_neg hno, if_neg (by rw [q]; exact Bool.false_ne_true)]
      exact zO_f qq
    · rw [if_neg h6, if_neg (fun w => h6 (hk.1.mp w))]
      exact zO_t (zK_cg hK rfl rfl (s2_nk _ _ _ (by decide)) (s2_nk _ _ _ (by decide)) rfl) (zG_3 hG _ _) (zIn_end hi hI)
  | succ r ih =>
    intro m ρ μ υ hm hK hG hI
    rw [vsL, miL]
    have hk := zK_num hK
    by_cases h6 : μ 0 6 = 3
    · rw [if_pos h6, if_pos (hk.1.mpr h6)]
      obtain ⟨q1, q2, q3⟩ := z_val1 hb hi hK hG hI h6 (m := m) (by omega)
      by_cases hle : nI m ≤ μ 3 0
      · rw [if_pos hle]
        cases ht : tdB μ 1 999
        · obtain ⟨q, qq⟩ := q2 hle ht
          rw [if_neg Bool.false_ne_true, if_neg (by rw [q]; exact Bool.false_ne_true)]
          exact zO_f qq
        · obtain ⟨a1, a2, a3, a4, a5⟩ := q1 hle ht
          rw [if_pos rfl, if_pos a2]
          exact ih (m + 1) _ _ _ (by omega) a3 a4 a5
      · obtain ⟨q, qq⟩ := q3 hle
        rw [if_neg hle, if_neg (by rw [q]; exact Bool.false_ne_true)]
        exact zO_f qq
    · rw [if_neg h6, if_neg (fun w => h6 (hk.1.mp w))]
      exact zO_t (zK_cg hK rfl rfl (s2_nk _ _ _ (by decide)) (s2_nk _ _ _ (by decide)) rfl) (zG_3 hG _ _) (zIn_end hi hI)
theorem z_valsP (hb : bz (σ0 1 3) = b) (hi : i < 6) {ρ μ : MI} {υ : ML} (hK : zK ρ μ υ N) (hG : zG σ0 μ0 N b n ρ μ υ) (hI : zIn b i ρ (μ 3)) : zO σ0 μ0 N b n (pIx b i) (vsP ρ b i) (if μ 0 6 = 3 then miL i 37 0 μ υ else (false, mBad μ 1, υ)) := by
  have hk := zK_num hK
  by_cases h6 : μ 0 6 = 3
  · have e : vsP ρ b i = vsL b i 37 ρ 0 := by
      rw [show (37 : Nat) = 36 + 1 from rfl, vsL, if_pos (hk.1.mpr h6), show nI 0 = (0 : Int32) from nI_0]
      rfl
    rw [if_pos h6, e]
    exact z_vals hb hi 36 0 ρ μ υ rfl hK hG hI
  · have hib : inB ρ 1 (vmS ρ 0) = false := by unfold inB; rw [if_neg (fun w => h6 (hk.1.mp w))]
    have hn : ¬ inB ρ 1 (vmS ρ 0) = true := by rw [hib]; exact Bool.false_ne_true
    have e : vsP ρ b i = (false, s2 ρ 1 5 1) := by
      unfold vsP rvM
      rw [if_neg hn, if_neg hn, rnM, if_neg hn]
      unfold inM
      rw [if_neg (fun w => h6 (hk.1.mp w))]
    rw [if_neg h6, e]
    exact zO_f (z_bad1 hK hG)
theorem aiS_zG {σ μ : MI} {υ : ML} (hi : i < 6) (hc : (σ (44 + 57 * b) 1).toNatClampNeg = i) (h : zG σ0 μ0 N b n σ μ υ) : zG σ0 μ0 N b n (aiS σ b) μ υ := by
  refine zG_s h (fun c _ a => ?_) (by rw [aiS_lo σ (by omega)]) (by rw [aiS_lo σ (by omega)])
  rw [aiS, s2_nk _ _ _ (by omega), hc]
  exact forgS_ne σ (by omega) (by omega) (by omega)
theorem inL6 {f : Nat → Int32} (j : Nat) (h : rg (f j) 0 6) : (f j = 6 → inL (f j) 6 = false) ∧ (f j ≠ 6 → inL (f j) 6 = true ∧ (f j).toInt < 6) := by
  have e6 : (6 : Int32).toInt = 6 := rfl
  unfold rg at h
  constructor
  · intro e
    rw [e]; rfl
  · intro e
    have h6 : (f j).toInt ≠ 6 := fun w => e ((i_eq _ _).mpr (by rw [w, e6]))
    refine ⟨?_, by omega⟩
    cases q : inL (f j) 6
    · have := inL_f q
      omega
    · rfl
theorem z_index (hb2 : b < 2) (hb : bz (σ0 1 3) = b) {σ μ : MI} {υ : ML} (hK : zK σ μ υ N) (hL : LI μ) (hB : zBk σ b (μ 3)) (hG : zG σ0 μ0 N b (μ 3 1).toNatClampNeg σ μ υ) (hw : mIs μ υ 1 = true) : zO σ0 μ0 N b ((μ 3 1).toNatClampNeg + 1) (pIx b (μ 3 1).toNatClampNeg) (riP σ) (miP (μ 3 1).toNatClampNeg μ υ) := by
  have eb := FR_bz hb hG.1
  have h1 := hL.1.2.1
  have hl6 := inL6 1 h1
  have hwd : isWd σ 1 = true := by rw [z_wd hK (by decide)]; exact hw
  have e44 : σ (44 + 57 * b) 1 = μ 3 1 := hB.2.1
  unfold riP miP
  rw [eb, e44, if_pos hwd]
  by_cases c6 : μ 3 1 = 6
  · rw [if_pos c6, if_neg (by rw [hl6.1 c6]; exact Bool.false_ne_true)]
    exact zO_f (z_badv hK hG (ne1_2 (mIs_w hw)) 4)
  · obtain ⟨l1, l2⟩ := hl6.2 c6
    rw [if_neg c6, if_pos l1]
    have hcl := clampI (μ 3 1)
    unfold rg at h1
    have hi : (μ 3 1).toNatClampNeg < 6 := by omega
    have e1 : μ 3 1 = nI (μ 3 1).toNatClampNeg := eq_nI h1.1
    have ecl : (σ (44 + 57 * b) 1).toNatClampNeg = (μ 3 1).toNatClampNeg := by rw [e44]
    have hIn := zIn_begin hi hL hB e1
    have eA : riA σ = adS (aiS σ b) := by unfold riA; rw [eb]
    have eK : riK σ = adS (kpM (riA σ) (μ 3 1)) := by unfold riK; rw [eb, e44]
    have hG1 := aiS_zG hi ecl hG
    have hP1 : zP (aiS σ b) μ N := zP_cg (mIs_P hK hw) (aiS_lo σ (by omega)) (aiS_lo σ (by omega)) rfl rfl
    obtain ⟨hK2, hG2⟩ := z_adv (υ := υ) hP1 hG1
    have hIn2 : zIn b (μ 3 1).toNatClampNeg (adS (aiS σ b)) (goM μ 3) := by rw [goM_3]; exact zIn_of hi hIn (fun c hc => adS_ne _ (by omega))
    rw [eA, eK, eA]
    have e31 : goM μ 3 1 = μ 3 1 := by rw [goM_3]
    generalize (μ 3 1).toNatClampNeg = i at *
    unfold miQ
    rw [z_nm hK2]
    cases hn : mName (goM μ) (goT μ υ)
    · rw [if_neg Bool.false_ne_true, if_neg Bool.false_ne_true]
      exact zO_f (z_bad1 hK2 hG2)
    · rw [if_pos rfl, if_pos rfl]
      have hw2 := mName_w hn
      have hix : ixN (adS (aiS σ b)) (μ 3 1) = nmd (goM μ) (goT μ υ) := by
        rw [← e31]
        refine z_named hK2 hw2 (by rw [e31]; exact h1) (fun j hj => hG2.2.2.1 j ?_)
        rw [e31, e1, nI_toInt (by omega)] at hj
        omega
      rw [hix]
      by_cases cn : nmd (goM μ) (goT μ υ) = -1
      · rw [if_pos cn, if_pos cn]
        have ek : kpM (adS (aiS σ b)) (μ 3 1) = s2 (s2 (adS (aiS σ b)) 4 i (adS (aiS σ b) 2 2)) 5 i (adS (aiS σ b) 2 3 - adS (aiS σ b) 2 2) := by
          have e6 : (6 : Int32).toInt = 6 := rfl
          unfold kpM
          rw [if_neg (by rw [i_lt, z0]; omega), if_neg (by rw [i_le]; omega), e1, nI_clamp (by omega)]
        have hK3 : zK (kpM (adS (aiS σ b)) (μ 3 1)) (goM μ) (miW i (goT μ υ)) N := by
          rw [ek]
          exact zK_cg hK2 (by rw [s2_nk _ _ _ (by decide), s2_nk _ _ _ (by decide)]) (by rw [s2_nk _ _ _ (by decide), s2_nk _ _ _ (by decide)]) rfl rfl (s2L_ne _ _ (Or.inl (by decide)))
        have hG3 : zG σ0 μ0 N b (i + 1) (kpM (adS (aiS σ b)) (μ 3 1)) (goM μ) (miW i (goT μ υ)) := by
          refine ⟨FR_w hG2.1 (fun c _ a4 a5 _ => kpM_ne _ _ a4 a5) (by rw [kpM_ne _ _ (by decide) (by decide)]), hG2.2.1, fun j hj => ?_, by rw [kpM_ne _ _ (by decide) (by decide)]; exact hG2.2.2.2⟩
          rw [ek]
          by_cases ej : j = i
          · subst ej
            obtain ⟨-, s, e, ww⟩ := (zK_word hK2).2 hw2
            have hN := hK2.1.1
            refine ⟨s, e - s, ?_, ?_, by have := ww.1; have := ww.2.1; omega, by have := ww.1; omega, ww.2.2.1, ww.2.2.2.2.2.2.1, ?_⟩
            · rw [s2_nk _ _ _ (by decide), s2_eq]; exact ww.2.2.2.1
            · rw [s2_eq]; exact zW_len hN ww
            · unfold miW; rw [s2L_eq]; exact ww.2.2.2.2.2.2.2
          · refine zNm_of (hG2.2.2.1 j (by omega)) ?_ ?_ rfl (s2L_ne _ _ (Or.inr ej))
            · rw [s2_nk _ _ _ (by decide), s2_nj _ _ _ ej]
            · rw [s2_nj _ _ _ ej, s2_nk _ _ _ (by decide)]
        have hP3 : zP (kpM (adS (aiS σ b)) (μ 3 1)) (goM μ) N := mName_P (υ := goT μ υ) (zK_cg hK3 rfl rfl rfl rfl (by unfold miW; rw [s2L_ne _ _ (Or.inl (by decide))])) hn
        obtain ⟨hK4, hG4⟩ := z_adv (υ := miW i (goT μ υ)) hP3 hG3
        have hIn4 : zIn b i (adS (kpM (adS (aiS σ b)) (μ 3 1))) (goM (goM μ) 3) := by
          rw [goM_3]
          exact zIn_of hi hIn2 (fun c hc => by rw [adS_ne _ (by omega), kpM_ne _ _ (by omega) (by omega)])
        exact z_valsP hb hi hK4 hG4 hIn4
      · rw [if_neg cn, if_neg cn]
        exact zO_f (z_badv hK2 hG2 (ne1_2 hw2) 3)
end RDV
