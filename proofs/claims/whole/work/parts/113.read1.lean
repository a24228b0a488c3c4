/-! ===== lines of the text: what both have while they read ===== -/
theorem adT_st {σ μ : MI} {N : Nat} (hP : zP σ μ N) : ∃ G, G ≤ 740 ∧ adT σ 2 2 = nI G := by
  obtain ⟨⟨hN, hl, h3, hb⟩, t, ht, hs, hm⟩ := hP
  have hG := skp_le (μ 1) (N - t) t
  refine ⟨skp (μ 1) (N - t) t, by omega, ?_⟩
  unfold adT
  rw [s2_eq, hl, hs]
  exact z_skip hN hb (N - t) t 741 rfl ht (by omega)
theorem cuS_22 (σ : MI) : cuS σ 2 2 = σ 2 2 := by
  unfold cuS
  split
  · rw [s2_nj _ _ _ (by decide), s2_nj _ _ _ (by decide)]
  · rw [s2_nj _ _ _ (by decide), s2_nj _ _ _ (by decide), s2_nj _ _ _ (by decide), s2_nj _ _ _ (by decide)]
theorem adS_st {σ μ : MI} {N : Nat} (hP : zP σ μ N) : ∃ s, s ≤ 740 ∧ adS σ 2 2 = nI s := by
  obtain ⟨G, hG, e⟩ := adT_st hP
  unfold adS
  split
  · split
    · exact ⟨G, hG, by rw [cuS_22]; exact e⟩
    · exact ⟨G, hG, by rw [s2_nj _ _ _ (by decide)]; exact e⟩
  · split
    · split
      · exact ⟨G, hG, by rw [cuS_22]; exact e⟩
      · exact ⟨G, hG, by rw [s2_nj _ _ _ (by decide)]; exact e⟩
    · exact ⟨700, by omega, by rw [s2_nj _ _ _ (by decide), s2_eq]; rfl⟩
def FR (σ0 σ : MI) (b : Nat) : Prop := (∀ c, c ≠ 1 → c ≠ 2 → c ≠ 4 → c ≠ 5 → (c < 44 + 57 * b ∨ 101 + 57 * b ≤ c) → σ c = σ0 c) ∧ σ 1 3 = σ0 1 3 ∧ ∃ s, s ≤ 740 ∧ σ 2 2 = nI s
def GR (μ0 μ : MI) : Prop := (∀ c, c ≠ 0 → c ≠ 3 → μ c = μ0 c) ∧ μ 0 0 = μ0 0 0 ∧ μ 0 2 = μ0 0 2 ∧ μ 0 16 = μ0 0 16
def NG (σ μ : MI) (υ : ML) (N n : Nat) : Prop := ∀ i, i < n → zNm σ μ υ N i
def zG (σ0 μ0 : MI) (N b n : Nat) (σ μ : MI) (υ : ML) : Prop := FR σ0 σ b ∧ GR μ0 μ ∧ NG σ μ υ N n ∧ σ 1 5 = μ 0 9
theorem FR_w {σ0 σ σ' : MI} {b : Nat} (h : FR σ0 σ b) (h1 : ∀ c, c ≠ 1 → c ≠ 4 → c ≠ 5 → (c < 44 + 57 * b ∨ 101 + 57 * b ≤ c) → σ' c = σ c) (h3 : σ' 1 3 = σ 1 3) : FR σ0 σ' b :=
  ⟨fun c a1 a2 a4 a5 a => by rw [h1 c a1 a4 a5 a]; exact h.1 c a1 a2 a4 a5 a, by rw [h3]; exact h.2.1, by rw [h1 2 (by decide) (by decide) (by decide) (by omega)]; exact h.2.2⟩
theorem FR_ad {σ0 σ μ : MI} {N b : Nat} (h : FR σ0 σ b) (hP : zP σ μ N) : FR σ0 (adS σ) b :=
  ⟨fun c a1 a2 a4 a5 a => by rw [adS_ne σ a2]; exact h.1 c a1 a2 a4 a5 a, by rw [rd3_ad]; exact h.2.1, adS_st hP⟩
theorem FR_1 {σ0 σ : MI} {b : Nat} (h : FR σ0 σ b) {j : Nat} (hj : 3 ≠ j) (v : Int32) : FR σ0 (s2 σ 1 j v) b := FR_w h (fun c a1 _ _ _ => s2_nk _ _ _ a1) (s2_nj _ _ _ hj)
theorem FR_in {σ0 σ : MI} {b : Nat} (h : FR σ0 σ b) (a z : Int32) : FR σ0 (inM σ a z) b := FR_w h (fun c a1 _ _ _ => inM_ne σ a z a1) (rd3_in σ a z)
theorem FR_rn {σ0 σ : MI} {b : Nat} (h : FR σ0 σ b) {a z : Int32} (hf : inB σ a z = false) : FR σ0 (rnM σ a z) b := by
  rw [rnM, if_neg (by rw [hf]; exact Bool.false_ne_true)]
  exact FR_in h a z
theorem FR_b {σ0 σ : MI} {b : Nat} (h : FR σ0 σ b) {k : Nat} (hk : 44 + 57 * b ≤ k) (hk2 : k < 101 + 57 * b) (j : Nat) (v : Int32) : FR σ0 (s2 σ k j v) b :=
  FR_w h (fun c _ _ _ a => s2_nk _ _ _ (by omega)) (by rw [s2_nk _ _ _ (by omega)])
theorem GR_w {μ0 μ μ' : MI} (h : GR μ0 μ) (h1 : ∀ c, c ≠ 0 → c ≠ 3 → μ' c = μ c) (h2 : ∀ j, j = 0 ∨ j = 2 ∨ j = 16 → μ' 0 j = μ 0 j) : GR μ0 μ' :=
  ⟨fun c a1 a2 => by rw [h1 c a1 a2]; exact h.1 c a1 a2, by rw [h2 0 (by omega)]; exact h.2.1, by rw [h2 2 (by omega)]; exact h.2.2.1, by rw [h2 16 (by omega)]; exact h.2.2.2⟩
theorem GR_go {μ0 μ : MI} (h : GR μ0 μ) : GR μ0 (goM μ) := GR_w h (fun c a1 _ => goM_ne μ a1) (fun j hj => goM_0 μ (by omega) (by omega) (by omega) (by omega) (by omega))
theorem GR_3 {μ0 μ : MI} (h : GR μ0 μ) (j : Nat) (v : Int32) : GR μ0 (s2 μ 3 j v) := GR_w h (fun c _ a2 => s2_nk _ _ _ a2) (fun j hj => by rw [s2_nk _ _ _ (by decide)])
theorem GR_bad {μ0 μ : MI} (h : GR μ0 μ) (v : Int32) : GR μ0 (mBad μ v) := GR_w h (fun c a1 _ => mBad_ne μ v a1) (fun j hj => by rw [mBad, s2_nj _ _ _ (by omega), s2_nj _ _ _ (by omega)])
theorem GR_td {μ0 μ : MI} (h : GR μ0 μ) (a : Nat) (lo hi : Int32) : GR μ0 (tdM μ a lo hi) := by
  unfold tdM
  split
  · split
    · exact GR_go (GR_3 h _ _)
    · exact GR_bad h _
  · exact GR_bad h _
theorem GR_mw {μ0 μ : MI} (h : GR μ0 μ) (υ : ML) (w : Int32) : GR μ0 (mwM μ υ w) := by
  unfold mwM
  split
  · exact GR_go h
  · exact GR_bad h _
theorem zNm_of {σ σ' μ μ' : MI} {υ υ' : ML} {N i : Nat} (h : zNm σ μ υ N i) (h4 : σ' 4 i = σ 4 i) (h5 : σ' 5 i = σ 5 i) (h1 : μ' 1 = μ 1) (hu : υ' 5 i = υ 5 i) : zNm σ' μ' υ' N i := by
  obtain ⟨p, z, a1, a2, a3, a4, a5, a6, a7⟩ := h
  exact ⟨p, z, by rw [h4]; exact a1, by rw [h5]; exact a2, a3, a4, a5, by rw [h1]; exact a6, by rw [hu, h1]; exact a7⟩
theorem NG_of {σ σ' μ μ' : MI} {υ υ' : ML} {N n : Nat} (h : NG σ μ υ N n) (h4 : σ' 4 = σ 4) (h5 : σ' 5 = σ 5) (h1 : μ' 1 = μ 1) (hu : ∀ j, υ' 5 j = υ 5 j) : NG σ' μ' υ' N n :=
  fun i hi => zNm_of (h i hi) (by rw [h4]) (by rw [h5]) h1 (hu i)
theorem goT_5 (μ : MI) (υ : ML) (j : Nat) : goT μ υ 5 j = υ 5 j := goT_ne μ υ (Or.inl (by decide))
theorem tdT_5 (μ : MI) (υ : ML) (a : Nat) (lo hi : Int32) (j : Nat) : tdT μ υ a lo hi 5 j = υ 5 j := tdT_ne μ υ a lo hi (Or.inl (by decide))
section RDG
variable {σ0 μ0 σ μ : MI} {υ : ML} {N b n : Nat}
theorem zG_go (h : zG σ0 μ0 N b n σ μ υ) (hP : zP σ μ N) : zG σ0 μ0 N b n (adS σ) (goM μ) (goT μ υ) :=
  ⟨FR_ad h.1 hP, GR_go h.2.1, NG_of h.2.2.1 (adS_ne σ (by decide)) (adS_ne σ (by decide)) (goM_1 μ) (goT_5 μ υ), by rw [adS_ne σ (by decide), goM_0 μ (by decide) (by decide) (by decide) (by decide) (by decide)]; exact h.2.2.2⟩
theorem zG_3 (h : zG σ0 μ0 N b n σ μ υ) (j : Nat) (v : Int32) : zG σ0 μ0 N b n σ (s2 μ 3 j v) υ :=
  ⟨h.1, GR_3 h.2.1 j v, NG_of h.2.2.1 rfl rfl (s2_nk _ _ _ (by decide)) (fun _ => rfl), by rw [s2_nk _ _ _ (by decide)]; exact h.2.2.2⟩
theorem zG_s {σ' : MI} (h : zG σ0 μ0 N b n σ μ υ) (h1 : ∀ c, c ≠ 1 → (c < 44 + 57 * b ∨ 101 + 57 * b ≤ c) → σ' c = σ c) (h3 : σ' 1 3 = σ 1 3) (h5 : σ' 1 5 = σ 1 5) : zG σ0 μ0 N b n σ' μ υ :=
  ⟨FR_w h.1 (fun c a1 _ _ a => h1 c a1 a) h3, h.2.1, NG_of h.2.2.1 (h1 4 (by decide) (by omega)) (h1 5 (by decide) (by omega)) rfl (fun _ => rfl), by rw [h5]; exact h.2.2.2⟩
theorem zG_b (h : zG σ0 μ0 N b n σ μ υ) {k : Nat} (hk : 44 + 57 * b ≤ k) (hk2 : k < 101 + 57 * b) (j : Nat) (v : Int32) : zG σ0 μ0 N b n (s2 σ k j v) μ υ :=
  zG_s h (fun c _ a => s2_nk _ _ _ (by omega)) (by rw [s2_nk _ _ _ (by omega)]) (by rw [s2_nk _ _ _ (by omega)])
theorem zG_1 (h : zG σ0 μ0 N b n σ μ υ) {j : Nat} (hj : 3 ≠ j ∧ 5 ≠ j) (v : Int32) : zG σ0 μ0 N b n (s2 σ 1 j v) μ υ :=
  zG_s h (fun c a1 _ => s2_nk _ _ _ a1) (s2_nj _ _ _ hj.1) (s2_nj _ _ _ hj.2)
/-- the next token -/
theorem z_adv (hP : zP σ μ N) (hG : zG σ0 μ0 N b n σ μ υ) : zK (adS σ) (goM μ) (goT μ υ) N ∧ zG σ0 μ0 N b n (adS σ) (goM μ) (goT μ υ) := ⟨z_go υ hP, zG_go hG hP⟩
end RDG
/-! where both stand, behind writes elsewhere -/
theorem zBy_cg {σ σ' μ μ' : MI} {N : Nat} (h : zBy σ μ N) (h2 : σ' 2 = σ 2) (h3 : σ' 3 = σ 3) (m0 : μ' 0 = μ 0) (m1 : μ' 1 = μ 1) : zBy σ' μ' N := zBy_of h (by rw [h2]) h3 (by rw [m0]) m1
theorem zP_cg {σ σ' μ μ' : MI} {N : Nat} (h : zP σ μ N) (h2 : σ' 2 = σ 2) (h3 : σ' 3 = σ 3) (m0 : μ' 0 = μ 0) (m1 : μ' 1 = μ 1) : zP σ' μ' N := by
  obtain ⟨hB, t, ht, a, c⟩ := h
  exact ⟨zBy_cg hB h2 h3 m0 m1, t, ht, by rw [h2]; exact a, by rw [m0]; exact c⟩
theorem zK_cg {σ σ' μ μ' : MI} {υ υ' : ML} {N : Nat} (h : zK σ μ υ N) (h2 : σ' 2 = σ 2) (h3 : σ' 3 = σ 3) (m0 : μ' 0 = μ 0) (m1 : μ' 1 = μ 1) (hu : υ' 0 11 = υ 0 11) : zK σ' μ' υ' N := by
  obtain ⟨hB, hs, hc⟩ := h
  refine ⟨zBy_cg hB h2 h3 m0 m1, by rw [h2, m0]; exact hs, ?_⟩
  rw [h2, m0, m1, hu]
  exact hc
/-! a number is read -/
section RDN
variable {σ0 μ0 σ μ : MI} {υ : ML} {N b n : Nat}
theorem rnM_lo (σ : MI) {a z : Int32} (h : inB σ a z = true) : rnM σ a z 1 4 = σ 2 5 := by rw [rnM, if_pos h, adS_ne _ (by decide), s2_eq]
theorem z_rnT (hK : zK σ μ υ N) (hG : zG σ0 μ0 N b n σ μ υ) {a z : Int32} (h : tdB μ a z = true) (p : Nat) : zK (rnM σ a z) (tdM μ p a z) (tdT μ υ p a z) N ∧ zG σ0 μ0 N b n (rnM σ a z) (tdM μ p a z) (tdT μ υ p a z) ∧ rnM σ a z 1 4 = μ 0 7 := by
  have hb := z_inB hK a z
  rw [h] at hb
  have h6 : μ 0 6 = 3 := by
    unfold tdB at h
    by_cases c : μ 0 6 = 3
    · exact c
    · rw [if_neg c] at h; cases h
  have hm : mIn (μ 0 7) a z = true := by unfold tdB at h; rw [if_pos h6] at h; exact h
  have hn := (zK_num hK).2 h6
  have e1 : rnM σ a z = adS (s2 σ 1 4 (σ 2 5)) := by rw [rnM, if_pos hb]
  have e2 : tdM μ p a z = goM (s2 μ 3 p (μ 0 7)) := by rw [tdM, if_pos h6, if_pos hm]
  have e3 : tdT μ υ p a z = goT (s2 μ 3 p (μ 0 7)) υ := by rw [tdT, if_pos h6, if_pos hm]
  have q := z_adv (υ := υ) (zP_cg (σ' := s2 σ 1 4 (σ 2 5)) (μ' := s2 μ 3 p (μ 0 7)) hn.2.2 (s2_nk _ _ _ (by decide)) (s2_nk _ _ _ (by decide)) (s2_nk _ _ _ (by decide)) (s2_nk _ _ _ (by decide))) (zG_3 (zG_1 hG (by decide) _) _ _)
  have e4 : rnM σ a z 1 4 = μ 0 7 := by rw [rnM_lo σ hb]; exact hn.1
  refine ⟨?_, ?_, e4⟩
  · rw [e1, e2, e3]; exact q.1
  · rw [e1, e2, e3]; exact q.2
theorem z_rnF (hK : zK σ μ υ N) (hG : zG σ0 μ0 N b n σ μ υ) {a z : Int32} (h : tdB μ a z = false) (p : Nat) : zF (rnM σ a z) (tdM μ p a z) ∧ FR σ0 (rnM σ a z) b ∧ GR μ0 (tdM μ p a z) := by
  have hb := z_inB hK a z
  rw [h] at hb
  refine ⟨?_, FR_rn hG.1 hb, GR_td hG.2.1 p a z⟩
  rw [rnM, if_neg (by rw [hb]; exact Bool.false_ne_true)]
  exact z_inF hK h p
/-- the same, the number goes nowhere yet -/
theorem z_rnT' (hK : zK σ μ υ N) (hG : zG σ0 μ0 N b n σ μ υ) {a z : Int32} (h6 : μ 0 6 = 3) (hm : mIn (μ 0 7) a z = true) : inB σ a z = true ∧ zK (rnM σ a z) (goM μ) (goT μ υ) N ∧ zG σ0 μ0 N b n (rnM σ a z) (goM μ) (goT μ υ) ∧ rnM σ a z 1 4 = μ 0 7 := by
  have hb := z_inB hK a z
  have ht : tdB μ a z = true := by unfold tdB; rw [if_pos h6]; exact hm
  rw [ht] at hb
  have hn := (zK_num hK).2 h6
  have e1 : rnM σ a z = adS (s2 σ 1 4 (σ 2 5)) := by rw [rnM, if_pos hb]
  have q := z_adv (υ := υ) (zP_cg (σ' := s2 σ 1 4 (σ 2 5)) (μ' := μ) hn.2.2 (s2_nk _ _ _ (by decide)) (s2_nk _ _ _ (by decide)) rfl rfl) (zG_1 hG (by decide) _)
  have e4 : rnM σ a z 1 4 = μ 0 7 := by rw [rnM_lo σ hb]; exact hn.1
  refine ⟨hb, ?_, ?_, e4⟩
  · rw [e1]; exact q.1
  · rw [e1]; exact q.2
theorem z_rnF' (hK : zK σ μ υ N) {a z : Int32} (h : ¬ (μ 0 6 = 3 ∧ mIn (μ 0 7) a z = true)) : inB σ a z = false ∧ zF (rnM σ a z) (mBad μ (if μ 0 6 = 3 then 2 else 1)) := by
  have hb := z_inB hK a z
  have ht : tdB μ a z = false := by
    unfold tdB
    by_cases c : μ 0 6 = 3
    · rw [if_pos c, Bool.eq_false_iff]; exact fun q => h ⟨c, q⟩
    · rw [if_neg c]
  have e := z_inF hK ht 0
  rw [ht] at hb
  refine ⟨hb, ?_⟩
  rw [rnM, if_neg (by rw [hb]; exact Bool.false_ne_true)]
  unfold tdM at e
  by_cases c : μ 0 6 = 3
  · rw [if_pos c]
    rw [if_pos c, if_neg (fun q => h ⟨c, q⟩)] at e
    exact e
  · rw [if_neg c]
    rw [if_neg c] at e
    exact e
theorem mIs_P (hK : zK σ μ υ N) {w : Int32} (h : mIs μ υ w = true) : zP σ μ N := ((zK_word hK).2 (mIs_w h)).1
theorem mName_P (hK : zK σ μ υ N) (h : mName μ υ = true) : zP σ μ N := ((zK_word hK).2 (mName_w h)).1
theorem z_bad1 (hK : zK σ μ υ N) (hG : zG σ0 μ0 N b n σ μ υ) : zF (s2 σ 1 5 1) (mBad μ 1) ∧ FR σ0 (s2 σ 1 5 1) b ∧ GR μ0 (mBad μ 1) := ⟨zF_1 hK, FR_1 hG.1 (by decide) _, GR_bad hG.2.1 _⟩
theorem z_badv (hK : zK σ μ υ N) (hG : zG σ0 μ0 N b n σ μ υ) (h : μ 0 6 ≠ 1) (v : Int32) : zF (s2 σ 1 5 v) (mBad μ v) ∧ FR σ0 (s2 σ 1 5 v) b ∧ GR μ0 (mBad μ v) := ⟨zF_w hK h v, FR_1 hG.1 (by decide) _, GR_bad hG.2.1 _⟩
theorem ne1_2 {x : Int32} (h : x = 2) : x ≠ 1 := by rw [h]; decide
theorem ne1_3 {x : Int32} (h : x = 3) : x ≠ 1 := by rw [h]; decide
end RDN
/-- what a part of a line gives -/
def zO (σ0 μ0 : MI) (N b n : Nat) (P : MI → MI → ML → Prop) (z : Bool × MI) (w : Bool × MI × ML) : Prop :=
  (z.1 = true ∧ w.1 = true ∧ zK z.2 w.2.1 w.2.2 N ∧ zG σ0 μ0 N b n z.2 w.2.1 w.2.2 ∧ P z.2 w.2.1 w.2.2) ∨ (z.1 = false ∧ w.1 = false ∧ zF z.2 w.2.1 ∧ FR σ0 z.2 b ∧ GR μ0 w.2.1)
theorem zO_f {σ0 μ0 : MI} {N b n : Nat} {P : MI → MI → ML → Prop} {σ μ : MI} {υ : ML} (h : zF σ μ ∧ FR σ0 σ b ∧ GR μ0 μ) : zO σ0 μ0 N b n P (false, σ) (false, μ, υ) := Or.inr ⟨rfl, rfl, h.1, h.2.1, h.2.2⟩
theorem zO_t {σ0 μ0 : MI} {N b n : Nat} {P : MI → MI → ML → Prop} {σ μ : MI} {υ : ML} (hK : zK σ μ υ N) (hG : zG σ0 μ0 N b n σ μ υ) (hP : P σ μ υ) : zO σ0 μ0 N b n P (true, σ) (true, μ, υ) := Or.inl ⟨rfl, rfl, hK, hG, hP⟩
