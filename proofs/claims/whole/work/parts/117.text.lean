/-! ===== the text ===== -/
theorem tO_neg {x : Int32} {s : Nat} (hs : s ≤ 740) (h : x = nI s) : (-1 - x).toInt < 0 := by
  have e1 : (-1 : Int32).toInt = -1 := rfl
  have e2 : x.toInt = (s : Int) := by rw [h, nI_toInt (by omega)]
  rw [fb_subI (by omega) (by omega)]
  omega
section RDT
variable {σ0 μ0 : MI} {N b : Nat}
/-- what a text gives -/
def tO (σ0 μ0 : MI) (b : Nat) (z : Int32 × MI) (w : Int32 × MI × ML) : Prop := z.1 = w.1 ∧ z.2 1 5 = w.2.1 0 9 ∧ FR σ0 z.2 b ∧ w.2.1 0 2 = μ0 0 2 ∧ TI w.2.1 ∧
  ((z.1.toInt < 0 ∧ GR μ0 w.2.1) ∨ (0 ≤ z.1.toInt ∧ zBk z.2 b (w.2.1 2) ∧ RI (w.2.1 2) ∧ w.2.1 2 609 = 0 ∧ w.2.1 0 16 = 0))
theorem tO_f {z : MI} {w : MI} {υ : ML} (hF : zF z w) (hR : FR σ0 z b) (hG : GR μ0 w) (hT : TI w) : tO σ0 μ0 b (-1 - z 2 2, z) (-1 - w 0 10, w, υ) := by
  obtain ⟨s, hs, e⟩ := hR.2.2
  exact ⟨by show -1 - z 2 2 = -1 - w 0 10; rw [hF.2], hF.1, hR, hG.2.2.1, hT, Or.inl ⟨tO_neg hs e, hG⟩⟩
theorem z_textL (hb2 : b < 2) (hb : bz (σ0 1 3) = b) : ∀ (r k : Nat) (σ μ : MI) (υ : ML), k + r = 14 → zK σ μ υ N → TI μ → LI μ → zBk σ b (μ 3) → zG σ0 μ0 N b (μ 3 1).toNatClampNeg σ μ υ → (if k = 0 then μ 3 1 = 0 ∧ μ 3 494 = 0 else (k : Int) = 1 + (μ 3 1).toInt + (μ 3 494).toInt) → tO σ0 μ0 b (txL r σ k) (mxL (r + 1) k μ υ) := by
  intro r
  induction r with
  | zero =>
    intro k σ μ υ hk hK hT hL hB hG hcn
    exfalso
    rw [if_neg (by omega)] at hcn
    have h1 := hL.1.2.1
    have h4 := hL.1.2.2.1
    unfold rg at h1 h4
    omega
  | succ r ih =>
    intro k σ μ υ hk hK hT hL hB hG hcn
    rw [txL, mxL]
    have he := zK_end hK
    by_cases c0 : μ 0 6 = 0
    · rw [if_pos c0, if_pos (he.mpr c0)]
      have e2 : ∀ j, j < 880 → s2 (nwS μ 880) 0 16 0 2 j = μ 3 j := fun j hj => by rw [s2_nk _ _ _ (by decide), nwS_at μ 880 hj]
      have e0 : ∀ j, j ≠ 16 → s2 (nwS μ 880) 0 16 0 0 j = μ 0 j := fun j hj => by rw [s2_nj _ _ _ hj, nwS_ne μ (by decide)]
      have hX : zX (μ 3) := ⟨hL.1, fun d hd => by rw [hL.2.1, z0] at hd; omega⟩
      unfold tO
      dsimp only
      refine ⟨rfl, by rw [e0 9 (by decide)]; exact hG.2.2.2, hG.1, by rw [e0 2 (by decide)]; exact hG.2.1.2.2.1, ?_, Or.inr ⟨?_, ?_, ?_, ?_, s2_eq _ _ _ _⟩⟩
      · obtain ⟨n, t, a1, a2, a3, a4, a5⟩ := hT
        exact ⟨n, t, by rw [e0 3 (by decide)]; exact a1, a2, by rw [e0 4 (by decide)]; exact a3, a4, by rw [e0 6 (by decide), e0 7 (by decide)]; exact a5⟩
      · rw [nI_toInt (by omega)]; omega
      · exact zBk_agree hL.1 hB (fun j _ hj => e2 j (by omega)) (fun i m hi hm _ => e2 _ (by omega))
      · exact (zX_agree hX e2).1
      · rw [e2 609 (by omega)]; exact hL.2.1
    · rw [if_neg c0, if_neg (fun q => c0 (he.mp q))]
      have hf : decide (k = 0) = true → μ 3 1 = 0 ∧ μ 3 494 = 0 := fun q => by
        rw [if_pos (of_decide_eq_true q)] at hcn; exact hcn
      have hok := mlP_ok υ (decide (k = 0)) hT hL hf
      unfold LN at hok
      rcases z_line hb2 hb hK hT hL hB hG (decide (k = 0)) hf with ⟨a1, a2, a3, a4, a5⟩ | ⟨a1, a2, a3, a4, a5⟩
      · rw [if_pos a1, if_pos a2]
        have hok2 := hok.2.2 a2
        have hTI := hok.1
        have hsg := zK_sig a3 (c := 59) ⟨by decide, by decide⟩
        rw [hsg.1]
        generalize (lnP σ (decide (k = 0))).2 = σ2 at *
        generalize (mlP μ υ (decide (k = 0))).2.2 = υ2 at *
        generalize (mlP μ υ (decide (k = 0))).2.1 = μ2 at *
        cases hp : mSig μ2 59
        · have hn : ¬ sigS σ2 59 = true := by rw [hsg.1, hp]; exact Bool.false_ne_true
          have hn2 : ¬ mSig μ2 59 = true := by rw [hp]; exact Bool.false_ne_true
          rw [if_neg Bool.false_ne_true, if_neg Bool.false_ne_true, rsM, if_neg hn, meM, if_neg hn2]
          obtain ⟨b1, b2, b3⟩ := z_bad1 a3 a4
          exact tO_f b1 b2 b3 (TI_bad hTI _)
        · have hy : sigS σ2 59 = true := by rw [hsg.1, hp]
          have e1 : rsM σ2 59 = adS σ2 := by rw [rsM, if_pos hy]
          have e2 : meM μ2 = goM μ2 := by rw [meM, if_pos hp]
          have e3 : meT μ2 υ2 = goT μ2 υ2 := by rw [meT, if_pos hp]
          rw [if_pos rfl, if_pos rfl, e1, e2, e3]
          obtain ⟨hK3, hG3⟩ := z_adv (υ := υ2) (hsg.2 hp) a4
          have f3 : goM μ2 3 = μ2 3 := goM_3 μ2
          have hL2 := hok2.1
          refine ih (k + 1) _ _ _ (by omega) hK3 (TI_go hTI) (LI_row hL2 f3) ?_ (by rw [f3]; exact hG3) ?_
          · rw [f3]
            exact z_keepB a5 hL2.1.2.1 hL2.1.2.2.1 (fun c _ _ => adS_ne _ (by omega))
          · rw [if_neg (by omega), f3]
            have hc2 := hok2.2
            by_cases k0 : k = 0
            · rw [if_pos (decide_eq_true k0)] at hc2
              rw [if_pos k0] at hcn
              rw [hc2.1, hc2.2, hcn.1, hcn.2, z0]
              omega
            · rw [if_neg (by rw [decide_eq_false k0]; exact Bool.false_ne_true)] at hc2
              rw [if_neg k0] at hcn
              omega
      · rw [if_neg (by rw [a1]; exact Bool.false_ne_true), if_neg (by rw [a2]; exact Bool.false_ne_true)]
        exact tO_f a3 a4 a5 hok.1
end RDT
/-! class and reference, as they stand between calls -/
def zA (σ : MI) (τ : ML) (μ : MI) : Prop := ∃ b t : Nat, b < 2 ∧ bz (σ 0 1) = b ∧ bz (σ 1 3) = 1 - b ∧ zT σ μ t ∧ σ 1 5 = μ 0 9 ∧ zR σ τ b (μ 2) ∧ zH σ μ ∧ (μ 0 6 = 3 → 0 ≤ (μ 0 7).toInt)
theorem zH_same {σ σ' μ μ' : MI} (h : zH σ μ) (hσ : ∀ c, 6 ≤ c → c ≤ 11 → σ' c = σ c) (h2 : μ' 2 = μ 2) (h4 : μ' 4 = μ 4) (h16 : μ' 0 16 = μ 0 16) : zH σ' μ' := by
  obtain ⟨p, n, a1, a2, a3, a4, a5, a6, a7⟩ := h
  have es : ∀ j, zsnap μ' j = zsnap μ j := fun j => by unfold zsnap; rw [h4]
  have er : ∀ j, zrow μ' n j = zrow μ n j := fun j => by unfold zrow; rw [h2, es]
  refine ⟨p, n, a1, a2, by rw [hσ 6 (by omega) (by omega)]; exact a3, by rw [hσ 6 (by omega) (by omega)]; exact a4, by rw [h16]; exact a5, fun j hj => by rw [es]; exact a6 j hj, fun j hj => ?_⟩
  rw [er, er, hσ 7 (by omega) (by omega), hσ 8 (by omega) (by omega), hσ 9 (by omega) (by omega), hσ 10 (by omega) (by omega), hσ 11 (by omega) (by omega)]
  exact a7 j hj
theorem zR_same {σ σ' : MI} {τ : ML} {b : Nat} {f : Nat → Int32} (h : zR σ τ b f) (hσ : ∀ c, 12 ≤ c → c < 44 ∨ (44 + 57 * b ≤ c ∧ c < 101 + 57 * b) → σ' c = σ c) : zR σ' τ b f :=
  ⟨z_keepB h.1 h.2.2.1.2.1 h.2.2.1.2.2.1 (fun c a1 a2 => hσ c (by omega) (Or.inr ⟨a1, a2⟩)), z_keepL h.2.1 h.2.2.1.2.2.2.1 (fun c a1 a2 => hσ c a1 (Or.inl a2)) (fun _ _ => rfl), h.2.2⟩
def tpr (σ : MI) (b : Nat) : MI := s2 (s2 (s2 (s2 (s2 σ (44 + 57 * b) 0 0) (44 + 57 * b) 1 0) (44 + 57 * b) 2 0) 1 5 0) 2 3 0
theorem mx0_ne (μ : MI) {c : Nat} (h0 : c ≠ 0) (h3 : c ≠ 3) : mx0 μ c = μ c := by
  unfold mx0
  rw [zrS_ne _ h3, s2_nk _ _ _ h0, s2_nk _ _ _ h0, s2_nk _ _ _ h0, s2_nk _ _ _ h0, s2_nk _ _ _ h0]
theorem z_text {σ : MI} {τ : ML} {μ : MI} (υ : ML) (h : zA σ τ μ) : (txP σ).1 = (mxP μ υ).1 ∧ zA (teM σ) τ (mxP μ υ).2.1 := by
  obtain ⟨b, t, hb2, hb0, hb1, hT, hF, hR, hH, h67⟩ := h
  obtain ⟨t7, e21, e02, hby⟩ := hT
  have hb2' : 1 - b < 2 := by omega
  have eP : txP σ = txL 14 (adS (tpr σ (1 - b))) 0 := by unfold txP tx0 tpr; rw [hb1]
  have m00 : ∀ j, j ≠ 0 → j ≠ 3 → j ≠ 2 → j ≠ 9 → j ≠ 4 → mx0 μ 0 j = μ 0 j := fun j a0 a3 a2 a9 a4 => by
    unfold mx0
    rw [zrS_ne _ (by decide), s2_nj _ _ _ a4, s2_nj _ _ _ a9, s2_nj _ _ _ a2, s2_nj _ _ _ a3, s2_nj _ _ _ a0]
  have m3 : mx0 μ 0 3 = nI t := by unfold mx0; rw [zrS_ne _ (by decide), s2_nj _ _ _ (by decide), s2_nj _ _ _ (by decide), s2_nj _ _ _ (by decide), s2_eq, e02]
  have m2 : mx0 μ 0 2 = 0 := by unfold mx0; rw [zrS_ne _ (by decide), s2_nj _ _ _ (by decide), s2_nj _ _ _ (by decide), s2_eq]
  have m9 : mx0 μ 0 9 = 0 := by unfold mx0; rw [zrS_ne _ (by decide), s2_nj _ _ _ (by decide), s2_eq]
  have m4 : mx0 μ 0 4 = 0 := by unfold mx0; rw [zrS_ne _ (by decide), s2_eq]
  have mz : ∀ j, j < 880 → mx0 μ 3 j = 0 := fun j hj => by unfold mx0; exact zrS_at _ 880 hj
  have p1 : ∀ j, j ≠ 5 → tpr σ (1 - b) 1 j = σ 1 j := fun j hj => by
    unfold tpr
    rw [s2_nk _ _ _ (by decide), s2_nj _ _ _ hj, s2_nk _ _ _ (by omega), s2_nk _ _ _ (by omega), s2_nk _ _ _ (by omega)]
  have p15 : tpr σ (1 - b) 1 5 = 0 := by unfold tpr; rw [s2_nk _ _ _ (by decide), s2_eq]
  have p2 : ∀ j, j ≠ 3 → tpr σ (1 - b) 2 j = σ 2 j := fun j hj => by
    unfold tpr
    rw [s2_nj _ _ _ hj, s2_nk _ _ _ (by decide), s2_nk _ _ _ (by omega), s2_nk _ _ _ (by omega), s2_nk _ _ _ (by omega)]
  have p23 : tpr σ (1 - b) 2 3 = 0 := by unfold tpr; rw [s2_eq]
  have po : ∀ c, c ≠ 1 → c ≠ 2 → c ≠ 44 + 57 * (1 - b) → tpr σ (1 - b) c = σ c := fun c a1 a2 a3 => by
    unfold tpr
    rw [s2_nk _ _ _ a2, s2_nk _ _ _ a1, s2_nk _ _ _ a3, s2_nk _ _ _ a3, s2_nk _ _ _ a3]
  have p44 : tpr σ (1 - b) (44 + 57 * (1 - b)) 0 = 0 ∧ tpr σ (1 - b) (44 + 57 * (1 - b)) 1 = 0 ∧ tpr σ (1 - b) (44 + 57 * (1 - b)) 2 = 0 := by
    unfold tpr
    rw [s2_nk _ _ _ (by omega), s2_nk _ _ _ (by omega)]
    exact ⟨by rw [s2_nj _ _ _ (by decide), s2_nj _ _ _ (by decide), s2_eq], by rw [s2_nj _ _ _ (by decide), s2_eq], s2_eq _ _ _ _⟩
  have hP : zP (tpr σ (1 - b)) (mx0 μ) t := ⟨⟨t7, by rw [p2 1 (by decide)]; exact e21, m3, fun j hj => by rw [po 3 (by decide) (by decide) (by omega), mx0_ne μ (by decide) (by decide)]; exact hby j hj⟩, 0, by omega, by rw [p23]; rfl, by rw [m4]; rfl⟩
  have hbz : bz (tpr σ (1 - b) 1 3) = 1 - b := by rw [p1 3 (by decide)]; exact hb1
  have hK0 := z_go υ hP
  have f3 : goM (mx0 μ) 3 = mx0 μ 3 := goM_3 _
  have hT0 : TI (goM (mx0 μ)) := TI_go ⟨t, 0, m3, t7, by rw [m4]; rfl, by omega, by rw [m00 6 (by decide) (by decide) (by decide) (by decide) (by decide), m00 7 (by decide) (by decide) (by decide) (by decide) (by decide)]; exact h67⟩
  have hL0 : LI (goM (mx0 μ)) := LI_row (LI_zero mz) f3
  have hB0 : zBk (adS (tpr σ (1 - b))) (1 - b) (goM (mx0 μ) 3) := by
    rw [f3]
    have e : adS (tpr σ (1 - b)) (44 + 57 * (1 - b)) = tpr σ (1 - b) (44 + 57 * (1 - b)) := adS_ne _ (by omega)
    refine ⟨by rw [e, mz 0 (by omega)]; exact p44.1, by rw [e, mz 1 (by omega)]; exact p44.2.1, by rw [e, mz 494 (by omega)]; exact p44.2.2, fun i hi => ?_, fun c hc => ?_⟩
    · rw [mz 1 (by omega), z0] at hi; omega
    · rw [mz 494 (by omega), z0] at hc; omega
  have e1 : goM (mx0 μ) 3 1 = 0 := by rw [f3]; exact mz 1 (by omega)
  have e4 : goM (mx0 μ) 3 494 = 0 := by rw [f3]; exact mz 494 (by omega)
  have hG0 : zG (tpr σ (1 - b)) (mx0 μ) t (1 - b) (goM (mx0 μ) 3 1).toNatClampNeg (adS (tpr σ (1 - b))) (goM (mx0 μ)) (goT (mx0 μ) υ) := by
    refine ⟨⟨fun c _ a2 _ _ _ => adS_ne _ a2, rd3_ad _, adS_st hP⟩, GR_go ⟨fun _ _ _ => rfl, rfl, rfl, rfl⟩, fun i hi => ?_, ?_⟩
    · rw [e1] at hi
      exact absurd hi (Nat.not_lt_zero _)
    · rw [adS_ne _ (by decide), p15, goM_0 _ (by decide) (by decide) (by decide) (by decide) (by decide), m9]
  have q := z_textL hb2' hbz 14 0 _ _ _ rfl hK0 hT0 hL0 hB0 hG0 (by rw [if_pos rfl]; exact ⟨e1, e4⟩)
  have eM : mxL (14 + 1) 0 (goM (mx0 μ)) (goT (mx0 μ) υ) = mxP μ υ := rfl
  rw [← eP, eM] at q
  unfold teM teX
  generalize mxP μ υ = w at *
  generalize txP σ = z at *
  obtain ⟨q1, q2, q3, q4, q5, q6⟩ := q
  refine ⟨q1, ?_⟩
  have qc : ∀ c, c ≠ 1 → c ≠ 2 → c ≠ 4 → c ≠ 5 → (c < 44 + 57 * (1 - b) ∨ 101 + 57 * (1 - b) ≤ c) → z.2 c = σ c := fun c a1 a2 a4 a5 a => by
    rw [q3.1 c a1 a2 a4 a5 a]; exact po c a1 a2 (by omega)
  have q13 : z.2 1 3 = σ 1 3 := by rw [q3.2.1]; exact p1 3 (by decide)
  have q02 : w.2.1 0 2 = 0 := by rw [q4]; exact m2
  have q67 : w.2.1 0 6 = 3 → 0 ≤ (w.2.1 0 7).toInt := by
    obtain ⟨_, _, _, _, _, _, a⟩ := q5
    exact a
  rcases q6 with ⟨n1, n2⟩ | ⟨n1, n2, n3, n4, n5⟩
  · rw [if_neg (by rw [i_le, z0]; omega)]
    have g2 : w.2.1 2 = μ 2 := by rw [n2.1 2 (by decide) (by decide)]; exact mx0_ne μ (by decide) (by decide)
    have g4 : w.2.1 4 = μ 4 := by rw [n2.1 4 (by decide) (by decide)]; exact mx0_ne μ (by decide) (by decide)
    have g16 : w.2.1 0 16 = μ 0 16 := by rw [n2.2.2.2]; exact m00 16 (by decide) (by decide) (by decide) (by decide) (by decide)
    have c2 : ∀ c, c ≠ 2 → s2 z.2 2 1 0 c = z.2 c := fun c hc => s2_nk _ _ _ hc
    refine ⟨b, 0, hb2, ?_, ?_, ⟨by omega, s2_eq _ _ _ _, q02, fun j hj => absurd hj (Nat.not_lt_zero _)⟩, ?_, ?_, ?_, q67⟩
    · rw [c2 0 (by decide), qc 0 (by decide) (by decide) (by decide) (by decide) (by omega)]; exact hb0
    · rw [c2 1 (by decide), q13]; exact hb1
    · rw [c2 1 (by decide)]; exact q2
    · rw [g2]
      exact zR_same hR (fun c a1 a2 => by rw [c2 c (by omega), qc c (by omega) (by omega) (by omega) (by omega) (by omega)])
    · exact zH_same hH (fun c a1 a2 => by rw [c2 c (by omega), qc c (by omega) (by omega) (by omega) (by omega) (by omega)]) g2 g4 g16
  · rw [if_pos (by rw [i_le, z0]; omega)]
    have t01 : s2 z.2 2 1 0 0 1 = σ 0 1 := by rw [s2_nk _ _ _ (by decide), qc 0 (by decide) (by decide) (by decide) (by decide) (by omega)]
    have t13 : s2 z.2 2 1 0 1 3 = σ 1 3 := by rw [s2_nk _ _ _ (by decide), q13]
    rw [t01, t13, hb0, hb1]
    have ce : ∀ c, c ≠ 0 → c ≠ 1 → c ≠ 2 → c ≠ 6 → c ≠ 12 → s2 (s2 (s2 (s2 (s2 z.2 2 1 0) 1 3 (bw b)) 0 1 (bw (1 - b))) 12 1 0) 6 6 0 c = z.2 c := fun c a0 a1 a2 a6 a12 => by
      rw [s2_nk _ _ _ a6, s2_nk _ _ _ a12, s2_nk _ _ _ a0, s2_nk _ _ _ a1, s2_nk _ _ _ a2]
    refine ⟨1 - b, 0, hb2', ?_, ?_, ⟨by omega, ?_, q02, fun j hj => absurd hj (Nat.not_lt_zero _)⟩, ?_, ⟨?_, ⟨?_, fun d hd => ?_⟩, n3, fun d hd => ?_⟩, ?_, q67⟩
    · rw [s2_nk _ _ _ (by decide), s2_nk _ _ _ (by decide), s2_eq]; exact bz_bw hb2'
    · rw [s2_nk _ _ _ (by decide), s2_nk _ _ _ (by decide), s2_nk _ _ _ (by decide), s2_eq, bz_bw hb2]; omega
    · rw [s2_nk _ _ _ (by decide), s2_nk _ _ _ (by decide), s2_nk _ _ _ (by decide), s2_nk _ _ _ (by decide), s2_eq]; rfl
    · rw [s2_nk _ _ _ (by decide), s2_nk _ _ _ (by decide), s2_nk _ _ _ (by decide), s2_nj _ _ _ (by decide), s2_nk _ _ _ (by decide)]; exact q2
    · exact z_keepB n2 n3.2.1 n3.2.2.1 (fun c a1 a2 => ce c (by omega) (by omega) (by omega) (by omega) (by omega))
    · rw [s2_nk _ _ _ (by decide), s2_eq, n4]
    · rw [n4, z0] at hd; omega
    · rw [n4, z0] at hd; omega
    · obtain ⟨p, n, a1, a2, a3, a4, a5, a6, a7⟩ := hH
      refine ⟨p, 0, a1, by omega, ?_, s2_eq _ _ _ _, n5, fun j hj => absurd hj (Nat.not_lt_zero _), fun j hj => absurd hj (Nat.not_lt_zero _)⟩
      rw [s2_nj _ _ _ (by decide), s2_nk _ _ _ (by decide), s2_nk _ _ _ (by decide), s2_nk _ _ _ (by decide), s2_nk _ _ _ (by decide), qc 6 (by decide) (by decide) (by decide) (by decide) (by omega)]
      exact a3
