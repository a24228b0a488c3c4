/-! ===== the rule of a contract; the contract; the month ===== -/
section RDL
variable {σ0 μ0 : MI} {N b n c : Nat}
def pBk (b : Nat) : MI → MI → ML → Prop := fun σ μ _ => zBk σ b (μ 3)
/-- a number into the contract's place j -/
theorem z_cput (hc : c < 6) {σ μ : MI} {υ : ML} {J : List Nat} (hK : zK σ μ υ N) (hG : zG σ0 μ0 N b n σ μ υ) (hC : zCn b c σ (μ 3) J) {a z : Int32} (ht : tdB μ a z = true) {j : Nat} (hj : j < 6) :
    zK (s2 (rnM σ a z) (83 + 57 * b + 3 * c) j (rnM σ a z 1 4)) (tdM μ (495 + 19 * c + j) a z) (tdT μ υ (495 + 19 * c + j) a z) N ∧ zG σ0 μ0 N b n (s2 (rnM σ a z) (83 + 57 * b + 3 * c) j (rnM σ a z 1 4)) (tdM μ (495 + 19 * c + j) a z) (tdT μ υ (495 + 19 * c + j) a z) ∧ zCn b c (s2 (rnM σ a z) (83 + 57 * b + 3 * c) j (rnM σ a z 1 4)) (tdM μ (495 + 19 * c + j) a z 3) (j :: J) := by
  obtain ⟨k1, k2, k3⟩ := z_rnT hK hG ht (495 + 19 * c + j)
  have t3 := (tdM_3 (a := 495 + 19 * c + j) ht).1
  refine ⟨zK_cg k1 (s2_nk _ _ _ (by omega)) (s2_nk _ _ _ (by omega)) rfl rfl rfl, zG_b k2 (by omega) (by omega) _ _, ?_⟩
  refine zCn_put hc hj hC (fun x a1 a2 => by rw [s2_nk _ _ _ a2, rnM_ne _ _ _ (by omega) (by omega)]) (fun y hy => by rw [s2_nj _ _ _ hy, rnM_ne _ _ _ (by omega) (by omega)]) ?_ (fun y hy => tdM_nj _ _ _ hy)
  rw [s2_eq, t3, k3]
def rlT (b c : Nat) (σ : MI) : Bool × MI := if inB σ 0 999 = true then (if isWd (s2 (rnM σ 0 999) (83 + 57 * b + 3 * c) 3 (rnM σ 0 999 1 4)) 6 = true then (if inB (rwM (s2 (rnM σ 0 999) (83 + 57 * b + 3 * c) 3 (rnM σ 0 999 1 4)) 6) 0 100 = true then (true, s2 (rnM (rwM (s2 (rnM σ 0 999) (83 + 57 * b + 3 * c) 3 (rnM σ 0 999 1 4)) 6) 0 100) (83 + 57 * b + 3 * c) 4 (rnM (rwM (s2 (rnM σ 0 999) (83 + 57 * b + 3 * c) 3 (rnM σ 0 999 1 4)) 6) 0 100 1 4)) else (false, rnM (rwM (s2 (rnM σ 0 999) (83 + 57 * b + 3 * c) 3 (rnM σ 0 999 1 4)) 6) 0 100)) else (false, rwM (s2 (rnM σ 0 999) (83 + 57 * b + 3 * c) 3 (rnM σ 0 999 1 4)) 6)) else (false, rnM σ 0 999)
theorem z_ruleT (hc : c < 6) {σ μ : MI} {υ : ML} (hK : zK σ μ υ N) (hG : zG σ0 μ0 N b n σ μ υ) (hC : zCn b c σ (μ 3) [5, 2, 1, 0, 6]) : zO σ0 μ0 N b n (pBk b) (rlT b c σ) (mcD c μ υ) := by
  unfold rlT mcD
  rw [z_inB hK 0 999]
  cases ht : tdB μ 0 999
  · rw [if_neg Bool.false_ne_true, if_neg Bool.false_ne_true]
    exact zO_f (z_rnF hK hG ht _)
  · rw [if_pos rfl, if_pos rfl]
    obtain ⟨hK2, hG2, hC2⟩ := z_cput hc hK hG hC ht (j := 3) (by decide)
    generalize s2 (rnM σ 0 999) (83 + 57 * b + 3 * c) 3 (rnM σ 0 999 1 4) = ρ at *
    generalize tdT μ υ (495 + 19 * c + 3) 0 999 = υ2 at *
    generalize tdM μ (495 + 19 * c + 3) 0 999 = μ2 at *
    unfold mcE
    have hwd := z_wd hK2 (w := 6) (by decide)
    have e6 : nI 6 = (6 : Int32) := rfl
    rw [e6] at hwd
    rw [hwd]
    cases hw : mIs μ2 υ2 6
    · rw [if_neg Bool.false_ne_true, if_neg Bool.false_ne_true]
      have hn : ¬ isWd ρ 6 = true := by rw [hwd, hw]; exact Bool.false_ne_true
      have hn2 : ¬ mIs μ2 υ2 6 = true := by rw [hw]; exact Bool.false_ne_true
      rw [rwM, if_neg hn, mwM, if_neg hn2]
      exact zO_f (z_bad1 hK2 hG2)
    · rw [if_pos rfl, if_pos rfl]
      have hy : isWd ρ 6 = true := by rw [hwd, hw]
      have e1 : rwM ρ 6 = adS ρ := by rw [rwM, if_pos hy]
      have e2 : mwM μ2 υ2 6 = goM μ2 := by rw [mwM, if_pos hw]
      have e3 : mwT μ2 υ2 6 = goT μ2 υ2 := by rw [mwT, if_pos hw]
      rw [e1, e2, e3]
      obtain ⟨hK3, hG3⟩ := z_adv (υ := υ2) (mIs_P hK2 hw) hG2
      have hC3 : zCn b c (adS ρ) (goM μ2 3) [3, 5, 2, 1, 0, 6] := by rw [goM_3]; exact zCn_of hc hC2 (fun x hx => adS_ne _ (by omega))
      generalize adS ρ = ρ3 at *
      generalize goT μ2 υ2 = υ3 at *
      generalize goM μ2 = μ3 at *
      unfold mcF
      rw [z_inB hK3 0 100]
      cases ht2 : tdB μ3 0 100
      · rw [if_neg Bool.false_ne_true, if_neg Bool.false_ne_true]
        exact zO_f (z_rnF hK3 hG3 ht2 _)
      · rw [if_pos rfl, if_pos rfl]
        obtain ⟨hK4, hG4, hC4⟩ := z_cput hc hK3 hG3 hC3 ht2 (j := 4) (by decide)
        refine zO_t (zK_cg hK4 rfl rfl (s2_nk _ _ _ (by decide)) (s2_nk _ _ _ (by decide)) rfl) (zG_3 hG4 _ _) ?_
        unfold pBk
        exact zCn_end hc hC4 (by decide) (s2_eq _ _ _ _) (fun j hj => s2_nj _ _ _ hj)
theorem z_rule (hc : c < 6) {σ μ : MI} {υ : ML} (hK : zK σ μ υ N) (hG : zG σ0 μ0 N b n σ μ υ) (hC : zCn b c σ (μ 3) [2, 1, 0, 6]) : zO σ0 μ0 N b n (pBk b) (rrP σ b c) (mcC c μ υ) := by
  have w5 := z_wd hK (w := 5) (by decide)
  have w4 := z_wd hK (w := 4) (by decide)
  rw [show nI 5 = (5 : Int32) from rfl] at w5
  rw [show nI 4 = (4 : Int32) from rfl] at w4
  have hA : ∀ v : Int32, zK (s2 σ (83 + 57 * b + 3 * c) 5 v) μ υ N := fun v => zK_cg hK (s2_nk _ _ _ (by omega)) (s2_nk _ _ _ (by omega)) rfl rfl rfl
  have hGA : ∀ v : Int32, zG σ0 μ0 N b n (s2 σ (83 + 57 * b + 3 * c) 5 v) μ υ := fun v => zG_b hG (by omega) (by omega) _ _
  have eA : ∀ v : Int32, isWd (s2 σ (83 + 57 * b + 3 * c) 5 v) 4 = mIs μ υ 4 := fun v => z_wd (hA v) (w := 4) (by decide)
  have go : ∀ v : Int32, zP σ μ N → zO σ0 μ0 N b n (pBk b) (rlT b c (adS (s2 σ (83 + 57 * b + 3 * c) 5 v))) (mcD c (goM (s2 μ 3 (495 + 19 * c + 5) v)) (goT (s2 μ 3 (495 + 19 * c + 5) v) υ)) := fun v hP => by
    have hP5 : zP (s2 σ (83 + 57 * b + 3 * c) 5 v) (s2 μ 3 (495 + 19 * c + 5) v) N := zP_cg hP (s2_nk _ _ _ (by omega)) (s2_nk _ _ _ (by omega)) (s2_nk _ _ _ (by decide)) (s2_nk _ _ _ (by decide))
    refine z_ruleT hc (z_go υ hP5) (zG_go (zG_3 (hGA v) _ _) hP5) ?_
    rw [goM_3]
    refine zCn_put hc (j := 5) (by decide) hC (fun x a1 a2 => by rw [adS_ne _ (by omega), s2_nk _ _ _ a2]) (fun y hy => by rw [adS_ne _ (by omega), s2_nj _ _ _ hy]) ?_ (fun y hy => s2_nj _ _ _ hy)
    rw [adS_ne _ (by omega), s2_eq, s2_eq]
  have eP : rrP σ b c = if (if isWd σ 5 = true then true else isWd (s2 σ (83 + 57 * b + 3 * c) 5 (b2i (isWd σ 5))) 4) = true then rlT b c (adS (s2 σ (83 + 57 * b + 3 * c) 5 (b2i (isWd σ 5)))) else (false, s2 (s2 σ (83 + 57 * b + 3 * c) 5 (b2i (isWd σ 5))) 1 5 1) := rfl
  rw [eP, eA, w5]
  unfold mcC
  cases h5 : mIs μ υ 5
  · rw [if_neg Bool.false_ne_true, if_neg Bool.false_ne_true]
    cases h4 : mIs μ υ 4
    · rw [if_neg Bool.false_ne_true, if_neg Bool.false_ne_true]
      exact zO_f (z_bad1 (hA _) (hGA _))
    · rw [if_pos rfl, if_pos rfl]
      exact go 0 (mIs_P hK h4)
  · rw [if_pos rfl, if_pos rfl, if_pos rfl]
    exact go 1 (mIs_P hK h5)
theorem zO_of {P : MI → MI → ML → Prop} {z : Bool × MI} {w : Bool × MI × ML} (h : zO σ0 μ0 N b n P z w) : (z.1 = true ∧ w.1 = true ∧ zK z.2 w.2.1 w.2.2 N ∧ zG σ0 μ0 N b n z.2 w.2.1 w.2.2 ∧ P z.2 w.2.1 w.2.2) ∨ (z.1 = false ∧ w.1 = false ∧ zF z.2 w.2.1 ∧ FR σ0 z.2 b ∧ GR μ0 w.2.1) := h
/-- terms, base and rule, one behind the other -/
theorem z_tbr (hb : bz (σ0 1 3) = b) (hc : c < 6) (hn6 : n ≤ 6) {ρ μ : MI} {υ : ML} (h : tInv σ0 μ0 N b n c 0 (μ 3 (495 + 19 * c + 1)) ρ μ υ) : zO σ0 μ0 N b n (pBk b) (if (rtL b c 7 ρ).1 = true then (if (rbP (rtL b c 7 ρ).2 b c).1 = true then rrP (rbP (rtL b c 7 ρ).2 b c).2 b c else (false, (rbP (rtL b c 7 ρ).2 b c).2)) else (false, (rtL b c 7 ρ).2)) (mcB c (mtP c μ υ)) := by
  have q := z_terms (N := N) (μ0 := μ0) hb hc hn6 6 0 rfl _ _ _ _ h
  have em : mtL c 7 0 (μ 3 (495 + 19 * c + 1)) μ υ = mtP c μ υ := rfl
  rw [show 6 + 1 = 7 from rfl, em] at q
  unfold mcB
  unfold ctB mtC at q
  generalize rtL b c 7 ρ = z at *
  generalize mtP c μ υ = w at *
  by_cases hz : z.1 = true
  · rw [if_pos hz] at q ⊢
    by_cases hw : w.1 = true
    · rw [if_pos hw] at q ⊢
      rcases zO_of q with ⟨a1, a2, a3, a4, a5⟩ | ⟨a1, a2, a3⟩
      · rw [if_pos a1, if_pos a2]
        exact z_rule hc a3 a4 a5
      · rw [if_neg (by rw [a1]; exact Bool.false_ne_true), if_neg (by rw [a2]; exact Bool.false_ne_true)]
        exact Or.inr ⟨rfl, rfl, a3⟩
    · rw [if_neg hw] at q ⊢
      rcases zO_of q with ⟨a1, a2, a3, a4, a5⟩ | ⟨a1, a2, a3⟩
      · cases a2
      · rw [if_neg (by rw [a1]; exact Bool.false_ne_true)]
        exact Or.inr ⟨rfl, rfl, a3⟩
  · rw [if_neg hz] at q ⊢
    by_cases hw : w.1 = true
    · rw [if_pos hw] at q ⊢
      rcases zO_of q with ⟨a1, a2, a3, a4, a5⟩ | ⟨a1, a2, a3⟩
      · cases a1
      · rw [if_neg (by rw [a2]; exact Bool.false_ne_true)]
        exact Or.inr ⟨rfl, rfl, a3⟩
    · rw [if_neg hw] at q ⊢
      rcases zO_of q with ⟨a1, a2, a3, a4, a5⟩ | ⟨a1, a2, a3⟩
      · cases a1
      · exact Or.inr ⟨rfl, rfl, a3⟩
theorem acS_zG {σ μ : MI} {υ : ML} (hc : c < 6) (hcc : (σ (44 + 57 * b) 2).toNatClampNeg = c) (h : zG σ0 μ0 N b n σ μ υ) : zG σ0 μ0 N b n (acS σ b) μ υ := by
  unfold acS
  rw [hcc]
  exact zG_b (zG_b h (by omega) (by omega) _ _) (by omega) (by omega) _ _
theorem z_contr (hb : bz (σ0 1 3) = b) {σ μ : MI} {υ : ML} (hK : zK σ μ υ N) (hL : LI μ) (hB : zBk σ b (μ 3)) (hG : zG σ0 μ0 N b (μ 3 1).toNatClampNeg σ μ υ) (hw : mIs μ υ 2 = true) : zO σ0 μ0 N b (μ 3 1).toNatClampNeg (pBk b) (rcP σ) (mcP (μ 3 494).toNatClampNeg μ υ) := by
  have eb := FR_bz hb hG.1
  have h1 := hL.1.2.1
  have h4 := hL.1.2.2.1
  have hl6 := inL6 494 h4
  have e44 : σ (44 + 57 * b) 2 = μ 3 494 := hB.2.2.1
  have hcl := clampI (μ 3 494)
  have hcl1 := clampI (μ 3 1)
  have r1 := h1
  have r4 := h4
  unfold rg at r1 r4
  unfold rcP mcP rcG rcF rcE rcD rcC rcB rcA
  rw [eb, e44]
  by_cases c6 : μ 3 494 = 6
  · rw [if_pos c6, if_neg (by rw [hl6.1 c6]; exact Bool.false_ne_true)]
    exact zO_f (z_badv hK hG (ne1_2 (mIs_w hw)) 4)
  · obtain ⟨l1, l2⟩ := hl6.2 c6
    rw [if_neg c6, if_pos l1]
    have hc : (μ 3 494).toNatClampNeg < 6 := by omega
    have e4 : μ 3 494 = nI (μ 3 494).toNatClampNeg := eq_nI r4.1
    have e1 : μ 3 1 = nI (μ 3 1).toNatClampNeg := eq_nI r1.1
    have hn6 : (μ 3 1).toNatClampNeg ≤ 6 := by omega
    have hCb := zCn_begin hc hL hB e4
    have z6 : μ 3 (495 + 19 * (μ 3 494).toNatClampNeg + 6) = 0 := hL.2.2.2.1 _ hc (by omega)
    have hG1 := acS_zG hc (by rw [e44]) hG
    have hP1 : zP (acS σ b) μ N := zP_cg (mIs_P hK hw) (acS_lo σ (by omega)) (acS_lo σ (by omega)) rfl rfl
    obtain ⟨hK2, hG2⟩ := z_adv (υ := υ) hP1 hG1
    have f3 : goM μ 3 = μ 3 := goM_3 μ
    generalize (μ 3 494).toNatClampNeg = c at *
    generalize (μ 3 1).toNatClampNeg = n at *
    have hC2 : zCn b c (adS (acS σ b)) (goM μ 3) [6] := by rw [f3]; exact zCn_of hc hCb (fun x hx => adS_ne _ (by omega))
    have z62 : goM μ 3 (495 + 19 * c + 6) = 0 := by rw [f3]; exact z6
    have e12 : goM μ 3 1 = nI n := by rw [f3]; exact e1
    generalize adS (acS σ b) = ρ2 at *
    generalize goT μ υ = υ2 at *
    generalize goM μ = μ2 at *
    unfold mcQ
    rw [z_inB hK2 1 9999]
    cases ht : tdB μ2 1 9999
    · rw [if_neg Bool.false_ne_true, if_neg Bool.false_ne_true]
      exact zO_f (z_rnF hK2 hG2 ht _)
    · rw [if_pos rfl, if_pos rfl]
      obtain ⟨hK3, hG3, hC3⟩ := z_cput hc hK2 hG2 hC2 ht (j := 0) (by decide)
      have z63 : tdM μ2 (495 + 19 * c + 0) 1 9999 3 (495 + 19 * c + 6) = 0 := by rw [tdM_nj _ _ _ (by omega)]; exact z62
      have e13 : tdM μ2 (495 + 19 * c + 0) 1 9999 3 1 = nI n := by rw [tdM_nj _ _ _ (by omega)]; exact e12
      generalize s2 (rnM ρ2 1 9999) (83 + 57 * b + 3 * c) 0 (rnM ρ2 1 9999 1 4) = ρ3 at *
      generalize tdT μ2 υ2 (495 + 19 * c + 0) 1 9999 = υ3 at *
      generalize tdM μ2 (495 + 19 * c + 0) 1 9999 = μ3 at *
      have hsg := zK_sig hK3 (c := 61) ⟨by decide, by decide⟩
      rw [hsg.1]
      cases hp : mSig μ3 61
      · have hn : ¬ sigS ρ3 61 = true := by rw [hsg.1, hp]; exact Bool.false_ne_true
        rw [if_neg Bool.false_ne_true, if_neg Bool.false_ne_true, rsM, if_neg hn]
        exact zO_f (z_bad1 hK3 hG3)
      · have hy : sigS ρ3 61 = true := by rw [hsg.1, hp]
        have er : rsM ρ3 61 = adS ρ3 := by rw [rsM, if_pos hy]
        rw [if_pos rfl, if_pos rfl, er]
        obtain ⟨hK4, hG4⟩ := z_adv (υ := υ3) (hsg.2 hp) hG3
        have hC4 : zCn b c (adS ρ3) (goM μ3 3) [0, 6] := by rw [goM_3]; exact zCn_of hc hC3 (fun x hx => adS_ne _ (by omega))
        have z64 : goM μ3 3 (495 + 19 * c + 6) = 0 := by rw [goM_3]; exact z63
        have e14 : goM μ3 3 1 = nI n := by rw [goM_3]; exact e13
        generalize adS ρ3 = ρ4 at *
        generalize goT μ3 υ3 = υ4 at *
        generalize goM μ3 = μ4 at *
        unfold mcA
        rw [z_inB hK4 0 1000]
        cases ht2 : tdB μ4 0 1000
        · rw [if_neg Bool.false_ne_true, if_neg Bool.false_ne_true]
          exact zO_f (z_rnF hK4 hG4 ht2 _)
        · rw [if_pos rfl, if_pos rfl]
          obtain ⟨hK5, hG5, hC5⟩ := z_cput hc hK4 hG4 hC4 ht2 (j := 1) (by decide)
          have z65 : tdM μ4 (495 + 19 * c + 1) 0 1000 3 (495 + 19 * c + 6) = 0 := by rw [tdM_nj _ _ _ (by omega)]; exact z64
          have e15 : tdM μ4 (495 + 19 * c + 1) 0 1000 3 1 = nI n := by rw [tdM_nj _ _ _ (by omega)]; exact e14
          generalize s2 (rnM ρ4 0 1000) (83 + 57 * b + 3 * c) 1 (rnM ρ4 0 1000 1 4) = ρ5 at *
          generalize tdT μ4 υ4 (495 + 19 * c + 1) 0 1000 = υ5 at *
          generalize tdM μ4 (495 + 19 * c + 1) 0 1000 = μ5 at *
          exact z_tbr hb hc hn6 ⟨hK5, hG5, hC5, by rw [z65]; rfl, by omega, fun q hq => absurd hq (by omega), by rw [sumI]; exact (hC5.2.2.1 1 (by decide)).symm, e15⟩
/-- the month -/
theorem z_month (hb : bz (σ0 1 3) = b) {σ μ : MI} {υ : ML} (hK : zK σ μ υ N) (hB : zBk σ b (μ 3)) (h1 : μ 3 1 = 0) (h4 : μ 3 494 = 0) (hG : zG σ0 μ0 N b n σ μ υ) : zO σ0 μ0 N b n (pBk b) (nwB σ, nwM σ) (if mIs μ υ 0 = true then (tdB (goM μ) 0 35, tdM (goM μ) 0 0 35, tdT (goM μ) (goT μ υ) 0 0 35) else (false, mBad μ 1, υ)) := by
  have eb := FR_bz hb hG.1
  have hwd := z_wd hK (w := 0) (by decide)
  rw [nI_0] at hwd
  unfold nwB nwM
  rw [eb, hwd]
  cases hw : mIs μ υ 0
  · have hn : ¬ isWd σ 0 = true := by rw [hwd, hw]; exact Bool.false_ne_true
    rw [if_neg Bool.false_ne_true, if_neg Bool.false_ne_true, if_neg Bool.false_ne_true, rwM, if_neg hn]
    exact zO_f (z_bad1 hK hG)
  · have hy : isWd σ 0 = true := by rw [hwd, hw]
    have er : rwM σ 0 = adS σ := by rw [rwM, if_pos hy]
    rw [if_pos rfl, if_pos rfl, if_pos rfl, er]
    obtain ⟨hK2, hG2⟩ := z_adv (υ := υ) (mIs_P hK hw) hG
    have f3 : goM μ 3 = μ 3 := goM_3 μ
    have hB2 : zBk (adS σ) b (goM μ 3) := by
      rw [f3]
      exact z_keepB hB (by rw [h1]; exact ⟨by decide, by decide⟩) (by rw [h4]; exact ⟨by decide, by decide⟩) (fun c _ _ => adS_ne _ (by omega))
    have h12 : goM μ 3 1 = 0 := by rw [f3]; exact h1
    have h42 : goM μ 3 494 = 0 := by rw [f3]; exact h4
    generalize adS σ = ρ at *
    generalize goT μ υ = υ2 at *
    generalize goM μ = μ2 at *
    rw [z_inB hK2 0 35]
    cases ht : tdB μ2 0 35
    · rw [if_neg Bool.false_ne_true]
      exact zO_f (z_rnF hK2 hG2 ht _)
    · rw [if_pos rfl]
      obtain ⟨k1, k2, k3⟩ := z_rnT hK2 hG2 ht 0
      have t3 := (tdM_3 (a := 0) ht).1
      refine zO_t (zK_cg k1 (s2_nk _ _ _ (by omega)) (s2_nk _ _ _ (by omega)) rfl rfl rfl) (zG_b k2 (by omega) (by omega) _ _) ?_
      unfold pBk
      have e1 : tdM μ2 0 0 35 3 1 = 0 := by rw [tdM_nj _ _ _ (by decide)]; exact h12
      have e4 : tdM μ2 0 0 35 3 494 = 0 := by rw [tdM_nj _ _ _ (by decide)]; exact h42
      refine ⟨by rw [s2_eq, k3, t3], ?_, ?_, fun i hi => ?_, fun c hc => ?_⟩
      · rw [s2_nj _ _ _ (by decide), rnM_ne _ _ _ (by omega) (by omega), e1, hB2.2.1, h12]
      · rw [s2_nj _ _ _ (by decide), rnM_ne _ _ _ (by omega) (by omega), e4, hB2.2.2.1, h42]
      · rw [e1, z0] at hi; omega
      · rw [e4, z0] at hc; omega
/-- a line -/
theorem z_line (hb2 : b < 2) (hb : bz (σ0 1 3) = b) {σ μ : MI} {υ : ML} (hK : zK σ μ υ N) (hT : TI μ) (hL : LI μ) (hB : zBk σ b (μ 3)) (hG : zG σ0 μ0 N b (μ 3 1).toNatClampNeg σ μ υ) (first : Bool) (hf : first = true → μ 3 1 = 0 ∧ μ 3 494 = 0) :
    ((lnP σ first).1 = true ∧ (mlP μ υ first).1 = true ∧ zK (lnP σ first).2 (mlP μ υ first).2.1 (mlP μ υ first).2.2 N ∧ zG σ0 μ0 N b ((mlP μ υ first).2.1 3 1).toNatClampNeg (lnP σ first).2 (mlP μ υ first).2.1 (mlP μ υ first).2.2 ∧ zBk (lnP σ first).2 b ((mlP μ υ first).2.1 3)) ∨ ((lnP σ first).1 = false ∧ (mlP μ υ first).1 = false ∧ zF (lnP σ first).2 (mlP μ υ first).2.1 ∧ FR σ0 (lnP σ first).2 b ∧ GR μ0 (mlP μ υ first).2.1) := by
  have hok := mlP_ok υ first hT hL hf
  unfold LN at hok
  have h1 := hL.1.2.1
  have h4 := hL.1.2.2.1
  unfold rg at h1 h4
  have hcl := clampI (μ 3 1)
  have hw2 := z_wd hK (w := 2) (by decide)
  have hw1 := z_wd hK (w := 1) (by decide)
  rw [show nI 2 = (2 : Int32) from rfl] at hw2
  rw [show nI 1 = (1 : Int32) from rfl] at hw1
  cases first
  · have el : lnP σ false = if isWd σ 2 = true then rcP σ else riP σ := rfl
    have em : mlP μ υ false = if mIs μ υ 1 = true then miP (μ 3 1).toNatClampNeg μ υ else if mIs μ υ 2 = true then mcP (μ 3 494).toNatClampNeg μ υ else (false, mBad μ 1, υ) := rfl
    cases m1 : mIs μ υ 1
    · cases m2 : mIs μ υ 2
      · have e1 : lnP σ false = (false, s2 σ 1 5 1) := by
          rw [el, if_neg (by rw [hw2, m2]; exact Bool.false_ne_true)]
          unfold riP
          rw [if_neg (by rw [hw1, m1]; exact Bool.false_ne_true)]
        have e2 : mlP μ υ false = (false, mBad μ 1, υ) := by rw [em, if_neg (by rw [m1]; exact Bool.false_ne_true), if_neg (by rw [m2]; exact Bool.false_ne_true)]
        rw [e1, e2]
        exact Or.inr ⟨rfl, rfl, z_bad1 hK hG⟩
      · have e1 : lnP σ false = rcP σ := by rw [el, if_pos (by rw [hw2, m2])]
        have e2 : mlP μ υ false = mcP (μ 3 494).toNatClampNeg μ υ := by rw [em, if_neg (by rw [m1]; exact Bool.false_ne_true), if_pos m2]
        have q := z_contr hb hK hL hB hG m2
        rw [e1]
        rw [e2] at hok ⊢
        rcases zO_of q with ⟨a1, a2, a3, a4, a5⟩ | q
        · refine Or.inl ⟨a1, a2, a3, ?_, a5⟩
          have hcl4 := clampI (μ 3 494)
          have n6 : ¬ μ 3 494 = 6 := fun w => by
            unfold mcP at a2
            rw [if_pos w] at a2
            cases a2
          have n6i : (μ 3 494).toInt ≠ 6 := fun w => n6 ((i_eq _ _).mpr w)
          have hcr := mcP_ok (c := (μ 3 494).toNatClampNeg) (by omega) υ hT hL.1.1 hL.1.2.1 (hL.2.2.2.1 _ (by omega) (by omega))
          have e31 : (mcP (μ 3 494).toNatClampNeg μ υ).2.1 3 1 = μ 3 1 := (hcr.2.2 a2).2.2 1 (by decide) (by omega)
          rw [e31]
          exact a4
        · exact Or.inr q
    · have n2 : ¬ isWd σ 2 = true := by
        rw [hw2]
        intro w
        unfold mIs at m1 w
        have h6 : μ 0 6 = 2 := mIs_w (υ := υ) (w := 2) w
        rw [if_pos h6] at m1 w
        by_cases q1 : υ 0 11 = mWord 1
        · by_cases q2 : υ 0 11 = mWord 2
          · rw [q1] at q2
            exact absurd q2 (by decide)
          · rw [if_neg q2] at w; cases w
        · rw [if_neg q1] at m1; cases m1
      have e1 : lnP σ false = riP σ := by rw [el, if_neg n2]
      have e2 : mlP μ υ false = miP (μ 3 1).toNatClampNeg μ υ := by rw [em, if_pos m1]
      have q := z_index hb2 hb hK hL hB hG m1
      rw [e1, e2]
      rcases zO_of q with ⟨a1, a2, a3, a4, a5⟩ | q
      · refine Or.inl ⟨a1, a2, a3, ?_, a5.1⟩
        rw [a5.2, nI_clamp (by omega)]
        exact a4
      · exact Or.inr q
  · have el : lnP σ true = (nwB σ, nwM σ) := rfl
    have em : mlP μ υ true = if mIs μ υ 0 = true then (tdB (goM μ) 0 35, tdM (goM μ) 0 0 35, tdT (goM μ) (goT μ υ) 0 0 35) else (false, mBad μ 1, υ) := rfl
    have q := z_month hb hK hB (hf rfl).1 (hf rfl).2 hG
    rw [← el, ← em] at q
    rcases zO_of q with ⟨a1, a2, a3, a4, a5⟩ | q
    · refine Or.inl ⟨a1, a2, a3, ?_, a5⟩
      have := (hok.2.2 a2).2
      rw [if_pos rfl] at this
      rw [this.1]
      exact a4
    · exact Or.inr q
end RDL
