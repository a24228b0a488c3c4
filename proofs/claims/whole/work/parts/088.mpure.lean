/-! ===== what the reference's lines leave behind ===== -/
/-- nothing but the tokens and the row that is read has changed -/
def KP (σ μ : MI) : Prop := ∀ q, q ≠ 0 → q ≠ 3 → μ q = σ q
theorem KP.rf (σ : MI) : KP σ σ := fun _ _ _ => rfl
theorem KP.tr {σ μ ν : MI} (h : KP σ μ) (g : KP μ ν) : KP σ ν := fun q a b => (g q a b).trans (h q a b)
theorem KP_go (σ : MI) : KP σ (goM σ) := fun _ a _ => goM_ne σ a
theorem KP_bad (σ : MI) (w : Int32) : KP σ (mBad σ w) := fun _ a _ => mBad_ne σ w a
theorem KP_td (σ : MI) (a : Nat) (lo hi : Int32) : KP σ (tdM σ a lo hi) := fun _ x y => tdM_ne σ a lo hi x y
theorem KP_3 (σ : MI) (j : Nat) (v : Int32) : KP σ (s2 σ 3 j v) := fun _ _ y => s2_nk σ j v y
theorem KP_mw (σ : MI) (τ : ML) (w : Int32) : KP σ (mwM σ τ w) := fun _ a _ => mwM_ne σ τ w a
theorem KP_mtS (c k : Nat) (σ : MI) (w x : Int32) : KP σ (mtS c k σ w x) := (KP_3 _ _ _).tr ((KP_3 _ _ _).tr (KP_3 _ _ _))
theorem goM_3 (σ : MI) : goM σ 3 = σ 3 := goM_ne σ (by decide)
theorem mBad_3 (σ : MI) (w : Int32) : mBad σ w 3 = σ 3 := mBad_ne σ w (by decide)
theorem mwM_3 (σ : MI) (τ : ML) (w : Int32) : mwM σ τ w 3 = σ 3 := mwM_ne σ τ w (by decide)
def MTR (c : Nat) (σ : MI) (z : Bool × MI × ML) : Prop := TI z.2.1 ∧ KP σ z.2.1 ∧ (∀ j, j < 495 + 19 * c + 6 ∨ 495 + 19 * c + 19 ≤ j → z.2.1 3 j = σ 3 j) ∧
  (z.1 = true → ∃ k, k ≤ 6 ∧ z.2.1 3 (495 + 19 * c + 6) = nI k ∧ XD (z.2.1 3) c k ∧ (∀ n, n < k → rg (z.2.1 3 (495 + 19 * c + (7 + 2 * n))) 0 1000) ∧ (z.2.1 3 (495 + 19 * c + 1)).toInt + fb_si (fun n => (z.2.1 3 (495 + 19 * c + (7 + 2 * n))).toInt) k = 1000)
theorem MTR_bad {c : Nat} {σ μ : MI} {υ : ML} {w : Int32} (hT : TI μ) (hK : KP σ μ) (h3 : μ 3 = σ 3) : MTR c σ (false, mBad μ w, υ) :=
  ⟨TI_bad hT w, hK.tr (KP_bad μ w), fun j _ => by show mBad μ w 3 j = σ 3 j; rw [mBad_3, h3], fun h => by cases h⟩
theorem fb_si_le {f : Nat → Int} : ∀ k, (∀ n, n < k → 0 ≤ f n ∧ f n ≤ 1000) → 0 ≤ fb_si f k ∧ fb_si f k ≤ 1000 * k
  | 0, _ => ⟨by rw [fb_si]; omega, by rw [fb_si]; omega⟩
  | k + 1, h => by
    have a := fb_si_le k (fun n hn => h n (by omega))
    have b := h k (by omega)
    rw [fb_si_succ]
    omega
theorem mtL_ok {c : Nat} (hc6 : c < 6) : ∀ r k s σ τ, k + r = 6 → rg (σ 3 1) 0 6 → σ 3 (495 + 19 * c + 6) = nI k → XD (σ 3) c k → TI σ → (∀ n, n < k → rg (σ 3 (495 + 19 * c + (7 + 2 * n))) 0 1000) → rg (σ 3 (495 + 19 * c + 1)) 0 1000 → s.toInt = (σ 3 (495 + 19 * c + 1)).toInt + fb_si (fun n => (σ 3 (495 + 19 * c + (7 + 2 * n))).toInt) k → MTR c σ (mtL c (r + 1) k s σ τ) := by
  intro r
  induction r with
  | zero =>
    intro k s σ τ hk h1 h6 hX hT hw hf hs
    obtain rfl : k = 6 := by omega
    have T1 := TI_go hT
    have T2 := TI_go T1
    have K1 := KP_go σ
    have K2 := K1.tr (KP_go (goM σ))
    have e2 : goM (goM σ) 3 = σ 3 := by rw [goM_3, goM_3]
    rw [mtL]
    by_cases a1 : mSig σ 43 = true
    · rw [if_pos a1]
      by_cases a2 : goM σ 0 6 = 3
      · rw [if_pos a2]
        by_cases a3 : mIn (goM σ 0 7) 0 1000 = true
        · rw [if_pos a3]
          by_cases a4 : mName (goM (goM σ)) (goT (goM σ) (goT σ τ)) = true
          · rw [if_pos a4]
            by_cases a5 : nmd (goM (goM σ)) (goT (goM σ) (goT σ τ)) = -1
            · rw [if_pos a5]; exact MTR_bad T2 K2 e2
            · rw [if_neg a5]
              have hx := nmd_rng (by rw [e2]; exact h1) a5
              rw [e2] at hx
              rw [if_pos (XD_six hX h1 hx)]
              exact MTR_bad T2 K2 e2
          · rw [if_neg a4]; exact MTR_bad T2 K2 e2
        · rw [if_neg a3]; exact MTR_bad T1 K1 (goM_3 σ)
      · rw [if_neg a2]; exact MTR_bad T1 K1 (goM_3 σ)
    · rw [if_neg a1]
      unfold mtE
      by_cases b1 : mIs σ τ 3 = true
      · rw [if_pos b1]
        by_cases b2 : s = 1000
        · rw [if_pos b2]
          refine ⟨T1, K1, fun j _ => by show goM σ 3 j = σ 3 j; rw [goM_3], fun _ => ⟨6, by omega, ?_, ?_, ?_, ?_⟩⟩ <;> show _ <;> simp only [goM_3]
          · exact h6
          · exact hX
          · exact hw
          · rw [← hs, b2]; rfl
        · rw [if_neg b2]; exact MTR_bad hT (KP.rf σ) rfl
      · rw [if_neg b1]; exact MTR_bad hT (KP.rf σ) rfl
  | succ r ih =>
    intro k s σ τ hk h1 h6 hX hT hw hf hs
    have T1 := TI_go hT
    have T2 := TI_go T1
    have K1 := KP_go σ
    have K2 := K1.tr (KP_go (goM σ))
    have e2 : goM (goM σ) 3 = σ 3 := by rw [goM_3, goM_3]
    rw [mtL]
    by_cases a1 : mSig σ 43 = true
    · rw [if_pos a1]
      by_cases a2 : goM σ 0 6 = 3
      · rw [if_pos a2]
        by_cases a3 : mIn (goM σ 0 7) 0 1000 = true
        · rw [if_pos a3]
          by_cases a4 : mName (goM (goM σ)) (goT (goM σ) (goT σ τ)) = true
          · rw [if_pos a4]
            by_cases a5 : nmd (goM (goM σ)) (goT (goM σ) (goT σ τ)) = -1
            · rw [if_pos a5]; exact MTR_bad T2 K2 e2
            · rw [if_neg a5]
              by_cases a6 : anyS (mtX (σ 3) c) (nmd (goM (goM σ)) (goT (goM σ) (goT σ τ))) k = true
              · rw [if_pos a6]; exact MTR_bad T2 K2 e2
              · rw [if_neg a6]
                have a7 : anyS (mtX (σ 3) c) (nmd (goM (goM σ)) (goT (goM σ) (goT σ τ))) k = false := by simpa using a6
                have hx := nmd_rng (by rw [e2]; exact h1) a5
                rw [e2] at hx
                have hm := mIn_t a3
                generalize nmd (goM (goM σ)) (goT (goM σ) (goT σ τ)) = x at *
                generalize goT (goM σ) (goT σ τ) = υ at *
                have hXs := XD_step (w := goM σ 0 7) e2 hX hx a7
                generalize hw0 : goM σ 0 7 = w at *
                generalize goM (goM σ) = μ at *
                have ew : ∀ j, j < 495 + 19 * c + 6 ∨ 495 + 19 * c + 19 ≤ j → goM (mtS c k μ w x) 3 j = σ 3 j := fun j hj => by
                  rw [goM_3, mtS_3 _ _ _ _ _ (by omega) (by omega) (by omega), e2]
                have eo : ∀ n, n < k → goM (mtS c k μ w x) 3 (495 + 19 * c + (7 + 2 * n)) = σ 3 (495 + 19 * c + (7 + 2 * n)) := fun n hn => by
                  rw [goM_3, mtS_3 _ _ _ _ _ (by omega) (by omega) (by omega), e2]
                have ek : goM (mtS c k μ w x) 3 (495 + 19 * c + (7 + 2 * k)) = w := by rw [goM_3, mtS_7]
                have E1 : (0 : Int32).toInt = 0 := rfl
                have E2 : (1000 : Int32).toInt = 1000 := rfl
                have hb := fb_si_le (f := fun n => (σ 3 (495 + 19 * c + (7 + 2 * n))).toInt) k (fun n hn => hw n hn)
                unfold rg at hf
                have q := ih (k + 1) (s + w) (goM (mtS c k μ w x)) (goT (mtS c k μ w x) υ) (by omega) (by rw [ew 1 (by omega)]; exact h1) (by rw [goM_3, mtS_6]) hXs (TI_go (TI_k (by decide) (TI_k (by decide) (TI_k (by decide) T2 _ _) _ _) _ _)) (fun n hn => by
                    rcases (by omega : n < k ∨ n = k) with q | q
                    · rw [eo n q]; exact hw n q
                    · rw [q, ek]; exact ⟨by omega, by omega⟩) (by rw [ew _ (by omega)]; exact hf) (by
                    rw [ew _ (by omega), fb_si_succ, fb_si_cong' (g := fun n => (σ 3 (495 + 19 * c + (7 + 2 * n))).toInt) k (fun n hn => by rw [eo n hn]), ek, fb_addI (by omega) (by omega), hs]
                    omega)
                refine ⟨q.1, (K2.tr ((KP_mtS _ _ _ _ _).tr (KP_go _))).tr q.2.1, fun j hj => (q.2.2.1 j hj).trans (ew j hj), q.2.2.2⟩
          · rw [if_neg a4]; exact MTR_bad T2 K2 e2
        · rw [if_neg a3]; exact MTR_bad T1 K1 (goM_3 σ)
      · rw [if_neg a2]; exact MTR_bad T1 K1 (goM_3 σ)
    · rw [if_neg a1]
      unfold mtE
      by_cases b1 : mIs σ τ 3 = true
      · rw [if_pos b1]
        by_cases b2 : s = 1000
        · rw [if_pos b2]
          refine ⟨T1, K1, fun j _ => by show goM σ 3 j = σ 3 j; rw [goM_3], fun _ => ⟨k, by omega, ?_, ?_, ?_, ?_⟩⟩ <;> show _ <;> simp only [goM_3]
          · exact h6
          · exact hX
          · exact hw
          · rw [← hs, b2]; rfl
        · rw [if_neg b2]; exact MTR_bad hT (KP.rf σ) rfl
      · rw [if_neg b1]; exact MTR_bad hT (KP.rf σ) rfl
theorem mtP_ok {c : Nat} (hc6 : c < 6) {σ : MI} (τ : ML) (h1 : rg (σ 3 1) 0 6) (h6 : σ 3 (495 + 19 * c + 6) = 0) (hT : TI σ) (hf : rg (σ 3 (495 + 19 * c + 1)) 0 1000) : MTR c σ (mtP c σ τ) :=
  mtL_ok hc6 6 0 _ σ τ rfl h1 h6 (fun n hn => absurd hn (Nat.not_lt_zero n)) hT (fun n hn => absurd hn (Nat.not_lt_zero n)) hf (by rw [fb_si, Int.add_zero])
/-! contracts -/
def MCR (c : Nat) (σ : MI) (z : Bool × MI × ML) : Prop := TI z.2.1 ∧ KP σ z.2.1 ∧ (z.1 = true → z.2.1 3 494 = nI (c + 1) ∧ rg (z.2.1 3 (495 + 19 * c + 3)) 0 999 ∧ rg (z.2.1 3 (495 + 19 * c + 4)) 0 100 ∧ rg (z.2.1 3 (495 + 19 * c + 5)) 0 1 ∧ ∀ j, j ≠ 494 → j ≠ 495 + 19 * c + 3 → j ≠ 495 + 19 * c + 4 → j ≠ 495 + 19 * c + 5 → z.2.1 3 j = σ 3 j)
theorem mcD_ok {c : Nat} (hc6 : c < 6) {σ : MI} (τ : ML) (hT : TI σ) (h5 : rg (σ 3 (495 + 19 * c + 5)) 0 1) : MCR c σ (mcD c σ τ) := by
  have T1 := TI_td hT (495 + 19 * c + 3) 0 999
  have K1 := KP_td σ (495 + 19 * c + 3) 0 999
  unfold mcD
  by_cases a1 : tdB σ 0 999 = true
  · rw [if_pos a1]
    have v3 := tdM_3 (a := 495 + 19 * c + 3) a1
    have n3 := fun j hj => tdM_nj σ (a := 495 + 19 * c + 3) 0 999 (j := j) hj
    generalize tdM σ (495 + 19 * c + 3) 0 999 = μ at *
    generalize tdT σ τ (495 + 19 * c + 3) 0 999 = υ at *
    unfold mcE
    have T2 := TI_mw T1 υ 6
    have K2 := K1.tr (KP_mw μ υ 6)
    have e2 := mwM_3 μ υ 6
    by_cases a2 : mIs μ υ 6 = true
    · rw [if_pos a2]
      generalize mwM μ υ 6 = ν at *
      generalize mwT μ υ 6 = ω at *
      unfold mcF
      have T3 := TI_td T2 (495 + 19 * c + 4) 0 100
      have K3 := K2.tr (KP_td ν (495 + 19 * c + 4) 0 100)
      by_cases a3 : tdB ν 0 100 = true
      · rw [if_pos a3]
        have v4 := tdM_3 (a := 495 + 19 * c + 4) a3
        have n4 := fun j hj => tdM_nj ν (a := 495 + 19 * c + 4) 0 100 (j := j) hj
        refine ⟨TI_k (by decide) T3 _ _, K3.tr (KP_3 _ _ _), fun _ => ⟨?_, ?_, ?_, ?_, ?_⟩⟩
        · show s2 (tdM ν (495 + 19 * c + 4) 0 100) 3 494 (nI (c + 1)) 3 494 = _
          rw [s2_eq]
        · show rg (s2 (tdM ν (495 + 19 * c + 4) 0 100) 3 494 (nI (c + 1)) 3 _) _ _
          rw [s2_nj _ _ _ (by omega), n4 _ (by omega), e2, v3.1]; exact v3.2
        · show rg (s2 (tdM ν (495 + 19 * c + 4) 0 100) 3 494 (nI (c + 1)) 3 _) _ _
          rw [s2_nj _ _ _ (by omega), v4.1]; exact v4.2
        · show rg (s2 (tdM ν (495 + 19 * c + 4) 0 100) 3 494 (nI (c + 1)) 3 _) _ _
          rw [s2_nj _ _ _ (by omega), n4 _ (by omega), e2, n3 _ (by omega)]; exact h5
        · intro j h1 h2 h3 h4
          show s2 (tdM ν (495 + 19 * c + 4) 0 100) 3 494 (nI (c + 1)) 3 j = _
          rw [s2_nj _ _ _ h1, n4 _ h3, e2, n3 _ h2]
      · rw [if_neg a3]; exact ⟨T3, K3, fun h => by cases h⟩
    · rw [if_neg a2]; exact ⟨T2, K2, fun h => by cases h⟩
  · rw [if_neg a1]; exact ⟨T1, K1, fun h => by cases h⟩
theorem mcC_ok {c : Nat} (hc6 : c < 6) {σ : MI} (τ : ML) (hT : TI σ) : MCR c σ (mcC c σ τ) := by
  have key : ∀ v : Int32, rg v 0 1 → MCR c σ (mcD c (goM (s2 σ 3 (495 + 19 * c + 5) v)) (goT (s2 σ 3 (495 + 19 * c + 5) v) τ)) := fun v hv => by
    have q := mcD_ok hc6 (σ := goM (s2 σ 3 (495 + 19 * c + 5) v)) (goT (s2 σ 3 (495 + 19 * c + 5) v) τ) (TI_go (TI_k (by decide) hT _ _)) (by rw [goM_3, s2_eq]; exact hv)
    refine ⟨q.1, ((KP_3 _ _ _).tr (KP_go _)).tr q.2.1, fun h => ?_⟩
    obtain ⟨q1, q2, q3, q4, q5⟩ := q.2.2 h
    refine ⟨q1, q2, q3, q4, fun j a1 a2 a3 a4 => ?_⟩
    rw [q5 j a1 a2 a3 a4, goM_3, s2_nj _ _ _ a4]
  unfold mcC
  by_cases a1 : mIs σ τ 5 = true
  · rw [if_pos a1]; exact key 1 ⟨by decide, by decide⟩
  · rw [if_neg a1]
    by_cases a2 : mIs σ τ 4 = true
    · rw [if_pos a2]; exact key 0 ⟨by decide, by decide⟩
    · rw [if_neg a2]; exact ⟨TI_bad hT _, KP_bad _ _, fun h => by cases h⟩
/-- base -/
theorem mbP_ok {c : Nat} {σ : MI} (τ : ML) (hT : TI σ) : TI (mbP c σ τ).2.1 ∧ KP σ (mbP c σ τ).2.1 ∧ (∀ j, j ≠ 495 + 19 * c + 2 → (mbP c σ τ).2.1 3 j = σ 3 j) ∧ ((mbP c σ τ).1 = true → (mbP c σ τ).2.1 3 (495 + 19 * c + 2) = σ 0 7 ∧ 0 ≤ (σ 0 7).toInt ∧ (σ 0 7).toInt ≤ (σ 3 0).toInt ∧ ∀ n, n < (σ 3 (495 + 19 * c + 6)).toNatClampNeg → σ 3 (218 + 36 * (σ 3 (495 + 19 * c + (8 + 2 * n))).toNatClampNeg + (σ 0 7).toNatClampNeg) ≠ 0) := by
  unfold mbP
  by_cases a1 : mbK c σ = true
  · rw [if_pos a1]
    refine ⟨TI_td hT _ _ _, KP_td _ _ _ _, fun j hj => tdM_nj σ _ _ hj, fun h => ?_⟩
    have h : tdB σ 0 (σ 3 0) = true := h
    have v := tdM_3 (a := 495 + 19 * c + 2) h
    refine ⟨v.1, v.2.1, v.2.2, fun n hn => ?_⟩
    have h6 : σ 0 6 = 3 := by
      unfold tdB at h
      by_cases q : σ 0 6 = 3
      · exact q
      · rw [if_neg q] at h; cases h
    unfold mbK at a1
    rw [if_pos h6, if_pos (by rw [i_le]; exact v.2.2)] at a1
    have := (List.all_eq_true.mp a1) n (List.mem_range.mpr hn)
    exact of_decide_eq_true this
  · rw [if_neg a1]
    exact ⟨TI_bad hT _, KP_bad _ _, fun j _ => by show mBad σ 5 3 j = _; rw [mBad_3], fun h => by cases h⟩
def CR (c : Nat) (σ : MI) (z : Bool × MI × ML) : Prop := TI z.2.1 ∧ KP σ z.2.1 ∧ (z.1 = true → z.2.1 3 494 = nI (c + 1) ∧ CI (z.2.1 3) c ∧ ∀ j, j ≠ 494 → (j < 495 + 19 * c ∨ 495 + 19 * c + 19 ≤ j) → z.2.1 3 j = σ 3 j)
theorem mcP_ok {c : Nat} (hc6 : c < 6) {σ : MI} (τ : ML) (hT : TI σ) (h0 : rg (σ 3 0) 0 35) (h1 : rg (σ 3 1) 0 6) (hk0 : σ 3 (495 + 19 * c + 6) = 0) : CR c σ (mcP c σ τ) := by
  unfold mcP
  by_cases a0 : σ 3 494 = 6
  · rw [if_pos a0]; exact ⟨TI_bad hT _, KP_bad _ _, fun h => by cases h⟩
  · rw [if_neg a0]
    have T1 := TI_go hT
    have K1 := KP_go σ
    have e1 := goM_3 σ
    generalize goM σ = σ1 at *
    generalize goT σ τ = τ1 at *
    unfold mcQ
    have T2 := TI_td T1 (495 + 19 * c + 0) 1 9999
    have K2 := K1.tr (KP_td σ1 (495 + 19 * c + 0) 1 9999)
    have n2 := fun j hj => tdM_nj σ1 (a := 495 + 19 * c + 0) 1 9999 (j := j) hj
    by_cases a1 : tdB σ1 1 9999 = true
    · rw [if_pos a1]
      have v2 := tdM_3 (a := 495 + 19 * c + 0) a1
      generalize tdM σ1 (495 + 19 * c + 0) 1 9999 = σ2 at *
      generalize tdT σ1 τ1 (495 + 19 * c + 0) 1 9999 = τ2 at *
      by_cases a2 : mSig σ2 61 = true
      · rw [if_pos a2]
        have T3 := TI_go T2
        have K3 := K2.tr (KP_go σ2)
        have e3 := goM_3 σ2
        generalize goM σ2 = σ3 at *
        generalize goT σ2 τ2 = τ3 at *
        unfold mcA
        have T4 := TI_td T3 (495 + 19 * c + 1) 0 1000
        have K4 := K3.tr (KP_td σ3 (495 + 19 * c + 1) 0 1000)
        have n4 := fun j hj => tdM_nj σ3 (a := 495 + 19 * c + 1) 0 1000 (j := j) hj
        by_cases a3 : tdB σ3 0 1000 = true
        · rw [if_pos a3]
          have v4 := tdM_3 (a := 495 + 19 * c + 1) a3
          generalize tdM σ3 (495 + 19 * c + 1) 0 1000 = σ4 at *
          generalize tdT σ3 τ3 (495 + 19 * c + 1) 0 1000 = τ4 at *
          have r4 : ∀ j, j ≠ 495 + 19 * c + 0 → j ≠ 495 + 19 * c + 1 → σ4 3 j = σ 3 j := fun j x y => by rw [n4 j y, e3, n2 j x, e1]
          have q := mtP_ok hc6 τ4 (by rw [r4 1 (by omega) (by omega)]; exact h1) (by rw [r4 _ (by omega) (by omega)]; exact hk0) T4 (by rw [v4.1]; exact v4.2)
          generalize mtP c σ4 τ4 = z at *
          obtain ⟨qT, qK, qr, qs⟩ := q
          unfold mcB
          by_cases a4 : z.1 = true
          · rw [if_pos a4]
            obtain ⟨k, hk6, z6, zX, zw, zs⟩ := qs a4
            have b := mbP_ok (c := c) z.2.2 qT
            generalize mbP c z.2.1 z.2.2 = y at *
            obtain ⟨bT, bK, br, bs⟩ := b
            by_cases a5 : y.1 = true
            · rw [if_pos a5]
              obtain ⟨b2, b3, b4, b5⟩ := bs a5
              have d := mcC_ok hc6 y.2.2 bT
              generalize mcC c y.2.1 y.2.2 = x at *
              obtain ⟨dT, dK, ds⟩ := d
              refine ⟨dT, ((K4.tr qK).tr bK).tr dK, fun h => ?_⟩
              obtain ⟨d1, d2, d3, d4, d5⟩ := ds h
              have rr : ∀ j, j ≠ 494 → (j < 495 + 19 * c ∨ 495 + 19 * c + 19 ≤ j) → x.2.1 3 j = σ 3 j := fun j x y => by rw [d5 j x (by omega) (by omega) (by omega), br j (by omega), qr j (by omega), r4 j (by omega) (by omega)]
              refine ⟨d1, ?_, rr⟩
              -- the slots of this contract
              have r0 : x.2.1 3 (495 + 19 * c + 0) = σ1 0 7 := by rw [d5 _ (by omega) (by omega) (by omega) (by omega), br _ (by omega), qr _ (by omega), n4 _ (by omega), e3, v2.1]
              have r1 : x.2.1 3 (495 + 19 * c + 1) = z.2.1 3 (495 + 19 * c + 1) := by rw [d5 _ (by omega) (by omega) (by omega) (by omega), br _ (by omega)]
              have r2 : x.2.1 3 (495 + 19 * c + 2) = z.2.1 0 7 := by rw [d5 _ (by omega) (by omega) (by omega) (by omega), b2]
              have r6 : x.2.1 3 (495 + 19 * c + 6) = nI k := by rw [d5 _ (by omega) (by omega) (by omega) (by omega), br _ (by omega), z6]
              have rg7 : ∀ j, 495 + 19 * c + 6 ≤ j → j ≠ 494 → x.2.1 3 j = z.2.1 3 j := fun j a b => by rw [d5 _ (by omega) (by omega) (by omega) (by omega), br _ (by omega)]
              have x0 : x.2.1 3 0 = z.2.1 3 0 := by rw [d5 _ (by omega) (by omega) (by omega) (by omega), br _ (by omega)]
              have x1 : x.2.1 3 1 = z.2.1 3 1 := by rw [d5 _ (by omega) (by omega) (by omega) (by omega), br _ (by omega)]
              have x00 : x.2.1 3 0 = σ 3 0 := rr 0 (by omega) (by omega)
              have x11 : x.2.1 3 1 = σ 3 1 := rr 1 (by omega) (by omega)
              have kT : (nI k).toInt = k := nI_toInt (by omega)
              have z1r : rg (z.2.1 3 1) 0 6 := by rw [← x1, x11]; exact h1
              unfold rg at h0 z1r
              refine ⟨by rw [r0]; exact v2.2, ?_, ?_, d2, d3, d4, ?_, ?_, ?_⟩
              · rw [r1, qr _ (by omega), v4.1]; exact v4.2
              · rw [r2, x0]; exact ⟨b3, b4⟩
              · rw [r6]; unfold rg; omega
              · intro n hn
                rw [r6, kT] at hn
                have hXn := zX n (by omega)
                unfold mtX at hXn
                have hcn := clampI (z.2.1 3 (495 + 19 * c + (8 + 2 * n)))
                have hc7 := clampI (z.2.1 0 7)
                have z0 : z.2.1 3 0 = σ 3 0 := by rw [← x0]; exact x00
                rw [rg7 _ (by omega) (by omega), rg7 (495 + 19 * c + (8 + 2 * n)) (by omega) (by omega), x1, r2]
                refine ⟨zw n (by omega), hXn.1, hXn.2.1, ?_⟩
                have b4' := b4
                rw [z0] at b4'
                rw [d5 _ (by omega) (by omega) (by omega) (by omega), br _ (by omega)]
                exact b5 n (by rw [z6, nI_clamp (by omega)]; omega)
              · rw [r6, nI_clamp (by omega), r1, fb_si_cong' (g := fun n => (z.2.1 3 (495 + 19 * c + (7 + 2 * n))).toInt) k (fun n hn => by rw [rg7 _ (by omega) (by omega)])]
                exact zs
            · rw [if_neg a5]; exact ⟨bT, (K4.tr qK).tr bK, fun h => by cases h⟩
          · rw [if_neg a4]; exact ⟨qT, K4.tr qK, fun h => by cases h⟩
        · rw [if_neg a3]; exact ⟨T4, K4, fun h => by cases h⟩
      · rw [if_neg a2]; exact ⟨TI_bad T2 _, K2.tr (KP_bad _ _), fun h => by cases h⟩
    · rw [if_neg a1]; exact ⟨T2, K2, fun h => by cases h⟩
/-! indexes -/
def IR (i : Nat) (f : Nat → Int32) (z : Bool × MI × ML) : Prop := z.1 = true → ∃ n, n ≤ 36 ∧ (∀ j, j ≠ 1 → (∀ m, m < n → j ≠ 2 + 36 * i + m ∧ j ≠ 218 + 36 * i + m) → z.2.1 3 j = f j) ∧ (∀ m, m < n → z.2.1 3 (218 + 36 * i + m) = 2 ∧ rg (z.2.1 3 (2 + 36 * i + m)) 1 999) ∧ z.2.1 3 1 = f 1 + 1
theorem miL_ok {i : Nat} (hi : i < 6) (f : Nat → Int32) (h0 : rg (f 0) 0 35) : ∀ r mo σ τ, mo + r = 36 → TI σ → (∀ j, (∀ m, m < mo → j ≠ 2 + 36 * i + m ∧ j ≠ 218 + 36 * i + m) → σ 3 j = f j) → (∀ m, m < mo → σ 3 (218 + 36 * i + m) = 2 ∧ rg (σ 3 (2 + 36 * i + m)) 1 999) →
    TI (miL i (r + 1) mo σ τ).2.1 ∧ KP σ (miL i (r + 1) mo σ τ).2.1 ∧ IR i f (miL i (r + 1) mo σ τ) := by
  intro r
  induction r with
  | zero =>
    intro mo σ τ hm hT hr hs
    have e0 : σ 3 0 = f 0 := hr 0 (fun m _ => by omega)
    rw [miL]
    by_cases a1 : σ 0 6 = 3
    · rw [if_pos a1, if_neg (by rw [e0, i_le, nI_toInt (by omega)]; have := h0.2; omega)]
      exact ⟨TI_bad hT _, KP_bad _ _, fun h => by cases h⟩
    · rw [if_neg a1]
      refine ⟨TI_k (by decide) hT _ _, KP_3 _ _ _, fun _ => ⟨mo, by omega, fun j h1 hj => ?_, fun m hm2 => ?_, ?_⟩⟩
      · show s2 σ 3 1 (σ 3 1 + 1) 3 j = f j
        rw [s2_nj _ _ _ h1, hr j hj]
      · show s2 σ 3 1 (σ 3 1 + 1) 3 _ = 2 ∧ rg (s2 σ 3 1 (σ 3 1 + 1) 3 _) 1 999
        rw [s2_nj _ _ _ (by omega), s2_nj _ _ _ (by omega)]
        exact hs m hm2
      · show s2 σ 3 1 (σ 3 1 + 1) 3 1 = f 1 + 1
        rw [s2_eq, hr 1 (fun m _ => by omega)]
  | succ r ih =>
    intro mo σ τ hm hT hr hs
    have e0 : σ 3 0 = f 0 := hr 0 (fun m _ => by omega)
    rw [miL]
    by_cases a1 : σ 0 6 = 3
    · rw [if_pos a1]
      by_cases a2 : nI mo ≤ σ 3 0
      · rw [if_pos a2]
        have T1 := TI_td hT (2 + 36 * i + mo) 1 999
        have K1 := KP_td σ (2 + 36 * i + mo) 1 999
        by_cases a3 : tdB σ 1 999 = true
        · rw [if_pos a3]
          have v := tdM_3 (a := 2 + 36 * i + mo) a3
          have nj := fun j hj => tdM_nj σ (a := 2 + 36 * i + mo) 1 999 (j := j) hj
          generalize tdM σ (2 + 36 * i + mo) 1 999 = μ at *
          have q := ih (mo + 1) (s2 μ 3 (218 + 36 * i + mo) 2) (tdT σ τ (2 + 36 * i + mo) 1 999) (by omega) (TI_k (by decide) T1 _ _) (fun j hj => by
              have := hj mo (by omega)
              rw [s2_nj _ _ _ this.2, nj j this.1, hr j (fun m hm3 => hj m (by omega))]) (fun m hm3 => by
              rcases (by omega : m < mo ∨ m = mo) with z | z
              · rw [s2_nj _ _ _ (by omega), s2_nj _ _ _ (by omega), nj _ (by omega), nj _ (by omega)]
                exact hs m z
              · subst z
                rw [s2_eq, s2_nj _ _ _ (by omega), v.1]
                exact ⟨rfl, v.2⟩)
          exact ⟨q.1, (K1.tr (KP_3 _ _ _)).tr q.2.1, q.2.2⟩
        · rw [if_neg a3]; exact ⟨T1, K1, fun h => by cases h⟩
      · rw [if_neg a2]; exact ⟨TI_bad hT _, KP_bad _ _, fun h => by cases h⟩
    · rw [if_neg a1]
      refine ⟨TI_k (by decide) hT _ _, KP_3 _ _ _, fun _ => ⟨mo, by omega, fun j h1 hj => ?_, fun m hm2 => ?_, ?_⟩⟩
      · show s2 σ 3 1 (σ 3 1 + 1) 3 j = f j
        rw [s2_nj _ _ _ h1, hr j hj]
      · show s2 σ 3 1 (σ 3 1 + 1) 3 _ = 2 ∧ rg (s2 σ 3 1 (σ 3 1 + 1) 3 _) 1 999
        rw [s2_nj _ _ _ (by omega), s2_nj _ _ _ (by omega)]
        exact hs m hm2
      · show s2 σ 3 1 (σ 3 1 + 1) 3 1 = f 1 + 1
        rw [s2_eq, hr 1 (fun m _ => by omega)]
theorem miP_ok {i : Nat} (hi : i < 6) {σ : MI} (τ : ML) (hT : TI σ) (h0 : rg (σ 3 0) 0 35) : TI (miP i σ τ).2.1 ∧ KP σ (miP i σ τ).2.1 ∧ IR i (σ 3) (miP i σ τ) := by
  unfold miP
  by_cases a0 : σ 3 1 = 6
  · rw [if_pos a0]; exact ⟨TI_bad hT _, KP_bad _ _, fun h => by cases h⟩
  · rw [if_neg a0]
    have T1 := TI_go hT
    have K1 := KP_go σ
    have e1 := goM_3 σ
    generalize goM σ = σ1 at *
    generalize goT σ τ = τ1 at *
    unfold miQ
    by_cases a1 : mName σ1 τ1 = true
    · rw [if_pos a1]
      by_cases a2 : nmd σ1 τ1 = -1
      · rw [if_pos a2]
        have T2 := TI_go T1
        have K2 := K1.tr (KP_go σ1)
        have e2 := goM_3 σ1
        by_cases a3 : goM σ1 0 6 = 3
        · rw [if_pos a3]
          have q := miL_ok hi (σ 3) h0 36 0 (goM σ1) (goT σ1 (miW i τ1)) rfl T2 (fun j _ => by rw [e2, e1]) (fun m hm => absurd hm (Nat.not_lt_zero m))
          exact ⟨q.1, K2.tr q.2.1, q.2.2⟩
        · rw [if_neg a3]; exact ⟨TI_bad T2 _, K2.tr (KP_bad _ _), fun h => by cases h⟩
      · rw [if_neg a2]; exact ⟨TI_bad T1 _, K1.tr (KP_bad _ _), fun h => by cases h⟩
    · rw [if_neg a1]; exact ⟨TI_bad T1 _, K1.tr (KP_bad _ _), fun h => by cases h⟩
