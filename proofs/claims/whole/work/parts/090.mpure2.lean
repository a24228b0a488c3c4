/-! ===== rows that are being read ===== -/
def LI (σ : MI) : Prop := RI (σ 3) ∧ σ 3 609 = 0 ∧ (∀ i, i < 6 → σ 3 (434 + 10 * i) = 0) ∧ (∀ c : Nat, c < 6 → (σ 3 494).toInt ≤ c → σ 3 (495 + 19 * c + 6) = 0) ∧ (∀ i m : Nat, i < 6 → m < 36 → (σ 3 1).toInt ≤ i → σ 3 (218 + 36 * i + m) = 0)
theorem CI_keep {f g : Nat → Int32} {c : Nat} (hf0 : rg (f 0) 0 35) (hf1 : rg (f 1) 0 6) (h0 : g 0 = f 0) (h1 : (f 1).toInt ≤ (g 1).toInt) (hs : ∀ j, j < 19 → g (495 + 19 * c + j) = f (495 + 19 * c + j)) (hv : ∀ x b : Nat, (x : Int) < (f 1).toInt → b < 36 → g (218 + 36 * x + b) = f (218 + 36 * x + b)) (q : CI f c) : CI g c := by
  obtain ⟨a0, a1, a2, a3, a4, a5, a6, a7, a8⟩ := q
  unfold rg at hf0 hf1
  have a6b := a6
  have a2b := a2
  unfold rg at a6b a2b
  have e2 := hs 2 (by omega)
  have e6 := hs 6 (by omega)
  have hc6 := clampI (f (495 + 19 * c + 6))
  have hc2 := clampI (f (495 + 19 * c + 2))
  refine ⟨by rw [hs 0 (by omega)]; exact a0, by rw [hs 1 (by omega)]; exact a1, by rw [e2, h0]; exact a2, by rw [hs 3 (by omega)]; exact a3, by rw [hs 4 (by omega)]; exact a4, by rw [hs 5 (by omega)]; exact a5, by rw [e6]; exact a6, ?_, ?_⟩
  · intro k hk
    rw [e6] at hk
    obtain ⟨x1, x2, x3, x4⟩ := a7 k hk
    have hcx := clampI (f (495 + 19 * c + (8 + 2 * k)))
    rw [hs (7 + 2 * k) (by omega), hs (8 + 2 * k) (by omega), e2]
    refine ⟨x1, x2, by omega, ?_⟩
    rw [hv _ _ (by omega) (by omega)]
    exact x4
  · rw [e6, hs 1 (by omega), fb_si_cong' (g := fun k => (f (495 + 19 * c + (7 + 2 * k))).toInt) _ (fun k hk => by rw [hs (7 + 2 * k) (by omega)])]
    exact a8
theorem LI_idx {σ μ : MI} {i n : Nat} (hi : i < 6) (hL : LI σ) (e1 : σ 3 1 = nI i) (hn : n ≤ 36) (hr : ∀ j, j ≠ 1 → (∀ m, m < n → j ≠ 2 + 36 * i + m ∧ j ≠ 218 + 36 * i + m) → μ 3 j = σ 3 j) (hs : ∀ m, m < n → μ 3 (218 + 36 * i + m) = 2 ∧ rg (μ 3 (2 + 36 * i + m)) 1 999) (h1 : μ 3 1 = σ 3 1 + 1) : LI μ := by
  obtain ⟨hR, h9, hb, hz, hv⟩ := hL
  have t1 : (σ 3 1).toInt = i := by rw [e1, nI_toInt (by omega)]
  have t2 : (μ 3 1).toInt = i + 1 := by rw [h1, e1, nI_1, nI_toInt (by omega)]; omega
  have x0 : μ 3 0 = σ 3 0 := hr 0 (by omega) (fun m _ => by omega)
  have x4 : μ 3 494 = σ 3 494 := hr 494 (by omega) (fun m _ => by omega)
  have x9 : μ 3 609 = σ 3 609 := hr 609 (by omega) (fun m _ => by omega)
  have h4 := hR.2.2.1
  refine ⟨⟨by rw [x0]; exact hR.1, ⟨by omega, by omega⟩, by rw [x4]; exact h4, by rw [x9]; exact hR.2.2.2.1, ?_, ?_, ?_, ?_⟩, by rw [x9]; exact h9, ?_, ?_, ?_⟩
  · intro a b ha hb2
    by_cases q : a = i ∧ b < n
    · obtain ⟨rfl, q2⟩ := q
      have := hs b q2
      rw [this.1]
      exact ⟨⟨by decide, by decide⟩, fun _ => this.2⟩
    · rw [hr (218 + 36 * a + b) (by omega) (fun m hm => by omega), hr (2 + 36 * a + b) (by omega) (fun m hm => by omega)]
      exact hR.2.2.2.2.1 a b ha hb2
  · intro a ha
    rw [hr (434 + 10 * a) (by omega) (fun m hm => by omega)]
    refine ⟨hR.base ha, fun k hk => ?_⟩
    rw [hb a ha] at hk
    have : (0 : Int32).toInt = 0 := rfl
    omega
  · intro c hc
    rw [x4] at hc
    unfold rg at h4
    refine CI_keep (f := σ 3) hR.1 hR.2.1 x0 (by omega) (fun j hj => hr _ (by omega) (fun m hm => by omega)) (fun x b hx hb2 => hr _ (by omega) (fun m hm => by omega)) (hR.con hc)
  · intro d hd
    rw [x9, h9] at hd
    have : (0 : Int32).toInt = 0 := rfl
    omega
  · intro a ha
    rw [hr (434 + 10 * a) (by omega) (fun m hm => by omega)]; exact hb a ha
  · intro c hc h
    rw [x4] at h
    rw [hr _ (by omega) (fun m hm => by omega)]; exact hz c hc h
  · intro a m ha hm h
    rw [hr _ (by omega) (fun m2 hm2 => by omega)]
    exact hv a m ha hm (by omega)
theorem LI_con {σ μ : MI} {c : Nat} (hc6 : c < 6) (hL : LI σ) (e4 : σ 3 494 = nI c) (h4 : μ 3 494 = nI (c + 1)) (hC : CI (μ 3) c) (hr : ∀ j, j ≠ 494 → (j < 495 + 19 * c ∨ 495 + 19 * c + 19 ≤ j) → μ 3 j = σ 3 j) : LI μ := by
  obtain ⟨hR, h9, hb, hz, hv⟩ := hL
  have t1 : (σ 3 494).toInt = c := by rw [e4, nI_toInt (by omega)]
  have t2 : (μ 3 494).toInt = c + 1 := by rw [h4, nI_toInt (by omega)]; omega
  have x0 : μ 3 0 = σ 3 0 := hr 0 (by omega) (by omega)
  have x1 : μ 3 1 = σ 3 1 := hr 1 (by omega) (by omega)
  have x9 : μ 3 609 = σ 3 609 := hr 609 (by omega) (by omega)
  have hr1 := hR.2.1
  unfold rg at hr1
  refine ⟨⟨by rw [x0]; exact hR.1, by rw [x1]; exact hR.2.1, ⟨by omega, by omega⟩, by rw [x9]; exact hR.2.2.2.1, ?_, ?_, ?_, ?_⟩, by rw [x9]; exact h9, ?_, ?_, ?_⟩
  · intro a b ha hb2
    rw [hr _ (by omega) (by omega), hr _ (by omega) (by omega)]
    exact hR.2.2.2.2.1 a b ha hb2
  · intro a ha
    rw [hr (434 + 10 * a) (by omega) (by omega)]
    refine ⟨hR.base ha, fun k hk => ?_⟩
    rw [hb a ha] at hk
    have : (0 : Int32).toInt = 0 := rfl
    omega
  · intro d hd
    rcases (by omega : d < c ∨ d = c) with q | q
    · refine CI_keep (f := σ 3) hR.1 hR.2.1 x0 (by rw [x1]; omega) (fun j hj => hr _ (by omega) (by omega)) (fun x b hx hb2 => hr _ (by omega) (by omega)) (hR.con (by omega))
    · rw [q]; exact hC
  · intro d hd
    rw [x9, h9] at hd
    have : (0 : Int32).toInt = 0 := rfl
    omega
  · intro a ha
    rw [hr _ (by omega) (by omega)]; exact hb a ha
  · intro d hd h
    rw [hr _ (by omega) (by omega)]; exact hz d hd (by omega)
  · intro a m ha hm h
    rw [x1] at h
    rw [hr _ (by omega) (by omega)]; exact hv a m ha hm h
theorem LI_mon {σ μ : MI} (hL : LI σ) (h4 : σ 3 494 = 0) (h0 : rg (μ 3 0) 0 35) (hr : ∀ j, j ≠ 0 → μ 3 j = σ 3 j) : LI μ := by
  obtain ⟨hR, h9, hb, hz, hv⟩ := hL
  have x1 : μ 3 1 = σ 3 1 := hr 1 (by omega)
  have x4 : μ 3 494 = σ 3 494 := hr 494 (by omega)
  have x9 : μ 3 609 = σ 3 609 := hr 609 (by omega)
  have z0 : (0 : Int32).toInt = 0 := rfl
  refine ⟨⟨h0, by rw [x1]; exact hR.2.1, by rw [x4]; exact hR.2.2.1, by rw [x9]; exact hR.2.2.2.1, ?_, ?_, ?_, ?_⟩, by rw [x9]; exact h9, ?_, ?_, ?_⟩
  · intro a b ha hb2
    rw [hr _ (by omega), hr _ (by omega)]
    exact hR.2.2.2.2.1 a b ha hb2
  · intro a ha
    rw [hr (434 + 10 * a) (by omega)]
    refine ⟨hR.base ha, fun k hk => ?_⟩
    rw [hb a ha] at hk
    omega
  · intro d hd
    rw [x4, h4] at hd
    omega
  · intro d hd
    rw [x9, h9] at hd
    omega
  · intro a ha
    rw [hr _ (by omega)]; exact hb a ha
  · intro d hd h
    rw [x4] at h
    rw [hr _ (by omega)]; exact hz d hd h
  · intro a m ha hm h
    rw [x1] at h
    rw [hr _ (by omega)]; exact hv a m ha hm h
theorem LI_row {σ μ : MI} (hL : LI σ) (h : μ 3 = σ 3) : LI μ := by unfold LI; rw [h]; exact hL
theorem LI_zero {σ : MI} (h : ∀ j, j < 880 → σ 3 j = 0) : LI σ := by
  have z0 : (0 : Int32).toInt = 0 := rfl
  have r0 : ∀ b : Int, 0 ≤ b → rg 0 0 b := fun b hb => ⟨by rw [z0]; omega, by rw [z0]; exact hb⟩
  refine ⟨⟨by rw [h 0 (by omega)]; exact r0 _ (by omega), by rw [h 1 (by omega)]; exact r0 _ (by omega), by rw [h 494 (by omega)]; exact r0 _ (by omega), by rw [h 609 (by omega)]; exact r0 _ (by omega), ?_, ?_, ?_, ?_⟩, h 609 (by omega), ?_, ?_, ?_⟩
  · intro a b ha hb2
    rw [h _ (by omega)]
    exact ⟨r0 _ (by omega), fun q => absurd rfl q⟩
  · intro a ha
    rw [h _ (by omega)]
    exact ⟨r0 _ (by omega), fun k hk => by omega⟩
  · intro d hd
    rw [h _ (by omega)] at hd
    omega
  · intro d hd
    rw [h _ (by omega)] at hd
    omega
  · intro a ha; exact h _ (by omega)
  · intro d hd _; exact h _ (by omega)
  · intro a m ha hm _; exact h _ (by omega)
/-- a line -/
def LN (σ : MI) (first : Bool) (z : Bool × MI × ML) : Prop := TI z.2.1 ∧ KP σ z.2.1 ∧ (z.1 = true → LI z.2.1 ∧ (if first = true then z.2.1 3 1 = σ 3 1 ∧ z.2.1 3 494 = σ 3 494 else (z.2.1 3 1).toInt + (z.2.1 3 494).toInt = (σ 3 1).toInt + (σ 3 494).toInt + 1))
theorem eq_nI {x : Int32} (h : 0 ≤ x.toInt) : x = nI x.toNatClampNeg := by
  have h1 := clampI x
  have h2 := fb_rng x
  rw [i_eq, nI_toInt (by omega)]
  omega
theorem mlP_ok {σ : MI} (τ : ML) (first : Bool) (hT : TI σ) (hL : LI σ) (hf : first = true → σ 3 1 = 0 ∧ σ 3 494 = 0) : LN σ first (mlP σ τ first) := by
  have h1 := hL.1.2.1
  have h4 := hL.1.2.2.1
  have h0 := hL.1.1
  unfold rg at h1 h4
  have hc1 := clampI (σ 3 1)
  have hc4 := clampI (σ 3 494)
  have e1 := eq_nI h1.1
  have e4 := eq_nI h4.1
  unfold mlP
  cases first with
  | true =>
    rw [if_pos rfl]
    by_cases a1 : mIs σ τ 0 = true
    · rw [if_pos a1]
      refine ⟨TI_td (TI_go hT) _ _ _, (KP_go σ).tr (KP_td _ _ _ _), fun h => ?_⟩
      have v := tdM_3 (a := 0) (show tdB (goM σ) 0 35 = true from h)
      have nj := fun j hj => tdM_nj (goM σ) (a := 0) 0 35 (j := j) hj
      refine ⟨LI_mon hL (hf rfl).2 ?_ ?_, ?_⟩
      · show rg (tdM (goM σ) 0 0 35 3 0) 0 35
        rw [v.1]; exact v.2
      · intro j hj
        show tdM (goM σ) 0 0 35 3 j = σ 3 j
        rw [nj j hj, goM_3]
      · rw [if_pos rfl]
        show tdM (goM σ) 0 0 35 3 1 = σ 3 1 ∧ tdM (goM σ) 0 0 35 3 494 = σ 3 494
        rw [nj 1 (by omega), nj 494 (by omega), goM_3]
        exact ⟨rfl, rfl⟩
    · rw [if_neg a1]; exact ⟨TI_bad hT _, KP_bad _ _, fun h => by cases h⟩
  | false =>
    rw [if_neg (by decide)]
    by_cases a1 : mIs σ τ 1 = true
    · rw [if_pos a1]
      by_cases h6 : σ 3 1 = 6
      · unfold miP
        rw [if_pos h6]; exact ⟨TI_bad hT _, KP_bad _ _, fun h => by cases h⟩
      · have hi6 : (σ 3 1).toNatClampNeg < 6 := by
          have q : (σ 3 1).toInt ≠ (6 : Int32).toInt := fun q => h6 ((i_eq _ _).mpr q)
          have : (6 : Int32).toInt = 6 := rfl
          omega
        have q := miP_ok hi6 τ hT h0
        generalize miP (σ 3 1).toNatClampNeg σ τ = z at *
        refine ⟨q.1, q.2.1, fun h => ?_⟩
        obtain ⟨n, hn, hr, hs, hz⟩ := q.2.2 h
        refine ⟨LI_idx hi6 hL e1 hn hr hs hz, ?_⟩
        rw [if_neg (by decide), hr 494 (by omega) (fun m hm => by omega), hz, fb_addI (by have : (1 : Int32).toInt = 1 := rfl; omega) (by have : (1 : Int32).toInt = 1 := rfl; omega)]
        have : (1 : Int32).toInt = 1 := rfl
        omega
    · rw [if_neg a1]
      by_cases a2 : mIs σ τ 2 = true
      · rw [if_pos a2]
        by_cases h6 : σ 3 494 = 6
        · unfold mcP
          rw [if_pos h6]; exact ⟨TI_bad hT _, KP_bad _ _, fun h => by cases h⟩
        · have hi6 : (σ 3 494).toNatClampNeg < 6 := by
            have q : (σ 3 494).toInt ≠ (6 : Int32).toInt := fun q => h6 ((i_eq _ _).mpr q)
            have : (6 : Int32).toInt = 6 := rfl
            omega
          have q := mcP_ok hi6 τ hT h0 hL.1.2.1 (hL.2.2.2.1 _ hi6 (by omega))
          generalize mcP (σ 3 494).toNatClampNeg σ τ = z at *
          refine ⟨q.1, q.2.1, fun h => ?_⟩
          obtain ⟨q1, q2, q3⟩ := q.2.2 h
          refine ⟨LI_con hi6 hL e4 q1 q2 q3, ?_⟩
          rw [if_neg (by decide), q3 1 (by omega) (by omega), q1, nI_toInt (by omega)]
          omega
      · rw [if_neg a2]; exact ⟨TI_bad hT _, KP_bad _ _, fun h => by cases h⟩
theorem meM_3 (σ : MI) : meM σ 3 = σ 3 := by
  unfold meM
  split
  · exact goM_3 σ
  · exact mBad_3 σ _
theorem TI_me {σ : MI} (h : TI σ) : TI (meM σ) := by
  unfold meM
  split
  · exact TI_go h
  · exact TI_bad h _
theorem KP_me (σ : MI) : KP σ (meM σ) := by
  unfold meM
  split
  · exact KP_go σ
  · exact KP_bad σ _
theorem zrS_at (σ : MI) {j : Nat} : ∀ n, j < n → zrS σ n 3 j = 0
  | 0, h => absurd h (Nat.not_lt_zero j)
  | n + 1, h => by
    rw [zrS]
    by_cases e : j = n
    · rw [e, s2_eq]
    · rw [s2_nj _ _ _ e]; exact zrS_at σ n (by omega)
theorem nwS_at (σ : MI) {j : Nat} : ∀ n, j < n → nwS σ n 2 j = σ 3 j
  | 0, h => absurd h (Nat.not_lt_zero j)
  | n + 1, h => by
    rw [nwS]
    by_cases e : j = n
    · rw [e, s2_eq]
    · rw [s2_nj _ _ _ e]; exact nwS_at σ n (by omega)
