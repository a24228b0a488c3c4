/-! ===== every call: both answer alike, and stand alike behind it ===== -/
theorem zH_n {σ μ : MI} (h : zH σ μ) : σ 6 6 = μ 0 16 ∧ rg (μ 0 16) 0 8 := by
  obtain ⟨p, n, a1, a2, a3, a4, a5, -, -⟩ := h
  refine ⟨by rw [a4, a5], ?_⟩
  rw [a5]
  unfold rg
  rw [nI_toInt (by omega)]
  omega
section EVE
variable {σ : MI} {τ : ML} {μ : MI}
theorem zA_gen {σ' : MI} {τ' : ML} {μ' : MI} (h : zA σ τ μ) (hσ : ∀ c, c < 6 → σ' c = σ c) (hr : ∀ b, b < 2 → bz (σ 0 1) = b → zR σ τ b (μ 2) → zR σ' τ' b (μ' 2)) (hH : zH σ μ → zX (μ 2) → zH σ' μ') (h1 : μ' 1 = μ 1) (h0 : ∀ j, j ≠ 0 → j ≠ 16 → μ' 0 j = μ 0 j) : zA σ' τ' μ' := by
  obtain ⟨b, t, hb2, hb0, hb1, ⟨t1, t2, t3, t4⟩, hF, hR, hHH, h67⟩ := h
  refine ⟨b, t, hb2, by rw [hσ 0 (by omega)]; exact hb0, by rw [hσ 1 (by omega)]; exact hb1, ⟨t1, by rw [hσ 2 (by omega)]; exact t2, by rw [h0 2 (by decide) (by decide)]; exact t3, fun j hj => by rw [hσ 3 (by omega), h1]; exact t4 j hj⟩, by rw [hσ 1 (by omega), h0 9 (by decide) (by decide)]; exact hF, hr b hb2 hb0 hR, hH hHH hR.2.2, by rw [h0 6 (by decide) (by decide), h0 7 (by decide) (by decide)]; exact h67⟩
theorem zA_0 (h : zA σ τ μ) (v : Int32) : zA σ τ (s2 μ 0 0 v) :=
  zA_gen h (fun _ _ => rfl) (fun b _ _ hR => by rw [s2_nk _ _ _ (by decide)]; exact hR) (fun hH _ => zH_same hH (fun _ _ _ => rfl) (s2_nk _ _ _ (by decide)) (s2_nk _ _ _ (by decide)) (s2_nj _ _ _ (by decide))) (s2_nk _ _ _ (by decide)) (fun j hj _ => s2_nj _ _ _ hj)
theorem zA_R (h : zA σ τ μ) : ∃ b, b < 2 ∧ bz (σ 0 1) = b ∧ zR σ τ b (μ 2) := by
  obtain ⟨b, t, hb2, hb0, hb1, hT, hF, hR, hH, h67⟩ := h
  exact ⟨b, hb2, hb0, hR⟩
theorem zA_RI (h : zA σ τ μ) : RI (μ 2) := by
  obtain ⟨b, -, -, hR⟩ := zA_R h
  exact hR.2.2.1
theorem zA_8 (h : zA σ τ μ) : rg (μ 0 16) 0 8 := by
  obtain ⟨b, t, hb2, hb0, hb1, hT, hF, hR, hH, h67⟩ := h
  exact (zH_n hH).2
theorem zA_t (h : zA σ τ μ) : ∃ t, μ 0 2 = nI t ∧ t ≤ 740 := by
  obtain ⟨b, t, hb2, hb0, hb1, hT, hF, hR, hH, h67⟩ := h
  exact ⟨t, hT.2.2.1, hT.1⟩
theorem zA_67 (h : zA σ τ μ) : μ 0 6 = 3 → 0 ≤ (μ 0 7).toInt := by
  obtain ⟨b, t, hb2, hb0, hb1, hT, hF, hR, hH, h67⟩ := h
  exact h67
theorem zc_fault (h : zA σ τ μ) : σ 1 5 = μ 0 9 := by
  obtain ⟨b, t, hb2, hb0, hb1, hT, hF, hR, hH, h67⟩ := h
  exact hF
theorem zc_now (h : zA σ τ μ) (w : Int32) : nowS σ w = mNow μ w := by
  obtain ⟨b, t, hb2, hb0, hb1, hT, hF, hR, hH, h67⟩ := h
  exact z_now hb0 hR (zH_n hH).1 (by rw [hT.2.1, hT.2.2.1]) w
theorem zc_value (h : zA σ τ μ) (x m w : Int32) : valuS σ x m w = mVal (μ 2) x m w := by
  obtain ⟨b, -, hb, hR⟩ := zA_R h
  exact z_value hb hR x m w
theorem zc_rebased (h : zA σ τ μ) (x k w : Int32) : rebdS σ x k w = mReb (μ 2) x k w := by
  obtain ⟨b, -, hb, hR⟩ := zA_R h
  exact z_rebased hb hR x k w
theorem zc_contract (h : zA σ τ μ) (x w : Int32) : contS σ x w = mCon (μ 2) x w := by
  obtain ⟨b, -, hb, hR⟩ := zA_R h
  exact z_contract hb hR x w
theorem zc_delivery (h : zA σ τ μ) (x w : Int32) : deliS σ x w = mDel (μ 2) x w := by
  obtain ⟨b, -, hb, hR⟩ := zA_R h
  exact z_delivery hb hR x w
theorem zc_ratC (h : zA σ τ μ) (x a z : Int32) : raC σ x a z = mRtC (μ 2) x a z := by
  obtain ⟨b, -, hb, hR⟩ := zA_R h
  exact z_ratC hb hR x a z
theorem zc_ratV (h : zA σ τ μ) {x a z : Int32} (hc : mRtC (μ 2) x a z = true) : raV σ x a z = mRat (μ 2) x.toNatClampNeg a z := by
  obtain ⟨b, -, hb, hR⟩ := zA_R h
  exact z_ratV hb hR hc
theorem zc_priC (h : zA σ τ μ) (x m w : Int32) : pcC σ x m w = mPrC (μ 2) x m w := by
  obtain ⟨b, -, hb, hR⟩ := zA_R h
  exact z_pcC hb hR x m w
theorem zc_priV (h : zA σ τ μ) {x m w : Int32} (hc : mPrC (μ 2) x m w = true) : pcV σ x m w = mPrR (μ 2) x m w := by
  obtain ⟨b, -, hb, hR⟩ := zA_R h
  exact z_pcV hb hR hc
theorem zc_amoC (h : zA σ τ μ) (x w : Int32) : amC σ x w = mAmC (μ 2) x w := by
  obtain ⟨b, -, hb, hR⟩ := zA_R h
  exact z_amC hR.2.1 hR.2.2.1 x w
theorem zc_amoV (h : zA σ τ μ) {x w : Int32} (hc : mAmC (μ 2) x w = true) : amV σ τ x w = mAmR (μ 2) x w := by
  obtain ⟨b, -, hb, hR⟩ := zA_R h
  exact z_amV hR.2.1 hR.2.2.1 hc
theorem zc_staV (h : zA σ τ μ) {m w : Int32} (hc : mStC m w = true) : stV σ τ m w = mStR (μ 2) m w := by
  obtain ⟨b, -, hb, hR⟩ := zA_R h
  exact z_stV hR.2.1 hR.2.2 hc
theorem zA_pwB (h : zA σ τ μ) {x : Int32} (hx : inC x (σ (44 + 57 * bz (σ 0 1)) 1) 6 = true) (v : Int32) : zA (pwB σ (bz (σ 0 1)) x.toNatClampNeg v) τ μ := by
  have hbl := bz_lt (σ 0 1)
  have hi := clampN (inC_in6 hx)
  have ne : ∀ c, c < 44 → pwB σ (bz (σ 0 1)) x.toNatClampNeg v c = σ c := fun c hc => pwB_ne8 σ v (by omega)
  refine zA_gen h (fun c hc => ne c (by omega)) (fun b hb2 hb hR => ?_) (fun hH _ => zH_same hH (fun c _ _ => ne c (by omega)) rfl rfl rfl) rfl (fun _ _ _ => rfl)
  rw [hb] at ne ⊢
  exact ⟨z_pwB hR.2.2.1 hR.1 hi v, z_keepL hR.2.1 hR.2.2.1.2.2.2.1 (fun c _ a => ne c a) (fun _ _ => rfl), hR.2.2⟩
theorem zc_were (h : zA σ τ μ) (q x v : Int32) : wereR σ q x v = mWer (μ 2) q x v ∧ zA (wereM σ q x v) τ (s2 μ 0 0 0) := by
  obtain ⟨b, -, hb, hR⟩ := zA_R h
  refine ⟨z_were hb hR q x v, zA_0 ?_ 0⟩
  unfold wereM
  split
  · split
    · rename_i hx
      split
      · exact zA_pwB h hx v
      · exact h
    · exact h
  · exact h
theorem zc_rises (h : zA σ τ μ) (q x : Int32) : risR σ q x = mRis (μ 2) q x ∧ zA (risM σ q x) τ (s2 μ 0 0 0) := by
  obtain ⟨b, -, hb, hR⟩ := zA_R h
  refine ⟨z_rises hb hR q x, zA_0 ?_ 0⟩
  unfold risM
  split
  · split
    · rename_i hx
      exact zA_pwB h hx 999
    · exact h
  · exact h
theorem zA_tape {t : Nat} {σ' μ' : MI} (h : zA σ τ μ) (hT : zT σ' μ' t) (hσ : ∀ c, c ≠ 2 → c ≠ 3 → σ' c = σ c) (hμ : ∀ c, c ≠ 0 → c ≠ 1 → μ' c = μ c) (h0 : ∀ j, j ≠ 0 → j ≠ 2 → μ' 0 j = μ 0 j) : zA σ' τ μ' := by
  obtain ⟨b, t0, hb2, hb0, hb1, hT0, hF, hR, hH, h67⟩ := h
  refine ⟨b, t, hb2, by rw [hσ 0 (by decide) (by decide)]; exact hb0, by rw [hσ 1 (by decide) (by decide)]; exact hb1, hT, by rw [hσ 1 (by decide) (by decide), h0 9 (by decide) (by decide)]; exact hF, ?_, zH_same hH (fun c _ _ => hσ c (by omega) (by omega)) (hμ 2 (by decide) (by decide)) (hμ 4 (by decide) (by decide)) (h0 16 (by decide) (by decide)), by rw [h0 6 (by decide) (by decide), h0 7 (by decide) (by decide)]; exact h67⟩
  rw [hμ 2 (by decide) (by decide)]
  exact zR_same hR (fun c _ _ => hσ c (by omega) (by omega))
theorem feM_ne (σ : MI) (a b c d e : Int32) {k : Nat} (h2 : k ≠ 2) (h3 : k ≠ 3) : feM σ a b c d e k = σ k := by
  unfold feM
  split
  · rw [apS_ne _ _ h2 h3, apS_ne _ _ h2 h3, apS_ne _ _ h2 h3, apS_ne _ _ h2 h3, apS_ne _ _ h2 h3]
  · rfl
theorem mfM_0 (μ : MI) (a b c d e : Int32) {j : Nat} (h0 : j ≠ 0) (h2 : j ≠ 2) : mfM μ a b c d e 0 j = μ 0 j := by
  unfold mfM
  split
  · rw [lyS_0 _ _ h2, lyS_0 _ _ h2, lyS_0 _ _ h2, lyS_0 _ _ h2, lyS_0 _ _ h2, s2_nj _ _ _ h0]
  · exact s2_nj _ _ _ h0
theorem zc_feed (h : zA σ τ μ) (a b c d e : Int32) : feR σ a b c d e = mfR μ a b c d e ∧ zA (feM σ a b c d e) τ (mfM μ a b c d e) := by
  obtain ⟨b_, t, hb2, hb0, hb1, hT, hF, hR, hH, h67⟩ := id h
  obtain ⟨q1, t', q2⟩ := z_feed hT a b c d e
  refine ⟨q1, zA_tape h q2 (fun k h2 h3 => feM_ne σ a b c d e h2 h3) (fun k h0 h1 => ?_) (fun j h0 h2 => mfM_0 μ a b c d e h0 h2)⟩
  unfold mfM
  split
  · rw [lyS_ne _ _ h0 h1, lyS_ne _ _ h0 h1, lyS_ne _ _ h0 h1, lyS_ne _ _ h0 h1, lyS_ne _ _ h0 h1, s2_nk _ _ _ h0]
  · exact s2_nk _ _ _ h0
theorem zc_end (h : zA σ τ μ) (n : Int32) : (if n < 0 then false else if n ≤ σ 2 1 then true else false) = (if n < 0 then false else if n ≤ μ 0 2 then true else false) ∧ zA (if n < 0 then σ else if n ≤ σ 2 1 then s2 σ 2 1 n else σ) τ (if n < 0 then s2 μ 0 0 0 else if n ≤ μ 0 2 then s2 (s2 μ 0 0 0) 0 2 n else s2 μ 0 0 0) := by
  obtain ⟨b_, t, hb2, hb0, hb1, hT, hF, hR, hH, h67⟩ := id h
  obtain ⟨q1, t', q2⟩ := z_end hT n
  refine ⟨q1, zA_tape h q2 (fun k h2 h3 => ?_) (fun k h0 h1 => ?_) (fun j h0 h2 => ?_)⟩
  · split
    · rfl
    · split
      · exact s2_nk _ _ _ h2
      · rfl
  · split
    · exact s2_nk _ _ _ h0
    · split
      · rw [s2_nk _ _ _ h0, s2_nk _ _ _ h0]
      · exact s2_nk _ _ _ h0
  · split
    · exact s2_nj _ _ _ h0
    · split
      · rw [s2_nj _ _ _ h2, s2_nj _ _ _ h0]
      · exact s2_nj _ _ _ h0
theorem sn2 (μ : MI) : snS (s2 μ 0 0 0) 2 = μ 2 := by rw [snS_ne _ (by decide) (by decide), s2_nk _ _ _ (by decide)]
theorem sn1' (μ : MI) : snS (s2 μ 0 0 0) 1 = μ 1 := by rw [snS_ne _ (by decide) (by decide), s2_nk _ _ _ (by decide)]
theorem sn0 (μ : MI) {j : Nat} (h0 : j ≠ 0) (h : j ≠ 16) : snS (s2 μ 0 0 0) 0 j = μ 0 j := by rw [snS_0 _ h, s2_nj _ _ _ h0]
theorem zc_publish (h : zA σ τ μ) (x m v : Int32) (fin : Bool) : pubR σ x m v = mPbR (μ 2) x m v ∧ zA (pubM σ x m v fin) τ (mPbM μ x m v fin) := by
  obtain ⟨b, hb2, hb, hR⟩ := zA_R h
  obtain ⟨q1, q2, q3⟩ := z_publish hb hR x m v fin
  refine ⟨q1, ?_⟩
  unfold mPbM
  by_cases c : mPbC (μ 2) x m v = 1
  · rw [if_pos c]
    obtain ⟨hx, hm, hv, e⟩ := q3 c
    rw [e]
    have hi6 := clampN (mIx hR.2.2.1 hx).1
    have hm36 := clampN (mMx hm)
    have e2 : s2 (s2 (snS (s2 μ 0 0 0)) 2 (2 + 36 * x.toNatClampNeg + m.toNatClampNeg) v) 2 (218 + 36 * x.toNatClampNeg + m.toNatClampNeg) (if fin = true then 2 else 1) 2 = rowV (μ 2) x.toNatClampNeg m.toNatClampNeg v (if fin = true then 2 else 1) := by
      rw [s2_k, s2_k, sn2]; rfl
    have lo : ∀ k, k < 44 → putS (keepS σ 0 x m (if μ 2 (218 + 36 * x.toNatClampNeg + m.toNatClampNeg) = 0 then 0 else μ 2 (2 + 36 * x.toNatClampNeg + m.toNatClampNeg)) (μ 2 (218 + 36 * x.toNatClampNeg + m.toNatClampNeg))) b x.toNatClampNeg m v (if fin = true then 2 else 1) k = keepS σ 0 x m (if μ 2 (218 + 36 * x.toNatClampNeg + m.toNatClampNeg) = 0 then 0 else μ 2 (2 + 36 * x.toNatClampNeg + m.toNatClampNeg)) (μ 2 (218 + 36 * x.toNatClampNeg + m.toNatClampNeg)) k := fun k hk => putS_ne _ _ _ _ (by omega) (by omega)
    refine zA_gen h (fun k hk => ?_) (fun b' hb2' hb' hR' => ?_) (fun hH hX => ?_) ?_ (fun j h0 h16 => ?_)
    · rw [lo k (by omega), keepS_ne _ _ _ _ _ _ (by omega)]
    · rw [e2]
      have : b' = b := by rw [← hb', ← hb]
      subst this
      exact z_publishM hb2 hR hx hm hv _ _ _ _ _ fin
    · refine zH_act hH hX (σ0 := σ) (fun _ _ _ => rfl) (fun k _ hk => lo k (by omega)) ?_ ?_ ?_
      · rw [s2_nk _ _ _ (by decide), s2_nk _ _ _ (by decide)]
      · rw [s2_nk _ _ _ (by decide), s2_nk _ _ _ (by decide)]
      · rw [e2]
        refine Or.inl ⟨rfl, hx, hi6, hm, hm36, rfl, fun w => by rw [if_neg w], fun j _ w1 w2 => rowV_ne _ _ _ w1 w2⟩
    · rw [s2_nk _ _ _ (by decide), s2_nk _ _ _ (by decide), sn1']
    · rw [s2_nk _ _ _ (by decide), s2_nk _ _ _ (by decide), sn0 μ h0 h16]
  · rw [if_neg c, q2 c]
    exact zA_0 h 0
theorem zc_rebase (h : zA σ τ μ) (x m v : Int32) : rebR σ x m v = mRbR (μ 2) x m v ∧ zA (rebM σ x m v) τ (mRbM μ x m v) := by
  obtain ⟨b, hb2, hb, hR⟩ := zA_R h
  obtain ⟨q1, q2, q3⟩ := z_rebase hb hR x m v
  refine ⟨q1, ?_⟩
  unfold mRbM
  by_cases c : mRbC (μ 2) x m v = 1
  · rw [if_pos c]
    obtain ⟨hx, hm, hv, h2, h3, e⟩ := q3 c
    rw [e]
    have hi6 := clampN (mIx hR.2.2.1 hx).1
    have hbs := hR.2.2.1.base hi6
    unfold rg at hbs
    have hM := z_rebaseM hb2 hR hx hm hv h2 h3 1 x m 0 0
    have lo : ∀ k, k < 44 → addRS σ b x.toNatClampNeg m v k = σ k := fun k hk => addRS_ne σ m v (by omega) (by omega) (by omega) (by omega)
    generalize hi : x.toNatClampNeg = i at *
    have e2 : s2 (s2 (s2 (s2 (snS (s2 μ 0 0 0)) 2 (434 + 10 * i + 1 + 3 * (μ 2 (434 + 10 * i)).toNatClampNeg + 0) m) 2 (434 + 10 * i + 1 + 3 * (μ 2 (434 + 10 * i)).toNatClampNeg + 1) (μ 2 (2 + 36 * i + m.toNatClampNeg))) 2 (434 + 10 * i + 1 + 3 * (μ 2 (434 + 10 * i)).toNatClampNeg + 2) v) 2 (434 + 10 * i) (μ 2 (434 + 10 * i) + 1) 2 = rowB (μ 2) i m (μ 2 (2 + 36 * i + m.toNatClampNeg)) v := by
      rw [s2_k, s2_k, s2_k, s2_k, sn2]; rfl
    refine zA_gen h (fun k hk => ?_) (fun b' hb2' hb' hR' => ?_) (fun hH hX => ?_) ?_ (fun j h0 h16 => ?_)
    · rw [keepS_ne _ _ _ _ _ _ (by omega), lo k (by omega)]
    · rw [e2]
      have : b' = b := by rw [← hb', ← hb]
      subst this
      exact hM
    · refine zH_act hH hX (σ0 := addRS σ b i m v) (fun k _ hk => lo k (by omega)) (fun k _ hk => rfl) ?_ ?_ ?_
      · rw [s2_nk _ _ _ (by decide), s2_nk _ _ _ (by decide), s2_nk _ _ _ (by decide), s2_nk _ _ _ (by decide)]
      · rw [s2_nk _ _ _ (by decide), s2_nk _ _ _ (by decide), s2_nk _ _ _ (by decide), s2_nk _ _ _ (by decide)]
      · rw [e2]
        refine Or.inr (Or.inl ⟨rfl, ?_⟩)
        unfold aReb
        rw [hi]
        exact ⟨hx, hi6, hbs.1, h3, (rowB_at (μ 2) (i := i) _ _ _).1, fun j _ w1 w2 => rowB_ne _ _ _ _ w1 w2⟩
    · rw [s2_nk _ _ _ (by decide), s2_nk _ _ _ (by decide), s2_nk _ _ _ (by decide), s2_nk _ _ _ (by decide), sn1']
    · rw [s2_nk _ _ _ (by decide), s2_nk _ _ _ (by decide), s2_nk _ _ _ (by decide), s2_nk _ _ _ (by decide), sn0 μ h0 h16]
  · rw [if_neg c, q2 c]
    exact zA_0 h 0
theorem mDv_ne (μ : MI) (q du n a : Int32) {k : Nat} (h : k ≠ 2) : mDv μ q du n a k = snS (s2 μ 0 0 0) k := by
  unfold mDv
  rw [s2_nk _ _ _ h, s2_nk _ _ _ h, s2_nk _ _ _ h, s2_nk _ _ _ h, s2_nk _ _ _ h, s2_nk _ _ _ h, s2_nk _ _ _ h, s2_nk _ _ _ h, s2_nk _ _ _ h, s2_nk _ _ _ h]
theorem zc_deliver (h : zA σ τ μ) (q du n : Int32) : dvR σ q du n = mDvR (μ 2) q du n ∧ zA (dvM σ q du n) (dvT σ τ q du n) (mDvM μ q du n) := by
  obtain ⟨b, hb2, hb, hR⟩ := zA_R h
  refine ⟨z_deliverR hb hR q du n, ?_⟩
  have hc := z_dvC hb hR q du n
  unfold dvM dvT mDvM
  rw [hc, hR.2.1.1]
  cases hd : mDvC (μ 2) q du n
  · rw [if_neg Bool.false_ne_true, if_neg Bool.false_ne_true, if_neg Bool.false_ne_true]
    exact zA_0 h 0
  · rw [if_pos rfl, if_pos rfl, if_pos rfl]
    by_cases e30 : μ 2 609 = 30
    · have hf := (z_full hR.2.2.1).1 e30
      rw [if_pos e30, hf, if_neg Bool.false_ne_true, if_neg Bool.false_ne_true]
      exact zA_0 h 0
    · obtain ⟨hf, h30⟩ := (z_full hR.2.2.1).2 e30
      rw [if_neg e30, hf, if_pos rfl, if_pos rfl]
      have hM := z_deliverM hb hb2 hR hd h30
      rw [hR.2.1.1] at hM
      have h9 := hR.2.2.1.2.2.2.1
      unfold rg at h9
      have c9 := clampI (μ 2 609)
      have e2 : mDv μ q du n (mDvA (μ 2) q du) 2 = rowD (μ 2) q du n (mDvA (μ 2) q du) (mPri (μ 2) q.toNatClampNeg ((mDvA (μ 2) q du).toNatClampNeg + 1)) := by
        unfold mDv
        rw [s2_k, s2_k, s2_k, s2_k, s2_k, s2_k, s2_k, s2_k, s2_k, s2_k, sn2]; rfl
      have lo : ∀ k, k < 12 → bilS (dv1 σ q du n) (σ 12 1).toNatClampNeg (pfS (dv1 σ q du n) (bz (σ 0 1)) q.toNatClampNeg du) (pfS (dv1 σ q du n) (bz (σ 0 1)) q.toNatClampNeg (σ (44 + 57 * bz (σ 0 1)) 0)) k = σ k := fun k hk => by
        rw [bilS_ne _ _ _ (by omega), dv1_ne σ q du n (by omega) (by omega)]
      refine zA_gen h (fun k hk => ?_) (fun b' hb2' hb' hR' => ?_) (fun hH hX => ?_) ?_ (fun j h0 h16 => ?_)
      · unfold dv2
        rw [keepS_ne _ _ _ _ _ _ (by omega), lo k (by omega)]
      · have : b' = b := by rw [← hb', ← hb]
        subst this
        rw [e2]
        exact hM
      · refine zH_act hH hX (fun k _ hk => lo k (by omega)) (fun k _ hk => rfl) ?_ ?_ ?_
        · exact mDv_ne μ _ _ _ _ (by decide)
        · rw [mDv_ne μ _ _ _ _ (by decide)]
        · rw [e2]
          refine Or.inr (Or.inr (Or.inl ⟨rfl, h9.1, h30, ?_, fun j _ w1 w2 => rowD_ne _ _ _ _ _ _ w1 w2⟩))
          exact (rowD_at (μ 2) q du n _ _).1
      · rw [mDv_ne μ _ _ _ _ (by decide), sn1']
      · rw [mDv_ne μ _ _ _ _ (by decide), sn0 μ h0 h16]
theorem setlM_lo (σ : MI) (b : Nat) {c : Nat} (h : c < 14 ∨ 44 ≤ c) : ∀ k, k ≤ 30 → setlM σ b k c = σ c
  | 0, _ => rfl
  | k + 1, hk => by
    rw [setlM]
    split
    · rw [s2_nk _ _ _ (by omega), setlM_lo σ b h k (by omega)]
    · exact setlM_lo σ b h k (by omega)
theorem zc_close (h : zA σ τ μ) : clR σ = mClR μ ∧ zA (clM σ) (clT σ τ) (mClM μ) := by
  obtain ⟨b, hb2, hb, hR⟩ := zA_R h
  have h0 := hR.2.2.1.1
  have h9 := hR.2.2.1.2.2.2.1
  have r9 := h9
  unfold rg at h0 r9
  have c9 := clampI (μ 2 609)
  have e35 : (35 : Int32).toInt = 35 := rfl
  unfold clR clM clT mClR mClM
  rw [hb, hR.1.1, hR.2.1.1, kmin_eq (by exact h9.2)]
  by_cases c : μ 2 0 = 35
  · have hn : ¬ μ 2 0 < 35 := by rw [c]; decide
    rw [if_pos c, if_pos c, if_neg hn, if_neg hn, if_neg hn]
    exact ⟨rfl, zA_0 h 0⟩
  · have hlt : (μ 2 0).toInt < 35 := by
      have : (μ 2 0).toInt ≠ 35 := fun w => c ((i_eq _ _).mpr (by rw [w, e35]))
      omega
    have hl : μ 2 0 < 35 := by rw [i_lt]; omega
    rw [if_neg c, if_neg c, if_pos hl, if_pos hl, if_pos hl]
    have s2e := sn2 μ
    have hM := z_closeM (ρ := snS (s2 μ 0 0 0)) hb2 (by rw [s2e]; exact hR) (by rw [s2e]; exact hlt) 3 0 0 0 0
    rw [s2e] at hM
    refine ⟨hM.2, ?_⟩
    have lo : ∀ k, k < 12 → s2 (setlM σ b (μ 2 609).toNatClampNeg) (44 + 57 * b) 0 (μ 2 0 + 1) k = σ k := fun k hk => by
      rw [s2_nk _ _ _ (by omega), setlM_lo σ b (by omega) _ (by omega)]
    have e2 : s2 (mcl (snS (s2 μ 0 0 0)) (μ 2 609).toNatClampNeg) 2 0 (μ 2 0 + 1) 2 = upd (mcl (snS (s2 μ 0 0 0)) (μ 2 609).toNatClampNeg 2) 0 (μ 2 0 + 1) := s2_k _ _ _ _
    have em : ∀ k, k ≠ 2 → s2 (mcl (snS (s2 μ 0 0 0)) (μ 2 609).toNatClampNeg) 2 0 (μ 2 0 + 1) k = snS (s2 μ 0 0 0) k := fun k hk => by rw [s2_nk _ _ _ hk, mcl_ne _ hk]
    refine zA_gen h (fun k hk => ?_) (fun b' hb2' hb' hR' => ?_) (fun hH hX => ?_) ?_ (fun j h0 h16 => ?_)
    · rw [keepS_ne _ _ _ _ _ _ (by omega), lo k (by omega)]
    · have : b' = b := by rw [← hb', ← hb]
      subst this
      rw [e2]
      exact hM.1
    · refine zH_act hH hX (fun k _ hk => lo k (by omega)) (fun k _ hk => rfl) (em 4 (by decide)) (by rw [em 0 (by decide)]) ?_
      rw [e2]
      refine Or.inr (Or.inr (Or.inr ⟨rfl, h0.1, hlt, r9.2, upd_hit _ _ _, fun j w1 w2 => ?_, fun d hd => ?_⟩))
      · rw [upd_miss _ _ w1, mcl_lo _ w2, s2e]
      · have sh := mcl_shape (snS (s2 μ 0 0 0)) (μ 2 609).toNatClampNeg d
        rw [s2e] at sh
        refine ⟨fun e he => by rw [upd_miss _ _ (by omega)]; exact sh.1 e he, ?_⟩
        rw [upd_miss _ _ (by omega), upd_miss _ _ (by omega)]
        rcases sh.2 with w | w
        · exact Or.inl ⟨w.2.1, w.2.2⟩
        · refine Or.inr ⟨?_, w.2.2⟩
          have hx := hX.2 d hd
          have := w.2.1
          rw [hx.1] at this
          by_cases e : μ 2 (610 + 9 * d + 7) = -1
          · exact e
          · rw [if_neg e] at this
            exact absurd rfl this
    · rw [em 1 (by decide), sn1']
    · rw [em 0 (by decide), sn0 μ h0 h16]
theorem zc_undo (h : zA σ τ μ) : unR σ τ = mUnR μ ∧ zA (unM σ τ) (unT σ τ) (mUnM μ) := by
  obtain ⟨b, t, hb2, hb0, hb1, hT, hF, hR, hH, h67⟩ := id h
  obtain ⟨q1, q2, q3, q4, q5, q6⟩ := z_undo hb2 hb0 hR hH
  refine ⟨q1, zA_gen h q4 (fun b' hb2' hb' hR' => ?_) (fun _ _ => q3) (q5 1 (by decide) (by decide)) q6⟩
  have : b' = b := by rw [← hb', ← hb0]
  subst this
  exact q2
end EVE
