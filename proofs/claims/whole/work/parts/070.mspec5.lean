/-! ===== rows that agree ===== -/
theorem fb_si_succ (f : Nat → Int) (n : Nat) : fb_si f (n + 1) = fb_si f n + f n := rfl
theorem fb_si_cong' {f g : Nat → Int} (n : Nat) (h : ∀ k, k < n → f k = g k) : fb_si f n = fb_si g n := by
  induction n with
  | zero => rfl
  | succ n ih => rw [fb_si_succ, fb_si_succ, ih (fun k hk => h k (by omega)), h n (by omega)]
theorem CI_a8 {f g : Nat → Int32} {c : Nat} (h : ∀ j, j < 610 → g j = f j) (hc : c < 6) (n : Nat) (hn : n ≤ 6) : fb_si (fun k => (g (495 + 19 * c + (7 + 2 * k))).toInt) n = fb_si (fun k => (f (495 + 19 * c + (7 + 2 * k))).toInt) n :=
  fb_si_cong' n (fun k hk => congrArg Int32.toInt (h _ (by omega)))
theorem CI_a7 {f g : Nat → Int32} (h : ∀ j, j < 610 → g j = f j) (h0 : rg (f 0) 0 35) (h1 : rg (f 1) 0 6) {c : Nat} (hc : c < 6) (b2 : rg (f (495 + 19 * c + 2)) 0 (f 0).toInt) (b6 : rg (f (495 + 19 * c + 6)) 0 6)
    (a7 : ∀ k : Nat, (k : Int) < (f (495 + 19 * c + 6)).toInt → rg (f (495 + 19 * c + (7 + 2 * k))) 0 1000 ∧ 0 ≤ (f (495 + 19 * c + (8 + 2 * k))).toInt ∧ (f (495 + 19 * c + (8 + 2 * k))).toInt < (f 1).toInt ∧ f (218 + 36 * (f (495 + 19 * c + (8 + 2 * k))).toNatClampNeg + (f (495 + 19 * c + 2)).toNatClampNeg) ≠ 0) :
    ∀ k : Nat, (k : Int) < (g (495 + 19 * c + 6)).toInt → rg (g (495 + 19 * c + (7 + 2 * k))) 0 1000 ∧ 0 ≤ (g (495 + 19 * c + (8 + 2 * k))).toInt ∧ (g (495 + 19 * c + (8 + 2 * k))).toInt < (g 1).toInt ∧ g (218 + 36 * (g (495 + 19 * c + (8 + 2 * k))).toNatClampNeg + (g (495 + 19 * c + 2)).toNatClampNeg) ≠ 0 := by
  intro k hk
  have e6 : g (495 + 19 * c + 6) = f (495 + 19 * c + 6) := h _ (by omega)
  have e2 : g (495 + 19 * c + 2) = f (495 + 19 * c + 2) := h _ (by omega)
  have g1 : g 1 = f 1 := h 1 (by omega)
  rw [e6] at hk
  obtain ⟨x1, x2, x3, x4⟩ := a7 k hk
  have hk6 : k < 6 := by have := b6.2; omega
  have e7 : g (495 + 19 * c + (7 + 2 * k)) = f (495 + 19 * c + (7 + 2 * k)) := h _ (by omega)
  have e8 : g (495 + 19 * c + (8 + 2 * k)) = f (495 + 19 * c + (8 + 2 * k)) := h _ (by omega)
  rw [e7, e8, e2, g1]
  refine ⟨x1, x2, x3, ?_⟩
  have y1 : (f (495 + 19 * c + (8 + 2 * k))).toNatClampNeg < 6 := by
    have := clampI (f (495 + 19 * c + (8 + 2 * k)))
    have := h1.2
    omega
  have y2 : (f (495 + 19 * c + 2)).toNatClampNeg < 36 := by
    have := clampI (f (495 + 19 * c + 2))
    have := b2.2
    have := h0.2
    omega
  rw [h _ (by omega)]
  exact x4
theorem CI_agree {f g : Nat → Int32} (h : ∀ j, j < 610 → g j = f j) (h0 : rg (f 0) 0 35) (h1 : rg (f 1) 0 6) {c : Nat} (hc : c < 6) (q : CI f c) : CI g c := by
  obtain ⟨a0, a1, a2, a3, a4, a5, a6, a7, a8⟩ := q
  have z6 : (f (495 + 19 * c + 6)).toNatClampNeg ≤ 6 := by
    have := clampI (f (495 + 19 * c + 6))
    have := a6.2
    omega
  have g0 : g 0 = f 0 := h 0 (by omega)
  have e0 : g (495 + 19 * c + 0) = f (495 + 19 * c + 0) := h _ (by omega)
  have e1 : g (495 + 19 * c + 1) = f (495 + 19 * c + 1) := h _ (by omega)
  have e2 : g (495 + 19 * c + 2) = f (495 + 19 * c + 2) := h _ (by omega)
  have e3 : g (495 + 19 * c + 3) = f (495 + 19 * c + 3) := h _ (by omega)
  have e4 : g (495 + 19 * c + 4) = f (495 + 19 * c + 4) := h _ (by omega)
  have e5 : g (495 + 19 * c + 5) = f (495 + 19 * c + 5) := h _ (by omega)
  have e6 : g (495 + 19 * c + 6) = f (495 + 19 * c + 6) := h _ (by omega)
  have a7' := CI_a7 h h0 h1 hc a2 a6 a7
  have a8' := CI_a8 h hc _ z6
  refine ⟨by rw [e0]; exact a0, by rw [e1]; exact a1, by rw [e2, g0]; exact a2, by rw [e3]; exact a3, by rw [e4]; exact a4, by rw [e5]; exact a5, by rw [e6]; exact a6, a7', ?_⟩
  rw [e6, e1, a8']
  exact a8
theorem DI_agree {f g : Nat → Int32} (h : ∀ j, j < 610 → g j = f j) (h494 : rg (f 494) 0 6) {d : Nat} (q : DI f d) (hd : g (610 + 9 * d + 0) = f (610 + 9 * d + 0) ∧ g (610 + 9 * d + 2) = f (610 + 9 * d + 2) ∧ g (610 + 9 * d + 3) = f (610 + 9 * d + 3) ∧ g (610 + 9 * d + 4) = f (610 + 9 * d + 4) ∧ g (610 + 9 * d + 5) = f (610 + 9 * d + 5) ∧ rg (g (610 + 9 * d + 6)) 0 1 ∧ rg (g (610 + 9 * d + 7)) (-1) 35) : DI g d := by
  obtain ⟨e0, e2, e3, e4, e5, e6, e7⟩ := hd
  obtain ⟨q0, q1, q2, q3, q4, q5, q6, -, -⟩ := q
  unfold rg at h494
  have hcl := clampI (f (610 + 9 * d + 0))
  have g4 : g 494 = f 494 := h 494 (by omega)
  refine ⟨by rw [e0]; exact q0, ?_, ?_, by rw [e4]; exact q3, by rw [e2]; exact q4, by rw [e3]; exact q5, by rw [e5]; exact q6, e6, e7⟩
  · rw [e0, g4]; exact q1
  · rw [e0, e4, h (495 + 19 * (f (610 + 9 * d + 0)).toNatClampNeg + 2) (by omega)]; exact q2
theorem RI_slots {f g : Nat → Int32} (hR : RI f) (h : ∀ j, j < 610 → g j = f j)
    (hd : ∀ d : Nat, (d : Int) < (f 609).toInt → g (610 + 9 * d + 0) = f (610 + 9 * d + 0) ∧ g (610 + 9 * d + 2) = f (610 + 9 * d + 2) ∧ g (610 + 9 * d + 3) = f (610 + 9 * d + 3) ∧ g (610 + 9 * d + 4) = f (610 + 9 * d + 4) ∧ g (610 + 9 * d + 5) = f (610 + 9 * d + 5) ∧ rg (g (610 + 9 * d + 6)) 0 1 ∧ rg (g (610 + 9 * d + 7)) (-1) 35) : RI g := by
  have hc6 := hR.2.2.1
  unfold rg at hc6
  refine ⟨?_, ?_, ?_, ?_, ?_, ?_, ?_, ?_⟩
  · rw [h 0 (by omega)]; exact hR.1
  · rw [h 1 (by omega)]; exact hR.2.1
  · rw [h 494 (by omega)]; exact hR.2.2.1
  · rw [h 609 (by omega)]; exact hR.2.2.2.1
  · intro a b ha hb
    rw [h _ (by omega), h _ (by omega)]
    exact hR.2.2.2.2.1 a b ha hb
  · intro a ha
    rw [h _ (by omega)]
    have hb := hR.base ha
    unfold rg at hb
    refine ⟨hR.base ha, fun k hk => ?_⟩
    rw [h _ (by omega), h _ (by omega), h _ (by omega)]
    exact hR.reb ha hk
  · intro c hc
    rw [h 494 (by omega)] at hc
    exact CI_agree h hR.1 hR.2.1 (by omega) (hR.con hc)
  · intro d hd9
    rw [h 609 (by omega)] at hd9
    exact DI_agree h hR.2.2.1 (hR.del hd9) (hd d hd9)
theorem RI_agree {f g : Nat → Int32} (hR : RI f) (h : ∀ j, j < 610 + 9 * (f 609).toNatClampNeg → g j = f j) : RI g := by
  refine RI_slots hR (fun j hj => h j (by omega)) (fun d hd => ?_)
  have hcl := clampI (f 609)
  have q := hR.del hd
  rw [h _ (by omega), h _ (by omega), h _ (by omega), h _ (by omega), h _ (by omega), h _ (by omega), h _ (by omega)]
  exact ⟨rfl, rfl, rfl, rfl, rfl, q.2.2.2.2.2.2.2.1, q.2.2.2.2.2.2.2.2⟩
theorem kn_cong {f g : Nat → Int32} : ∀ n, (∀ j, j < n → g j = f j) → kn g n = kn f n
  | 0, _ => rfl
  | n + 1, h => by rw [kn, kn, h n (by omega), kn_cong n (fun j hj => h j (by omega))]
theorem mrP_cong {f g : Nat → Int32} {i : Nat} (a z : Int32) (u d : Int64) : ∀ k, (∀ j, j < 434 + 10 * i + 1 + 3 * k → 434 + 10 * i ≤ j → g j = f j) → mrP g i a z u d k = mrP f i a z u d k
  | 0, _ => rfl
  | k + 1, h => by
    rw [mrP, mrP, mrP_cong a z u d k (fun j hj h2 => h j (by omega) h2), h _ (by omega) (by omega), h _ (by omega) (by omega), h _ (by omega) (by omega)]
theorem mPri_agree {f g : Nat → Int32} (hR : RI f) {c n : Nat} (hC : (c : Int) < (f 494).toInt) (hn : n ≤ 36) (hb : (f (495 + 19 * c + 2)).toInt < n) (h : ∀ j, j < 609 → g j = f j) : mPri g c n = mPri f c n ∧ mMov g c n = mMov f c n ∧ mFac g c n = mFac f c n := by
  have hc6 := hR.2.2.1
  have q := hR.con hC
  have q6 := q.2.2.2.2.2.2.1
  have q1 := hR.2.1
  have qb := q.2.2.1
  unfold rg at hc6 q6 q1 qb
  have hcb := clampI (f (495 + 19 * c + 2))
  have hc6' := clampI (f (495 + 19 * c + 6))
  have hP : ∀ k : Nat, (k : Int) ≤ (f (495 + 19 * c + 6)).toInt → mfP g c n k = mfP f c n k := by
    intro k
    induction k with
    | zero => intro _; rw [mfP, mfP, h _ (by omega)]
    | succ k ih =>
      intro hk
      obtain ⟨g1, g2, g3, g4⟩ := q.2.2.2.2.2.2.2.1 k (by omega)
      have hcx := clampI (f (495 + 19 * c + (8 + 2 * k)))
      have hx6 : (f (495 + 19 * c + (8 + 2 * k))).toNatClampNeg < 6 := by omega
      have hb5 := hR.base hx6
      unfold rg at hb5
      have hc5 := clampI (f (434 + 10 * (f (495 + 19 * c + (8 + 2 * k))).toNatClampNeg))
      have ekn : mKn g (f (495 + 19 * c + (8 + 2 * k))).toNatClampNeg n = mKn f (f (495 + 19 * c + (8 + 2 * k))).toNatClampNeg n := kn_cong n (fun j hj => h _ (by omega))
      have hvk := clampN (mKn_ge (n := n) g4 (by omega) hn)
      have hrat : mRat g (f (495 + 19 * c + (8 + 2 * k))).toNatClampNeg (f (495 + 19 * c + 2)) (mKn f (f (495 + 19 * c + (8 + 2 * k))).toNatClampNeg n) = mRat f (f (495 + 19 * c + (8 + 2 * k))).toNatClampNeg (f (495 + 19 * c + 2)) (mKn f (f (495 + 19 * c + (8 + 2 * k))).toNatClampNeg n) := by
        generalize (f (495 + 19 * c + (8 + 2 * k))).toNatClampNeg = ix at *
        generalize mKn f ix n = z at *
        unfold mRat
        rw [h (434 + 10 * ix) (by omega), h (2 + 36 * ix + z.toNatClampNeg) (by omega), h (2 + 36 * ix + (f (495 + 19 * c + 2)).toNatClampNeg) (by omega), mrP_cong (f := f) (g := g) _ _ _ _ _ (fun j hj h2 => h j (by omega))]
      rw [mfP, mfP, ih (by omega), h (495 + 19 * c + (7 + 2 * k)) (by omega), h (495 + 19 * c + (8 + 2 * k)) (by omega), h (495 + 19 * c + 2) (by omega), ekn, hrat]
  have hF : mFac g c n = mFac f c n := by
    unfold mFac
    rw [h (495 + 19 * c + 6) (by omega), hP _ (by omega)]
  have hM : mMov g c n = mMov f c n := by
    unfold mMov
    rw [h (495 + 19 * c + 3) (by omega), h (495 + 19 * c + 4) (by omega), h (495 + 19 * c + 5) (by omega), hF]
  refine ⟨?_, hM, hF⟩
  unfold mPri
  rw [h (495 + 19 * c + 0) (by omega), hM]
/-! rebase -/
def mRbC (f : Nat → Int32) (x m v : Int32) : Int32 := if mIn x 0 (f 1 - 1) = true then (if mIn m 0 (f 0) = true then (if mIn v 1 999 = true then (if f (218 + 36 * x.toNatClampNeg + m.toNatClampNeg) = 2 then (if m ≤ mLate f x.toNatClampNeg then -3 else if mKn f x.toNatClampNeg 36 ≤ m then (if f (434 + 10 * x.toNatClampNeg) = 3 then -4 else 1) else -3) else -2) else -1) else -1) else -1
def mRbR (f : Nat → Int32) (x m v : Int32) : Int32 := if mRbC f x m v = 1 then f (434 + 10 * x.toNatClampNeg) + 1 else mRbC f x m v
def mRbM (σ : MI) (x m v : Int32) : MI := if mRbC (σ 2) x m v = 1 then s2 (s2 (s2 (s2 (snS (s2 σ 0 0 0)) 2 (434 + 10 * x.toNatClampNeg + 1 + 3 * (σ 2 (434 + 10 * x.toNatClampNeg)).toNatClampNeg + 0) m) 2 (434 + 10 * x.toNatClampNeg + 1 + 3 * (σ 2 (434 + 10 * x.toNatClampNeg)).toNatClampNeg + 1) (σ 2 (2 + 36 * x.toNatClampNeg + m.toNatClampNeg))) 2 (434 + 10 * x.toNatClampNeg + 1 + 3 * (σ 2 (434 + 10 * x.toNatClampNeg)).toNatClampNeg + 2) v) 2 (434 + 10 * x.toNatClampNeg) (σ 2 (434 + 10 * x.toNatClampNeg) + 1) else s2 σ 0 0 0
theorem n41 : ¬ (-4 : Int32) = 1 := by decide
theorem ixR {x y J : Int32} (J' : Nat) {a n : Nat} (hJ : J = nI J') (ea : x.toNatClampNeg = a) (vx : vp_in x 6) (en : y.toNatClampNeg = n) (vy : vp_in y 4) : 434 + 10 * x + J + 3 * y = nI (434 + 10 * a + J' + 3 * n) := by
  rw [show (434 : Int32) = nI 434 from rfl, show (10 : Int32) = nI 10 from rfl, show (3 : Int32) = nI 3 from rfl, hJ, vpn vx ea, vpn vy en]
  simp only [pk_mul, nI_add]
/-! deliver -/
def mDvC (f : Nat → Int32) (q du n : Int32) : Bool := if mIn q 0 (f 494 - 1) = true then (if mIn du (f (495 + 19 * q.toNatClampNeg + 2)) (f 0) = true then (if mIn n 1 999 = true then true else false) else false) else false
def mDvA (f : Nat → Int32) (q du : Int32) : Int32 := if mPri f q.toNatClampNeg ((f 0).toNatClampNeg + 1) < mPri f q.toNatClampNeg (du.toNatClampNeg + 1) then f 0 else du
def mDv (σ : MI) (q du n a : Int32) : MI := s2 (s2 (s2 (s2 (s2 (s2 (s2 (s2 (s2 (s2 (snS (s2 σ 0 0 0)) 2 (610 + 9 * (σ 2 609).toNatClampNeg + 0) q) 2 (610 + 9 * (σ 2 609).toNatClampNeg + 1) du) 2 (610 + 9 * (σ 2 609).toNatClampNeg + 2) (σ 2 0)) 2 (610 + 9 * (σ 2 609).toNatClampNeg + 3) n) 2 (610 + 9 * (σ 2 609).toNatClampNeg + 4) a) 2 (610 + 9 * (σ 2 609).toNatClampNeg + 5) (mPri (σ 2) q.toNatClampNeg (a.toNatClampNeg + 1))) 2 (610 + 9 * (σ 2 609).toNatClampNeg + 6) 0) 2 (610 + 9 * (σ 2 609).toNatClampNeg + 7) (-1)) 2 (610 + 9 * (σ 2 609).toNatClampNeg + 8) 0) 2 609 (σ 2 609 + 1)
def mDvR (f : Nat → Int32) (q du n : Int32) : Int32 := if mDvC f q du n = true then (if f 609 = 30 then -2 else f 609) else -1
def mDvM (σ : MI) (q du n : Int32) : MI := if mDvC (σ 2) q du n = true then (if σ 2 609 = 30 then s2 σ 0 0 0 else mDv σ q du n (mDvA (σ 2) q du)) else s2 σ 0 0 0
theorem ixD {x J : Int32} (J' : Nat) {a : Nat} (hJ : J = nI J') (ea : x.toNatClampNeg = a) (vx : vp_in x 30) : 610 + 9 * x + J = nI (610 + 9 * a + J') := by
  rw [show (610 : Int32) = nI 610 from rfl, show (9 : Int32) = nI 9 from rfl, hJ, vpn vx ea]
  simp only [pk_mul, nI_add]
/-! close -/
def mclT (f : Nat → Int32) (k : Nat) : Int32 := ((f (610 + 9 * k + 3)).toInt64 * (mPri f (f (610 + 9 * k + 0)).toNatClampNeg ((f (610 + 9 * k + 4)).toNatClampNeg + 1)).toInt64 - mBil f k).toInt32
def mclC (f : Nat → Int32) (k : Nat) : Bool := if f (610 + 9 * k + 6) = 1 then false else if mWai f k = 0 then true else false
def mcl (ρ : MI) : Nat → MI
  | 0 => ρ
  | k + 1 => if mclC (mcl ρ k 2) k = true then s2 (s2 (s2 (mcl ρ k) 2 (610 + 9 * k + 6) 1) 2 (610 + 9 * k + 7) (mcl ρ k 2 0)) 2 (610 + 9 * k + 8) (mclT (mcl ρ k 2) k) else mcl ρ k
def mclN (ρ : MI) : Nat → Int32
  | 0 => 0
  | k + 1 => if mclC (mcl ρ k 2) k = true then mclN ρ k + 1 else mclN ρ k
def mClM (σ : MI) : MI := if σ 2 0 = 35 then s2 σ 0 0 0 else s2 (mcl (snS (s2 σ 0 0 0)) (σ 2 609).toNatClampNeg) 2 0 (σ 2 0 + 1)
def mClR (σ : MI) : Int32 := if σ 2 0 = 35 then -1 else mclN (snS (s2 σ 0 0 0)) (σ 2 609).toNatClampNeg
theorem mcl_lo (ρ : MI) {j : Nat} (h : j < 610) : ∀ k, mcl ρ k 2 j = ρ 2 j
  | 0 => rfl
  | k + 1 => by
    rw [mcl]
    split
    · rw [s2_nj _ _ _ (by omega), s2_nj _ _ _ (by omega), s2_nj _ _ _ (by omega), mcl_lo ρ h k]
    · exact mcl_lo ρ h k
theorem mcl_ne (ρ : MI) {j : Nat} (h : j ≠ 2) : ∀ k, mcl ρ k j = ρ j
  | 0 => rfl
  | k + 1 => by
    rw [mcl]
    split
    · rw [s2_nk _ _ _ h, s2_nk _ _ _ h, s2_nk _ _ _ h, mcl_ne ρ h k]
    · exact mcl_ne ρ h k
theorem RI_w2 {f g : Nat → Int32} (hR : RI f) {k : Nat} (h6 : rg (g (610 + 9 * k + 6)) 0 1) (h7 : rg (g (610 + 9 * k + 7)) (-1) 35) (h : ∀ j, j ≠ 610 + 9 * k + 6 → j ≠ 610 + 9 * k + 7 → j ≠ 610 + 9 * k + 8 → g j = f j) : RI g := by
  refine RI_slots hR (fun j hj => h j (by omega) (by omega) (by omega)) (fun d hd => ?_)
  have q := hR.del hd
  rw [h (610 + 9 * d + 0) (by omega) (by omega) (by omega), h (610 + 9 * d + 2) (by omega) (by omega) (by omega), h (610 + 9 * d + 3) (by omega) (by omega) (by omega), h (610 + 9 * d + 4) (by omega) (by omega) (by omega), h (610 + 9 * d + 5) (by omega) (by omega) (by omega)]
  refine ⟨rfl, rfl, rfl, rfl, rfl, ?_⟩
  by_cases e : d = k
  · subst e; exact ⟨h6, h7⟩
  · rw [h (610 + 9 * d + 6) (by omega) (by omega) (by omega), h (610 + 9 * d + 7) (by omega) (by omega) (by omega)]
    exact ⟨q.2.2.2.2.2.2.2.1, q.2.2.2.2.2.2.2.2⟩
theorem mcl_RI {ρ : MI} (hR : RI (ρ 2)) : ∀ k : Nat, (k : Int) ≤ (ρ 2 609).toInt → RI (mcl ρ k 2)
  | 0, _ => hR
  | k + 1, hk => by
    have ih := mcl_RI hR k (by omega)
    rw [mcl]
    split
    · have h0 := ih.1
      unfold rg at h0
      refine RI_w2 (k := k) ih ?_ ?_ ?_
      · rw [s2_nj _ _ _ (by omega), s2_nj _ _ _ (by omega), s2_eq]; exact ⟨by decide, by decide⟩
      · rw [s2_nj _ _ _ (by omega), s2_eq]; unfold rg; omega
      · intro j h6 h7 h8
        rw [s2_nj _ _ _ h8, s2_nj _ _ _ h7, s2_nj _ _ _ h6]
    · exact ih
