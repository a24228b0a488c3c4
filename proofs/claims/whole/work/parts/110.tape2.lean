/-! ===== the tape: bytes of both, feed ===== -/
def zb (x y : Int32) : Prop := 0 ≤ y.toInt ∧ y.toInt ≤ 255 ∧ x.toInt = if y.toInt < 128 then y.toInt else y.toInt - 256
theorem z_shr (x s : Int32) {n : Nat} (hs : (s.toBitVec.smod 32).toNat = n) : (x >>> s).toInt = x.toInt / ((2 ^ n : Nat) : Int) := by
  have h : (x >>> s).toBitVec = x.toBitVec.sshiftRight n := by rw [Int32.toBitVec_shiftRight, BitVec.sshiftRight', hs]
  rw [← Int32.toInt_toBitVec, h, BitVec.toInt_sshiftRight, Int.shiftRight_eq_div_pow]
  rfl
theorem z_ushr (x : Int32) (s : UInt32) {n : Nat} (hs : s.toNat % 32 = n) : ((x.toUInt32 >>> s).toInt32 &&& 255).toInt = ((x.toUInt32.toNat / 2 ^ n % 256 : Nat) : Int) := by
  have h1 : ((x.toUInt32 >>> s).toInt32 &&& 255).toBitVec.toNat = x.toUInt32.toNat / 2 ^ n % 256 := by
    rw [Int32.toBitVec_and, BitVec.toNat_and, UInt32.toBitVec_toInt32, UInt32.toNat_toBitVec, UInt32.toNat_shiftRight, hs, Nat.shiftRight_eq_div_pow]
    exact Nat.and_two_pow_sub_one_eq_mod _ 8
  rw [← Int32.toInt_toBitVec, BitVec.toInt_eq_toNat_cond, h1, if_pos (by omega)]
theorem z_u32 (x : Int32) : (x.toUInt32.toNat : Int) = if x.toInt < 0 then x.toInt + 4294967296 else x.toInt := by
  have h : x.toInt = if 2 * x.toUInt32.toNat < 2 ^ 32 then (x.toUInt32.toNat : Int) else (x.toUInt32.toNat : Int) - ((2 ^ 32 : Nat) : Int) := BitVec.toInt_eq_toNat_cond x.toBitVec
  have hl : x.toUInt32.toNat < 2 ^ 32 := x.toUInt32.toNat_lt
  have e : ((2 ^ 32 : Nat) : Int) = 4294967296 := rfl
  rw [e] at h
  split at h <;> split <;> omega
theorem bmod256 (z : Int) : (z.bmod 256 = z % 256 ∧ z % 256 < 128) ∨ (z.bmod 256 = z % 256 - 256 ∧ 128 ≤ z % 256) := by
  have := Int.bmod_def z 256
  omega
theorem z_byte (x : Int32) {k : Nat} (hk : k < 4) : zb (x >>> (shf k &&& 31)).toInt8.toInt32.toInt8.toInt32 ((x.toUInt32 >>> ((shf k).toUInt32 &&& Int32.toUInt32 31)).toInt32 &&& 255) := by
  have aux : ∀ (s : Int32) (u : UInt32) (n : Nat), n = 0 ∨ n = 8 ∨ n = 16 ∨ n = 24 → (s.toBitVec.smod 32).toNat = n → u.toNat % 32 = n → zb (x >>> s).toInt8.toInt32.toInt8.toInt32 ((x.toUInt32 >>> u).toInt32 &&& 255) := by
    intro s u n hn h1 h2
    have ea := z_shr x s h1
    have eb := z_ushr x u h2
    have eu := z_u32 x
    have hr := fb_rng x
    unfold zb
    rw [eb, Int8.toInt_toInt32, Int32.toInt_toInt8, Int8.toInt_toInt32, Int32.toInt_toInt8, ea]
    rw [show ((x.toInt / ((2 ^ n : Nat) : Int)).bmod (2 ^ 8)).bmod (2 ^ 8) = (x.toInt / ((2 ^ n : Nat) : Int)).bmod 256 from Int.bmod_bmod]
    have hb := bmod256 (x.toInt / ((2 ^ n : Nat) : Int))
    rcases hn with rfl | rfl | rfl | rfl
    · simp only [show ((2 ^ 0 : Nat) : Int) = 1 from rfl, show (2 : Nat) ^ 0 = 1 from rfl] at hb ⊢
      split at eu <;> (split <;> omega)
    · simp only [show ((2 ^ 8 : Nat) : Int) = 256 from rfl, show (2 : Nat) ^ 8 = 256 from rfl] at hb ⊢
      split at eu <;> (split <;> omega)
    · simp only [show ((2 ^ 16 : Nat) : Int) = 65536 from rfl, show (2 : Nat) ^ 16 = 65536 from rfl] at hb ⊢
      split at eu <;> (split <;> omega)
    · simp only [show ((2 ^ 24 : Nat) : Int) = 16777216 from rfl, show (2 : Nat) ^ 24 = 16777216 from rfl] at hb ⊢
      split at eu <;> (split <;> omega)
  rcases (by omega : k = 0 ∨ k = 1 ∨ k = 2 ∨ k = 3) with rfl | rfl | rfl | rfl
  · exact aux _ _ 24 (by omega) (by decide) (by decide)
  · exact aux _ _ 16 (by omega) (by decide) (by decide)
  · exact aux _ _ 8 (by omega) (by decide) (by decide)
  · exact aux _ _ 0 (by omega) (by decide) (by decide)
def zT (σ μ : MI) (t : Nat) : Prop := t ≤ 740 ∧ σ 2 1 = nI t ∧ μ 0 2 = nI t ∧ ∀ j, j < t → zb (σ 3 j) (μ 1 j)
theorem z_app {σ μ : MI} {t : Nat} (h : zT σ μ t) (ht : t + 4 ≤ 740) (x : Int32) : ∀ k, k ≤ 4 → zT (apS σ x k) (lyS μ x k) (t + k)
  | 0, _ => h
  | k + 1, hk => by
    obtain ⟨i1, i2, i3, i4⟩ := z_app h ht x k (by omega)
    have e7 : (740 : Int32).toInt = 740 := rfl
    rw [apS, lyS, i2, i3, if_neg (by rw [i_lt, nI_toInt (by omega), z0]; omega), if_neg (by rw [i_le, nI_toInt (by omega)]; omega), nI_clamp (by omega), nI_1]
    refine ⟨by omega, s2_eq _ _ _ _, s2_eq _ _ _ _, fun j hj => ?_⟩
    rw [s2_nk _ _ _ (show 3 ≠ 2 by decide), s2_nk _ _ _ (show 1 ≠ 0 by decide)]
    by_cases e : j = t + k
    · subst e
      rw [s2_eq, s2_eq]
      exact z_byte x (by omega)
    · rw [s2_nj _ _ _ e, s2_nj _ _ _ e]
      exact i4 j (by omega)
theorem apS_2 (σ : MI) (x : Int32) {j : Nat} (h : j ≠ 1) : ∀ n, apS σ x n 2 j = σ 2 j
  | 0 => rfl
  | n + 1 => by
    rw [apS]
    split
    · exact apS_2 σ x h n
    · split
      · exact apS_2 σ x h n
      · rw [s2_nj _ _ _ h, s2_nk _ _ _ (by decide), apS_2 σ x h n]
theorem lyS_0 (σ : MI) (x : Int32) {j : Nat} (h : j ≠ 2) : ∀ n, lyS σ x n 0 j = σ 0 j
  | 0 => rfl
  | n + 1 => by rw [lyS, s2_nj _ _ _ h, s2_nk _ _ _ (by decide), lyS_0 σ x h n]
theorem zT_0 {σ μ : MI} {t : Nat} (h : zT σ μ t) (v : Int32) : zT σ (s2 μ 0 0 v) t := by
  obtain ⟨h1, h2, h3, h4⟩ := h
  exact ⟨h1, h2, by rw [s2_nj _ _ _ (by decide)]; exact h3, fun j hj => by rw [s2_nk _ _ _ (by decide)]; exact h4 j hj⟩
theorem z_feed {σ μ : MI} {t : Nat} (h : zT σ μ t) (a b c d e : Int32) : feR σ a b c d e = mfR μ a b c d e ∧ ∃ t', zT (feM σ a b c d e) (mfM μ a b c d e) t' := by
  have hT := h
  obtain ⟨h1, h2, h3, h4⟩ := h
  unfold feR feM mfR mfM
  have e20 : nI t + 20 = nI (t + 20) := by rw [show (20 : Int32) = nI 20 from rfl, nI_add]
  rw [h2, h3, e20]
  by_cases hle : nI (t + 20) ≤ 740
  · rw [if_pos hle, if_pos hle, if_pos hle, if_pos hle]
    rw [i_le, nI_toInt (by omega)] at hle
    have e7 : (740 : Int32).toInt = 740 := rfl
    have q0 := zT_0 hT 0
    have q1 := z_app q0 (by omega) a 4 (by omega)
    have q2 := z_app q1 (by omega) b 4 (by omega)
    have q3 := z_app q2 (by omega) c 4 (by omega)
    have q4 := z_app q3 (by omega) d 4 (by omega)
    have q5 := z_app q4 (by omega) e 4 (by omega)
    exact ⟨by rw [q5.2.1, q5.2.2.1], _, q5⟩
  · rw [if_neg hle, if_neg hle, if_neg hle, if_neg hle]
    exact ⟨rfl, t, zT_0 hT 0⟩
theorem z_end {σ μ : MI} {t : Nat} (h : zT σ μ t) (n : Int32) : (if n < 0 then false else if n ≤ σ 2 1 then true else false) = (if n < 0 then false else if n ≤ μ 0 2 then true else false) ∧ ∃ t', zT (if n < 0 then σ else if n ≤ σ 2 1 then s2 σ 2 1 n else σ) (if n < 0 then s2 μ 0 0 0 else if n ≤ μ 0 2 then s2 (s2 μ 0 0 0) 0 2 n else s2 μ 0 0 0) t' := by
  have hT := zT_0 h 0
  obtain ⟨h1, h2, h3, h4⟩ := h
  rw [h2, h3]
  refine ⟨rfl, ?_⟩
  by_cases a : n < 0
  · rw [if_pos a, if_pos a]; exact ⟨t, hT⟩
  · rw [if_neg a, if_neg a]
    by_cases b : n ≤ nI t
    · rw [if_pos b, if_pos b]
      rw [i_lt, z0] at a
      rw [i_le, nI_toInt (by omega)] at b
      have hc := clampI n
      refine ⟨n.toNatClampNeg, by omega, ?_, ?_, fun j hj => ?_⟩
      · rw [s2_eq]; exact eq_nI (by omega)
      · rw [s2_eq]; exact eq_nI (by omega)
      · rw [s2_nk _ _ _ (by decide), s2_nk _ _ _ (by decide), s2_nk _ _ _ (by decide)]; exact h4 j (by omega)
    · rw [if_neg b, if_neg b]; exact ⟨t, hT⟩
/-! words as numbers -/
def hsh (f : Nat → Int32) (s : Nat) : Nat → Int64
  | 0 => 0
  | k + 1 => 27 * hsh f s k + (f (s + k)).toInt64 - 96
def hZ' (f : Nat → Int32) (s : Nat) : Nat → Int
  | 0 => 0
  | k + 1 => 27 * hZ' f s k + (f (s + k)).toInt - 96
theorem hZ_b (f : Nat → Int32) (s : Nat) : ∀ k, (∀ j, j < k → mLet (f (s + j)) = true) → 0 ≤ hZ' f s k ∧ hZ' f s k + 1 ≤ 27 ^ k
  | 0, _ => by rw [hZ']; decide
  | k + 1, h => by
    have ih := hZ_b f s k (fun j hj => h j (by omega))
    have hl := mLet_t (h k (by omega))
    rw [hZ', Int.pow_succ]
    omega
theorem hsh_Z (f : Nat → Int32) (s : Nat) : ∀ k, k ≤ 8 → (∀ j, j < k → mLet (f (s + j)) = true) → (hsh f s k).toInt = hZ' f s k
  | 0, _, _ => rfl
  | k + 1, h8, h => by
    have ih := hsh_Z f s k (by omega) (fun j hj => h j (by omega))
    have hb := hZ_b f s k (fun j hj => h j (by omega))
    have hl := mLet_t (h k (by omega))
    have hp : (27 : Int) ^ k ≤ 10460353203 := by
      rcases (by omega : k = 0 ∨ k = 1 ∨ k = 2 ∨ k = 3 ∨ k = 4 ∨ k = 5 ∨ k = 6 ∨ k = 7) with rfl | rfl | rfl | rfl | rfl | rfl | rfl | rfl <;> decide
    have e27 : ((27 : Int64)).toInt = 27 := rfl
    have e96 : ((96 : Int64)).toInt = 96 := rfl
    have e1 : (27 * hsh f s k).toInt = 27 * hZ' f s k := by
      rw [fb_mulL, e27, ih]
      · rw [e27, ih]; omega
      · rw [e27, ih]; omega
    have e2 : (27 * hsh f s k + (f (s + k)).toInt64).toInt = 27 * hZ' f s k + (f (s + k)).toInt := by
      rw [fb_addL, e1, i64]
      · rw [e1, i64]; omega
      · rw [e1, i64]; omega
    rw [hsh, hZ', fb_subL, e2, e96]
    · rw [e2, e96]; omega
    · rw [e2, e96]; omega
theorem hZ_inj (f g : Nat → Int32) (s t : Nat) : ∀ k l, (∀ j, j < k → mLet (f (s + j)) = true) → (∀ j, j < l → mLet (g (t + j)) = true) → hZ' f s k = hZ' g t l → k = l ∧ ∀ j, j < k → f (s + j) = g (t + j)
  | 0, 0, _, _, _ => ⟨rfl, fun j hj => by omega⟩
  | 0, l + 1, _, hg, e => by
    have hb := hZ_b g t l (fun j hj => hg j (by omega))
    have hl := mLet_t (hg l (by omega))
    rw [hZ', hZ'] at e
    omega
  | k + 1, 0, hf, _, e => by
    have hb := hZ_b f s k (fun j hj => hf j (by omega))
    have hl := mLet_t (hf k (by omega))
    rw [hZ', hZ'] at e
    omega
  | k + 1, l + 1, hf, hg, e => by
    have hl1 := mLet_t (hf k (by omega))
    have hl2 := mLet_t (hg l (by omega))
    rw [hZ', hZ'] at e
    obtain ⟨ih1, ih2⟩ := hZ_inj f g s t k l (fun j hj => hf j (by omega)) (fun j hj => hg j (by omega)) (by omega)
    subst ih1
    refine ⟨rfl, fun j hj => ?_⟩
    rcases (by omega : j < k ∨ j = k) with w | w
    · exact ih2 j w
    · subst w
      rw [i_eq]
      omega
theorem hsh_inj {f g : Nat → Int32} {s t k l : Nat} (hk : k ≤ 8) (hl : l ≤ 8) (hf : ∀ j, j < k → mLet (f (s + j)) = true) (hg : ∀ j, j < l → mLet (g (t + j)) = true) : hsh f s k = hsh g t l ↔ k = l ∧ ∀ j, j < k → f (s + j) = g (t + j) := by
  constructor
  · intro e
    refine hZ_inj f g s t k l hf hg ?_
    rw [← hsh_Z f s k hk hf, ← hsh_Z g t l hl hg, e]
  · rintro ⟨rfl, h⟩
    rw [← Int64.toInt_inj, hsh_Z f s k hk hf, hsh_Z g t k hl hg]
    clear hk hl hf hg
    induction k with
    | zero => rfl
    | succ k ih => rw [hZ', hZ', ih (fun j hj => h j (by omega)), h k (by omega)]
theorem wd_hsh : ∀ w, w < 7 → mWord (nI w) = hsh (chJ w) 0 (lenJ.getD w 0) := by decide +kernel
theorem wd_let : ∀ w, w < 7 → ∀ j, j < lenJ.getD w 0 → mLet (chJ w (0 + j)) = true := by decide +kernel
theorem wd_len : ∀ w, w < 7 → lenJ.getD w 0 ≤ 8 ∧ 1 ≤ lenJ.getD w 0 := by decide
