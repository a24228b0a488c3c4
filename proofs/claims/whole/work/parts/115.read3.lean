/-! ===== a contract's line ===== -/
def zCh (b c : Nat) (σ : MI) (f : Nat → Int32) : Prop := σ (44 + 57 * b) 0 = f 0 ∧ σ (44 + 57 * b) 1 = f 1 ∧ σ (44 + 57 * b) 2 = nI (c + 1) ∧ f 494 = nI c ∧ rg (f 0) 0 35 ∧ rg (f 1) 0 6 ∧ (∀ d, d < 6 → f (434 + 10 * d) = 0) ∧ (∀ i : Nat, (i : Int) < (f 1).toInt → zIx σ b i f) ∧ ∀ d, d < c → rg (f (495 + 19 * d + 6)) 0 6 ∧ zCo σ b d f
def zCt (b c : Nat) (σ : MI) (f : Nat → Int32) : Prop := ∀ k : Nat, (k : Int) < (f (495 + 19 * c + 6)).toInt → σ (84 + 57 * b + 3 * c) k = f (495 + 19 * c + (7 + 2 * k)) ∧ σ (85 + 57 * b + 3 * c) k = f (495 + 19 * c + (8 + 2 * k))
def zCn (b c : Nat) (σ : MI) (f : Nat → Int32) (J : List Nat) : Prop := zCh b c σ f ∧ rg (f (495 + 19 * c + 6)) 0 6 ∧ (∀ j, j ∈ J → σ (83 + 57 * b + 3 * c) j = f (495 + 19 * c + j)) ∧ zCt b c σ f
theorem zCh_of {b c : Nat} (hc : c < 6) {σ σ' : MI} {f f' : Nat → Int32} (h : zCh b c σ f) (hσ : ∀ x, 44 ≤ x → x < 83 + 57 * b + 3 * c ∨ 86 + 57 * b + 3 * c ≤ x → σ' x = σ x) (hf : ∀ j, j < 495 + 19 * c ∨ 514 + 19 * c ≤ j → f' j = f j) : zCh b c σ' f' := by
  obtain ⟨h1, h2, h3, h4, h5, h6, h7, h8, h9⟩ := h
  have r6 := h6
  unfold rg at r6
  refine ⟨by rw [hσ _ (by omega) (by omega), hf 0 (by omega)]; exact h1, by rw [hσ _ (by omega) (by omega), hf 1 (by omega)]; exact h2, by rw [hσ _ (by omega) (by omega)]; exact h3, by rw [hf 494 (by omega)]; exact h4, by rw [hf 0 (by omega)]; exact h5, by rw [hf 1 (by omega)]; exact h6, fun d hd => by rw [hf _ (by omega)]; exact h7 d hd, fun i hi => ?_, fun d hd => ?_⟩
  · rw [hf 1 (by omega)] at hi
    exact zIx_of (h8 i hi) (h7 i (by omega)) (fun x _ _ => hσ x (by omega) (by omega)) (fun m hm => ⟨hf _ (by omega), hf _ (by omega)⟩) (hf _ (by omega))
  · obtain ⟨a1, a2⟩ := h9 d hd
    refine ⟨by rw [hf _ (by omega)]; exact a1, zCo_of a2 a1 (fun x _ _ => hσ x (by omega) (by omega)) (fun j hj => hf _ (by omega))⟩
theorem zCn_of {b c : Nat} (hc : c < 6) {σ σ' : MI} {f : Nat → Int32} {J : List Nat} (h : zCn b c σ f J) (hσ : ∀ x, 44 ≤ x → σ' x = σ x) : zCn b c σ' f J :=
  ⟨zCh_of hc h.1 (fun x a _ => hσ x a) (fun _ _ => rfl), h.2.1, fun j hj => by rw [hσ _ (by omega)]; exact h.2.2.1 j hj, fun k hk => by rw [hσ _ (by omega), hσ _ (by omega)]; exact h.2.2.2 k hk⟩
theorem zCn_begin {σ μ : MI} {b c : Nat} (hc : c < 6) (hL : LI μ) (hB : zBk σ b (μ 3)) (e4 : μ 3 494 = nI c) : zCn b c (acS σ b) (μ 3) [6] := by
  obtain ⟨hR, h9, hb0, hc0, hk0⟩ := hL
  have t4 : (μ 3 494).toInt = (c : Int) := by rw [e4, nI_toInt (by omega)]
  have ea : acS σ b = s2 (s2 σ (83 + 57 * b + 3 * c) 6 0) (44 + 57 * b) 2 (nI (c + 1)) := by unfold acS; rw [hB.2.2.1, e4, nI_clamp (by omega), nI_1]
  have eo : ∀ x, x ≠ 44 + 57 * b → x ≠ 83 + 57 * b + 3 * c → acS σ b x = σ x := fun x a1 a2 => by rw [ea, s2_nk _ _ _ a1, s2_nk _ _ _ a2]
  have e44 : ∀ j, j ≠ 2 → acS σ b (44 + 57 * b) j = σ (44 + 57 * b) j := fun j hj => by rw [ea, s2_nj _ _ _ hj, s2_nk _ _ _ (by omega)]
  have z6 : μ 3 (495 + 19 * c + 6) = 0 := hc0 c hc (by omega)
  have h1 := hR.2.1
  unfold rg at h1
  refine ⟨⟨by rw [e44 0 (by decide)]; exact hB.1, by rw [e44 1 (by decide)]; exact hB.2.1, by rw [ea, s2_eq], e4, hR.1, hR.2.1, hb0, fun i hi => ?_, fun d hd => ?_⟩, ?_, fun j hj => ?_, fun k hk => ?_⟩
  · exact zIx_of (hB.ix hi) (hb0 i (by omega)) (fun x _ _ => eo x (by omega) (by omega)) (fun m hm => ⟨rfl, rfl⟩) rfl
  · have h6 := (hR.con (c := d) (by omega)).2.2.2.2.2.2.1
    exact ⟨h6, zCo_of (hB.co (c := d) (by omega)) h6 (fun x _ _ => eo x (by omega) (by omega)) (fun j _ => rfl)⟩
  · rw [z6]; exact ⟨by decide, by decide⟩
  · rw [List.mem_singleton] at hj
    subst hj
    rw [z6, ea, s2_nk _ _ _ (by omega), s2_eq]
  · rw [z6, z0] at hk; omega
/-- a number of the contract comes in -/
theorem zCn_put {b c j : Nat} (hc : c < 6) (hj : j < 6) {σ σ' : MI} {f f' : Nat → Int32} {J : List Nat} (h : zCn b c σ f J) (hσ : ∀ x, 44 ≤ x → x ≠ 83 + 57 * b + 3 * c → σ' x = σ x) (hσj : ∀ y, y ≠ j → σ' (83 + 57 * b + 3 * c) y = σ (83 + 57 * b + 3 * c) y) (hv : σ' (83 + 57 * b + 3 * c) j = f' (495 + 19 * c + j)) (hf : ∀ y, y ≠ 495 + 19 * c + j → f' y = f y) : zCn b c σ' f' (j :: J) := by
  refine ⟨zCh_of hc h.1 (fun x a1 a2 => hσ x a1 (by omega)) (fun y hy => hf y (by omega)), by rw [hf _ (by omega)]; exact h.2.1, fun y hy => ?_, fun k hk => ?_⟩
  · by_cases e : y = j
    · rw [e]; exact hv
    · rw [hσj y e, hf _ (by omega)]
      rcases List.mem_cons.mp hy with q | q
      · exact absurd q e
      · exact h.2.2.1 y q
  · rw [hf _ (by omega)] at hk
    rw [hσ _ (by omega) (by omega), hσ _ (by omega) (by omega), hf _ (by omega), hf _ (by omega)]
    exact h.2.2.2 k hk
theorem zCn_end {b c : Nat} (hc : c < 6) {σ : MI} {f f' : Nat → Int32} {J : List Nat} (h : zCn b c σ f J) (hJ : ∀ j, j < 7 → j ∈ J) (h4 : f' 494 = nI (c + 1)) (hf : ∀ j, j ≠ 494 → f' j = f j) : zBk σ b f' := by
  obtain ⟨⟨h1, h2, h3, h5, h6, h7, h8, h9, h10⟩, hr, hj, ht⟩ := h
  have r7 := h7
  unfold rg at r7
  refine ⟨by rw [hf 0 (by omega)]; exact h1, by rw [hf 1 (by omega)]; exact h2, by rw [h4]; exact h3, fun i hi => ?_, fun d hd => ?_⟩
  · rw [hf 1 (by omega)] at hi
    exact zIx_of (h9 i hi) (h8 i (by omega)) (fun x _ _ => rfl) (fun m hm => ⟨hf _ (by omega), hf _ (by omega)⟩) (hf _ (by omega))
  · rw [h4, nI_toInt (by omega)] at hd
    by_cases e : d = c
    · subst e
      exact zCo_of (f := f) ⟨fun j q => hj j (hJ j q), ht⟩ hr (fun x _ _ => rfl) (fun j _ => hf _ (by omega))
    · obtain ⟨a1, a2⟩ := h10 d (by omega)
      exact zCo_of a2 a1 (fun x _ _ => rfl) (fun j _ => hf _ (by omega))
/-- a term comes in -/
theorem addTS_k (σ : MI) {b c k : Nat} (hk : k < 6) (h : σ (83 + 57 * b + 3 * c) 6 = nI k) (w x : Int32) : addTS σ b c w x = s2 (s2 (s2 σ (84 + 57 * b + 3 * c) k w) (85 + 57 * b + 3 * c) k x) (83 + 57 * b + 3 * c) 6 (nI (k + 1)) := by
  have e6 : (6 : Int32).toInt = 6 := rfl
  unfold addTS
  rw [h, if_neg (by rw [i_lt, nI_toInt (by omega), z0]; omega), if_neg (by rw [i_le, nI_toInt (by omega)]; omega), nI_clamp (by omega), nI_1]
theorem zCn_term {b c k : Nat} (hc : c < 6) (hk : k < 6) {σ μ : MI} {J : List Nat} (h6J : 6 ∈ J) (hJ : ∀ j, j ∈ J → j < 7) (h : zCn b c σ (μ 3) J) (e6 : μ 3 (495 + 19 * c + 6) = nI k) (w x : Int32) : zCn b c (addTS σ b c w x) (mtS c k μ w x 3) J := by
  have es : σ (83 + 57 * b + 3 * c) 6 = nI k := by rw [h.2.2.1 6 h6J, e6]
  rw [addTS_k σ hk es]
  have t6 : (mtS c k μ w x 3 (495 + 19 * c + 6)).toInt = (k : Int) + 1 := by rw [mtS_6, nI_toInt (by omega)]; omega
  refine ⟨zCh_of hc h.1 (fun y a1 a2 => by rw [s2_nk _ _ _ (by omega), s2_nk _ _ _ (by omega), s2_nk _ _ _ (by omega)]) (fun y hy => mtS_3 _ _ _ _ _ (by omega) (by omega) (by omega)), ⟨by omega, by omega⟩, fun j hj => ?_, fun q hq => ?_⟩
  · by_cases e : j = 6
    · rw [e, s2_eq, mtS_6]
    · have := hJ j hj
      rw [s2_nj _ _ _ e, s2_nk _ _ _ (by omega), s2_nk _ _ _ (by omega), mtS_3 _ _ _ _ _ (by omega) (by omega) (by omega)]
      exact h.2.2.1 j hj
  · rw [t6] at hq
    by_cases e : q = k
    · subst e
      rw [mtS_7, mtS_8, s2_nk _ _ _ (by omega), s2_nk _ _ _ (by omega), s2_eq, s2_nk _ _ _ (by omega), s2_eq]
      exact ⟨rfl, rfl⟩
    · rw [s2_nk _ _ _ (by omega), s2_nk _ _ _ (by omega), s2_nj _ _ _ e, s2_nk _ _ _ (by omega), s2_nj _ _ _ e, s2_nk _ _ _ (by omega), mtS_3 _ _ _ _ _ (by omega) (by omega) (by omega), mtS_3 _ _ _ _ _ (by omega) (by omega) (by omega)]
      exact h.2.2.2 q (by rw [e6, nI_toInt (by omega)]; omega)
theorem mtS_ne (c k : Nat) (σ : MI) (w x : Int32) {q : Nat} (h : q ≠ 3) : mtS c k σ w x q = σ q := by
  unfold mtS
  rw [s2_nk _ _ _ h, s2_nk _ _ _ h, s2_nk _ _ _ h]
theorem anyS_cg {f g : Nat → Int32} {x : Int32} {n : Nat} (h : ∀ k, k < n → f k = g k) : anyS f x n = anyS g x n := by
  cases q : anyS g x n
  · exact anyS_f (fun k hk => by rw [h k hk]; exact anyS_ne q hk)
  · simp only [anyS, List.any_eq_true, List.mem_range, beq_iff_eq] at q
    obtain ⟨k, hk, e⟩ := q
    exact anyS_t hk (by rw [h k hk]; exact e)
theorem sumI_cg {f g : Nat → Int32} {a c : Int32} (e : a = c) : ∀ n, (∀ k, k < n → f k = g k) → sumI f a n = sumI g c n
  | 0, _ => e
  | n + 1, h => by rw [sumI, sumI, sumI_cg e n (fun k hk => h k (by omega)), h n (by omega)]
theorem allS_cg {P Q : Nat → Bool} {n : Nat} (h : ∀ k, k < n → P k = Q k) : allS P n = allS Q n := by
  cases q : allS Q n
  · rw [Bool.eq_false_iff]
    intro w
    rw [Bool.eq_false_iff] at q
    refine q (allS_t (fun k hk => ?_))
    simp only [allS, List.all_eq_true, List.mem_range] at w
    rw [← h k hk]; exact w k hk
  · refine allS_t (fun k hk => ?_)
    simp only [allS, List.all_eq_true, List.mem_range] at q
    rw [h k hk]; exact q k hk
section RDC
variable {σ0 μ0 : MI} {N b n c : Nat}
def pCn (b c : Nat) (J : List Nat) : MI → MI → ML → Prop := fun σ μ _ => zCn b c σ (μ 3) J
def mtC (c : Nat) (z : Bool × MI × ML) : Bool × MI × ML := if z.1 = true then mbP c z.2.1 z.2.2 else (false, z.2)
def ctB (b c : Nat) (z : Bool × MI) : Bool × MI := if z.1 = true then rbP z.2 b c else (false, z.2)
/-- the base month -/
theorem z_base (hb : bz (σ0 1 3) = b) (hc : c < 6) {ρ μ : MI} {υ : ML} {k : Nat} {s : Int32} (hk6 : k ≤ 6) (hK : zK ρ μ υ N) (hG : zG σ0 μ0 N b n ρ μ υ) (hC : zCn b c ρ (μ 3) [1, 0, 6]) (e6 : μ 3 (495 + 19 * c + 6) = nI k) (hX : XD (μ 3) c k) (hs : s = sumI (ρ (84 + 57 * b + 3 * c)) (ρ (83 + 57 * b + 3 * c) 1) k) : zO σ0 μ0 N b n (pCn b c [2, 1, 0, 6]) (rbP ρ b c) (mtC c (mtE s μ υ)) := by
  have eb := FR_bz hb hG.1
  have hkm : ρ (83 + 57 * b + 3 * c) 6 = nI k := by rw [hC.2.2.1 6 (by decide), e6]
  have hkm2 : kmin (ρ (83 + 57 * b + 3 * c) 6) 6 = k := by
    rw [hkm, kmin_eq (by rw [nI_toInt (by omega)]; omega), nI_clamp (by omega)]
  unfold rbP mtE mtC
  rw [z_wd hK (w := 3) (by decide), hkm2, ← hs, eb, hC.1.1, show nI 3 = (3 : Int32) from rfl]
  cases hw : mIs μ υ 3
  · rw [if_neg Bool.false_ne_true, if_neg Bool.false_ne_true, if_neg Bool.false_ne_true]
    exact zO_f (z_bad1 hK hG)
  · rw [if_pos rfl, if_pos rfl]
    by_cases hs1 : s = 1000
    · rw [if_pos hs1, if_pos hs1, if_pos rfl]
      dsimp only
      obtain ⟨hK2, hG2⟩ := z_adv (υ := υ) (mIs_P hK hw) hG
      have hC2 : zCn b c (adS ρ) (goM μ 3) [1, 0, 6] := by rw [goM_3]; exact zCn_of hc hC (fun x hx => adS_ne _ (by omega))
      have hX2 : XD (goM μ 3) c k := by rw [goM_3]; exact hX
      have e62 : goM μ 3 (495 + 19 * c + 6) = nI k := by rw [goM_3]; exact e6
      rw [show μ 3 0 = goM μ 3 0 by rw [goM_3]]
      have eW : rbW ρ b c = s2 (adS ρ) (83 + 57 * b + 3 * c) 2 (adS ρ 2 5) := rfl
      rw [eW]
      generalize adS ρ = ρ' at *
      generalize goT μ υ = υ' at *
      generalize goM μ = μ' at *
      have hib := z_inB hK2 0 (μ' 3 0)
      rw [hib]
      unfold mbP
      cases ht : tdB μ' 0 (μ' 3 0)
      · have hmb : mbK c μ' = true := by
          unfold mbK
          by_cases h6 : μ' 0 6 = 3
          · rw [if_pos h6, if_neg]
            intro w
            have hn := ((zK_num hK2).2 h6).2.1
            unfold tdB at ht
            rw [if_pos h6, mIn_of (by rw [z0]; exact hn) (by rw [i_le] at w; exact w)] at ht
            cases ht
          · rw [if_neg h6]
        rw [if_neg Bool.false_ne_true, if_pos hmb]
        exact zO_f ⟨z_inF hK2 ht _, FR_in hG2.1 _ _, GR_td hG2.2.1 _ _ _⟩
      · rw [if_pos rfl]
        have h6 : μ' 0 6 = 3 := by
          unfold tdB at ht
          by_cases q : μ' 0 6 = 3
          · exact q
          · rw [if_neg q] at ht; cases ht
        have hm : mIn (μ' 0 7) 0 (μ' 3 0) = true := by unfold tdB at ht; rw [if_pos h6] at ht; exact ht
        have hmr := mIn_t hm
        have hn := (zK_num hK2).2 h6
        have h0 := hC2.1.2.2.2.2.1
        have h1 := hC2.1.2.2.2.2.2.1
        have r0 := h0
        have r1 := h1
        unfold rg at r0 r1
        have hm35 : mIn (μ' 0 7) 0 35 = true := mIn_of hmr.1 (by have : (35 : Int32).toInt = 35 := rfl; omega)
        have e25 : ρ' 2 5 = μ' 0 7 := hn.1
        have eb2 : bz (ρ' 1 3) = b := FR_bz hb hG2.1
        have hall : allS (tkB (s2 ρ' (83 + 57 * b + 3 * c) 2 (ρ' 2 5)) b c) k = mbK c μ' := by
          unfold mbK
          rw [if_pos h6, if_pos (by rw [i_le]; exact hmr.2), e62, nI_clamp (by omega)]
          refine allS_cg (fun q hq => ?_)
          obtain ⟨x1, x2, -⟩ := hX2 q hq
          have e85 : ρ' (85 + 57 * b + 3 * c) q = mtX (μ' 3) c q := (hC2.2.2.2 q (by rw [e62, nI_toInt (by omega)]; omega)).2
          unfold tkB
          rw [s2_nk _ _ _ (show 85 + 57 * b + 3 * c ≠ 83 + 57 * b + 3 * c by omega), s2_nk _ _ _ (show 1 ≠ 83 + 57 * b + 3 * c by omega), eb2, s2_nk _ _ _ (show 44 + 57 * b ≠ 83 + 57 * b + 3 * c by omega), s2_eq, e85, hC2.1.2.1, inC_mIn (M := 6) r1.1 r1.2]
          have es1 := sub1 r1.1
          have hcx := clampI (mtX (μ' 3) c q)
          rw [if_pos (mIn_of (by rw [z0]; exact x1) (by omega)), s2_nk _ _ _ (by omega), z_has (hC2.1.2.2.2.2.2.2.2.1 (mtX (μ' 3) c q).toNatClampNeg (by omega)), e25, if_pos hm35]
          unfold mtX
          by_cases w : μ' 3 (218 + 36 * (μ' 3 (495 + 19 * c + (8 + 2 * q))).toNatClampNeg + (μ' 0 7).toNatClampNeg) = 0
          · rw [if_pos w, decide_eq_false (fun y => y w)]
          · rw [if_neg w, decide_eq_true w]
        have hkW : kmin (s2 ρ' (83 + 57 * b + 3 * c) 2 (ρ' 2 5) (83 + 57 * b + 3 * c) 6) 6 = k := by
          rw [s2_nj _ _ _ (by decide), hC2.2.2.1 6 (by decide), e62, kmin_eq (by rw [nI_toInt (by omega)]; omega), nI_clamp (by omega)]
        unfold rbL
        rw [hkW, hall]
        have hKW : zK (s2 ρ' (83 + 57 * b + 3 * c) 2 (ρ' 2 5)) μ' υ' N := zK_cg hK2 (s2_nk _ _ _ (by omega)) (s2_nk _ _ _ (by omega)) rfl rfl rfl
        have hGW : zG σ0 μ0 N b n (s2 ρ' (83 + 57 * b + 3 * c) 2 (ρ' 2 5)) μ' υ' := zG_b hG2 (by omega) (by omega) _ _
        cases hmb : mbK c μ'
        · rw [if_neg Bool.false_ne_true, if_neg Bool.false_ne_true]
          exact zO_f (z_badv hKW hGW (ne1_3 h6) 5)
        · rw [if_pos rfl, if_pos rfl]
          have e2 : tdM μ' (495 + 19 * c + 2) 0 (μ' 3 0) = goM (s2 μ' 3 (495 + 19 * c + 2) (μ' 0 7)) := by rw [tdM, if_pos h6, if_pos hm]
          have e3 : tdT μ' υ' (495 + 19 * c + 2) 0 (μ' 3 0) = goT (s2 μ' 3 (495 + 19 * c + 2) (μ' 0 7)) υ' := by rw [tdT, if_pos h6, if_pos hm]
          rw [e2, e3]
          have hP5 : zP (s2 ρ' (83 + 57 * b + 3 * c) 2 (ρ' 2 5)) (s2 μ' 3 (495 + 19 * c + 2) (μ' 0 7)) N := zP_cg hn.2.2 (s2_nk _ _ _ (by omega)) (s2_nk _ _ _ (by omega)) (s2_nk _ _ _ (by decide)) (s2_nk _ _ _ (by decide))
          refine zO_t (z_go υ' hP5) (zG_go (zG_3 hGW _ _) hP5) ?_
          unfold pCn
          rw [goM_3]
          refine zCn_put hc (j := 2) (by decide) hC2 (fun x a1 a2 => by rw [adS_ne _ (by omega), s2_nk _ _ _ a2]) (fun y hy => by rw [adS_ne _ (by omega), s2_nj _ _ _ hy]) ?_ (fun y hy => s2_nj _ _ _ hy)
          rw [adS_ne _ (by omega), s2_eq, s2_eq, e25]
    · rw [if_neg hs1, if_neg hs1, if_neg Bool.false_ne_true]
      exact zO_f (z_badv hK hG (ne1_2 (mIs_w hw)) 5)
def tInv (σ0 μ0 : MI) (N b n c k : Nat) (s : Int32) (ρ μ : MI) (υ : ML) : Prop := zK ρ μ υ N ∧ zG σ0 μ0 N b n ρ μ υ ∧ zCn b c ρ (μ 3) [1, 0, 6] ∧ μ 3 (495 + 19 * c + 6) = nI k ∧ k ≤ 6 ∧ XD (μ 3) c k ∧ s = sumI (ρ (84 + 57 * b + 3 * c)) (ρ (83 + 57 * b + 3 * c) 1) k ∧ μ 3 1 = nI n
/-- one term -/
theorem z_term1 (hb : bz (σ0 1 3) = b) (hc : c < 6) (hn6 : n ≤ 6) {r k : Nat} (ih : k < 6 → ∀ s ρ μ υ, tInv σ0 μ0 N b n c (k + 1) s ρ μ υ → zO σ0 μ0 N b n (pCn b c [2, 1, 0, 6]) (ctB b c (rtL b c r ρ)) (mtC c (mtL c r (k + 1) s μ υ))) {s : Int32} {ρ μ : MI} {υ : ML} (h : tInv σ0 μ0 N b n c k s ρ μ υ) : zO σ0 μ0 N b n (pCn b c [2, 1, 0, 6]) (ctB b c (rtL b c (r + 1) ρ)) (mtC c (mtL c (r + 1) k s μ υ)) := by
  obtain ⟨hK, hG, hC, e6, hk6, hX, hs, e1⟩ := h
  have eb := FR_bz hb hG.1
  have hsg := zK_sig hK (c := 43) ⟨by decide, by decide⟩
  rw [rtL, mtL, hsg.1]
  cases hp : mSig μ 43
  · rw [if_neg Bool.false_ne_true, if_neg Bool.false_ne_true]
    have : ctB b c (true, ρ) = rbP ρ b c := rfl
    rw [this]
    exact z_base hb hc hk6 hK hG hC e6 hX hs
  · rw [if_pos rfl, if_pos rfl]
    obtain ⟨hK2, hG2⟩ := z_adv (υ := υ) (hsg.2 hp) hG
    have bad : ∀ {σ' μ' : MI} {υ' : ML}, zF σ' μ' ∧ FR σ0 σ' b ∧ GR μ0 μ' → zO σ0 μ0 N b n (pCn b c [2, 1, 0, 6]) (ctB b c (false, σ')) (mtC c (false, μ', υ')) := fun q => zO_f q
    have hnum : (goM μ 0 6 = 3 ∧ mIn (goM μ 0 7) 0 1000 = true) ∨ ¬ (goM μ 0 6 = 3 ∧ mIn (goM μ 0 7) 0 1000 = true) := Decidable.em _
    rcases hnum with ⟨h3, hm⟩ | hno
    · obtain ⟨hib, hK3, hG3, e14⟩ := z_rnT' hK2 hG2 h3 hm
      rw [if_pos h3, if_pos hm, if_pos hib]
      have eN : rtN ρ = rnM (adS ρ) 0 1000 := rfl
      have eX : rtX ρ = ixN (rnM (adS ρ) 0 1000) (μ 3 1) := by unfold rtX; rw [eb, hC.1.2.1]; rfl
      rw [eN, eX]
      have hf3 : goM (goM μ) 3 = μ 3 := by rw [goM_3, goM_3]
      have hC3 : zCn b c (rnM (adS ρ) 0 1000) (goM (goM μ) 3) [1, 0, 6] := by
        rw [hf3]
        exact zCn_of hc hC (fun x hx => by rw [rnM_ne _ _ _ (by omega) (by omega), adS_ne _ (by omega)])
      have hr : ∀ x, 44 ≤ x → rnM (adS ρ) 0 1000 x = ρ x := fun x hx => by rw [rnM_ne _ _ _ (by omega) (by omega), adS_ne _ (by omega)]
      rw [z_nm hK3]
      cases hn : mName (goM (goM μ)) (goT (goM μ) (goT μ υ))
      · rw [if_neg Bool.false_ne_true, if_neg Bool.false_ne_true]
        exact bad (z_bad1 hK3 hG3)
      · rw [if_pos rfl, if_pos rfl]
        have hw2 := mName_w hn
        have r1 := hC.1.2.2.2.2.2.1
        have hix : ixN (rnM (adS ρ) 0 1000) (μ 3 1) = nmd (goM (goM μ)) (goT (goM μ) (goT μ υ)) := by
          have e31 : μ 3 1 = goM (goM μ) 3 1 := by rw [hf3]
          rw [e31]
          refine z_named hK3 hw2 (by rw [← e31]; exact r1) (fun j hj => hG3.2.2.1 j ?_)
          rw [← e31, e1, nI_toInt (by omega)] at hj
          omega
        rw [hix]
        by_cases cn : nmd (goM (goM μ)) (goT (goM μ) (goT μ υ)) = -1
        · rw [if_pos cn, if_pos cn]
          exact bad (z_badv hK3 hG3 (ne1_2 hw2) 3)
        · rw [if_neg cn, if_neg cn]
          have hrg := nmd_rng (σ := goM (goM μ)) (τ := goT (goM μ) (goT μ υ)) (by rw [hf3]; exact r1) cn
          rw [hf3] at hrg
          have hP3 := mName_P hK3 hn
          generalize nmd (goM (goM μ)) (goT (goM μ) (goT μ υ)) = x at *
          have hkm : ρ (83 + 57 * b + 3 * c) 6 = nI k := by rw [hC.2.2.1 6 (by decide), e6]
          have hany : anyS (ρ (85 + 57 * b + 3 * c)) x (kmin (ρ (83 + 57 * b + 3 * c) 6) 6) = anyS (mtX (μ 3) c) x k := by
            rw [hkm, kmin_eq (by rw [nI_toInt (by omega)]; omega), nI_clamp (by omega)]
            exact anyS_cg (fun q hq => (hC.2.2.2 q (by rw [e6, nI_toInt (by omega)]; omega)).2)
          rw [hany]
          cases ha : anyS (mtX (μ 3) c) x k
          · rw [if_neg Bool.false_ne_true, if_neg Bool.false_ne_true, e14]
            have hk5 : k < 6 := by
              rcases (by omega : k < 6 ∨ k = 6) with q | q
              · exact q
              · subst q
                rw [XD_six hX r1 hrg] at ha
                cases ha
            have esd : rnM (adS ρ) 0 1000 (83 + 57 * b + 3 * c) 6 = nI k := by rw [hr _ (by omega)]; exact hkm
            have hP5 : zP (addTS (rnM (adS ρ) 0 1000) b c (goM μ 0 7) x) (mtS c k (goM (goM μ)) (goM μ 0 7) x) N := zP_cg hP3 (addTS_lo _ _ _ (by omega)) (addTS_lo _ _ _ (by omega)) (mtS_ne _ _ _ _ _ (by decide)) (mtS_ne _ _ _ _ _ (by decide))
            refine ih hk5 _ _ _ _ ⟨z_go _ hP5, ?_, ?_, ?_, by omega, ?_, ?_, ?_⟩
            · refine zG_go ?_ hP5
              have g1 : zG σ0 μ0 N b n (addTS (rnM (adS ρ) 0 1000) b c (goM μ 0 7) x) (goM (goM μ)) (goT (goM μ) (goT μ υ)) := by
                rw [addTS_k _ hk5 esd]
                exact zG_b (zG_b (zG_b hG3 (by omega) (by omega) _ _) (by omega) (by omega) _ _) (by omega) (by omega) _ _
              exact zG_3 (zG_3 (zG_3 g1 _ _) _ _) _ _
            · rw [goM_3]
              exact zCn_of hc (zCn_term hc hk5 (by decide) (by decide) hC3 (by rw [hf3]; exact e6) _ _) (fun y hy => adS_ne _ (by omega))
            · rw [goM_3, mtS_6]
            · exact XD_step hf3 hX hrg ha
            · rw [sumI, addTS_k _ hk5 esd]
              have e84 : adS (s2 (s2 (s2 (rnM (adS ρ) 0 1000) (84 + 57 * b + 3 * c) k (goM μ 0 7)) (85 + 57 * b + 3 * c) k x) (83 + 57 * b + 3 * c) 6 (nI (k + 1))) (84 + 57 * b + 3 * c) = upd (ρ (84 + 57 * b + 3 * c)) k (goM μ 0 7) := by
                rw [adS_ne _ (by omega), s2_nk _ _ _ (by omega), s2_nk _ _ _ (by omega), s2_k, hr _ (by omega)]
              have e83 : adS (s2 (s2 (s2 (rnM (adS ρ) 0 1000) (84 + 57 * b + 3 * c) k (goM μ 0 7)) (85 + 57 * b + 3 * c) k x) (83 + 57 * b + 3 * c) 6 (nI (k + 1))) (83 + 57 * b + 3 * c) 1 = ρ (83 + 57 * b + 3 * c) 1 := by
                rw [adS_ne _ (by omega), s2_nj _ _ _ (by decide), s2_nk _ _ _ (by omega), s2_nk _ _ _ (by omega), hr _ (by omega)]
              rw [e84, e83, upd_hit, hs]
              congr 1
              exact sumI_cg rfl k (fun q hq => (upd_miss _ _ (by omega)).symm)
            · rw [goM_3, mtS_3 _ _ _ _ _ (by omega) (by omega) (by omega), hf3]; exact e1
          · rw [if_pos rfl, if_pos rfl]
            exact bad (z_badv hK3 hG3 (ne1_2 hw2) 3)
    · obtain ⟨hib, hF⟩ := z_rnF' hK2 hno
      rw [if_neg (show ¬ inB (adS ρ) 0 1000 = true by rw [hib]; exact Bool.false_ne_true)]
      have eN : rtN ρ = rnM (adS ρ) 0 1000 := rfl
      rw [eN]
      by_cases h3 : goM μ 0 6 = 3
      · rw [if_pos h3, if_neg (fun q => hno ⟨h3, q⟩)]
        rw [if_pos h3] at hF
        exact bad ⟨hF, FR_rn hG2.1 hib, GR_bad hG2.2.1 _⟩
      · rw [if_neg h3]
        rw [if_neg h3] at hF
        exact bad ⟨hF, FR_rn hG2.1 hib, GR_bad hG2.2.1 _⟩
theorem z_terms (hb : bz (σ0 1 3) = b) (hc : c < 6) (hn6 : n ≤ 6) : ∀ r k, k + r = 6 → ∀ s ρ μ υ, tInv σ0 μ0 N b n c k s ρ μ υ → zO σ0 μ0 N b n (pCn b c [2, 1, 0, 6]) (ctB b c (rtL b c (r + 1) ρ)) (mtC c (mtL c (r + 1) k s μ υ))
  | 0, k, hk => fun _ _ _ _ h => z_term1 hb hc hn6 (fun q => absurd q (by omega)) h
  | r + 1, k, hk => fun _ _ _ _ h => z_term1 hb hc hn6 (fun _ => z_terms hb hc hn6 r (k + 1) (by omega)) h
end RDC
