set_option maxHeartbeats 4000000 in
set_option maxRecDepth 100000 in
theorem c_X8_ratio (l : Launch) (hfl : l.stackTraces = false) (D : va_G) (ca : Nat → ClassId) (ad : Nat → Nat) (hI : Inj 158 ad) (σ : MI) (τ : ML) (x a z : Int32) : XT l D (TY ca) 158 ad (cxf ca ad) yX8_ratio cX8_ratio 5 (some .int) 6 81 [.ref (ad 0), .int x, .int a, .int z] σ τ (fun v_ S_ T_ => raC σ x a z = true ∧ some (.int (raV σ x a z)) = v_ ∧ σ = S_ ∧ τ = T_) (raC σ x a z = false) := by
  refine XT.of (by decide) (Nat.le_of_ble_eq_true rfl) ?_
  intro p e s m args below meth c hx hb hr ht hown hlk hml hP hK hN hS ls hl hE hX
  have hl : lv_has ls 5 [(0, .ref (ad 0)), (1, .int x), (2, .int a), (3, .int z)] := hl
  have hbz := bz_lt (σ 0 1)
  refine lv_aload_n hx hb dX8_ratio_0 rfl (lv_at hl 0 rfl) ?_
  refine fgetx hx hb ht inG8 hown hK hP (k := 0) (by decide) (x := (σ 0)) rfl (sh_desk _ _) rfl 1 (by decide) gw_352 (v := .ref (ad (44 + 57 * (bz ((σ 0) 1))))) rfl dX8_ratio_1 ?_
  refine lv_iload_n hx hb dX8_ratio_4 rfl (lv_at hl 1 rfl) ?_
  refine callv (y := yX0_indexAt) ⟨hx, hb, hml, hown, ht⟩ hK hN hP hS (k := (44 + 57 * (bz ((σ 0) 1)))) (c_X0_indexAt l D ca ad hI σ τ (bz_lt _) x) (by have b0_ : (bz ((σ 0) 1)) < 2 := (bz_lt _); omega) (sh_book _ _ (bz_lt _)) rfl ok_X0_indexAt gw_609 ⟨by decide, by decide⟩ rfl hl.1 rfl (Nat.le_of_ble_eq_true rfl) ⟨by decide, by decide⟩ dX8_ratio_5 (fun v_ S_ T_ H locs hp1 hP hS => ?_)
  rcases hp1 with ⟨hp1, rfl, rfl, rfl⟩ | ⟨hp1, rfl, rfl, rfl⟩
  · try dsimp only [Option.toList, List.cons_append, List.nil_append]
    refine lv_astoreN (lv' := [(4, .null), (0, .ref (ad 0)), (1, .int x), (2, .int a), (3, .int z)]) hx hb dX8_ratio_8 hl (by decide) rfl (fun ls hl => ?_)
    refine lv_aloadN hx hb dX8_ratio_10 (lv_at hl 0 rfl) ?_
    refine lv_ifnullN (tgt := 38) hx hb dX8_ratio_12 (by decide) ?_
    exact thrown hx hb hfl hown ht hE hS hP hl.1 hml gw_821 gw_76 dX8_ratio_38 dX8_ratio_41 dX8_ratio_42 dX8_ratio_45 hX ⟨by decide, by decide, by decide, by decide⟩ hlk (by simp only [raC, raV, hp1, ↓reduceIte, Bool.false_eq_true])
  · try dsimp only [Option.toList, List.cons_append, List.nil_append]
    have hXhp1 := (inC_6 hp1)
    refine lv_astore (lv' := [(4, .ref (ad (47 + 57 * (bz ((σ 0) 1)) + 6 * x.toNatClampNeg))), (0, .ref (ad 0)), (1, .int x), (2, .int a), (3, .int z)]) hx hb dX8_ratio_8 hl (by decide) rfl (fun ls hl => ?_)
    refine lv_aload hx hb dX8_ratio_10 (lv_at hl 0 rfl) ?_
    refine lv_ifnull hx hb dX8_ratio_12 ?_
    refine lv_iload_n hx hb dX8_ratio_15 rfl (lv_at hl 3 rfl) ?_
    refine lv_iload_n hx hb dX8_ratio_16 rfl (lv_at hl 4 rfl) ?_
    refine lv_icmp_gt (tgt := 38) hx hb dX8_ratio_17 (by decide) (fun c2 => ?_) (fun c2 => ?_)
    · have dc2 := c2
      rw [i_lt] at dc2
      exact thrown hx hb hfl hown ht hE hS hP hl.1 hml gw_821 gw_76 dX8_ratio_38 dX8_ratio_41 dX8_ratio_42 dX8_ratio_45 hX ⟨by decide, by decide, by decide, by decide⟩ hlk (by simp only [raC, raV, hp1, c2, ↓reduceIte, Bool.false_eq_true])
    · have dc2 := c2
      rw [i_lt] at dc2
      refine lv_aload hx hb dX8_ratio_20 (lv_at hl 0 rfl) ?_
      refine lv_iload_n hx hb dX8_ratio_22 rfl (lv_at hl 3 rfl) ?_
      refine callv (y := yX4_hasValue) ⟨hx, hb, hml, hown, ht⟩ hK hN hP hS (k := (47 + 57 * (bz ((σ 0) 1)) + 6 * x.toNatClampNeg)) (c_X4_hasValue l D ca ad hI σ τ (bz_lt _) (inC_6 hp1) a) (by have b0_ : (bz ((σ 0) 1)) < 2 := (bz_lt _); have b1_ : x.toNatClampNeg < 6 := (inC_6 hp1); omega) (sh_indx _ _ (bz_lt _) (inC_6 hp1)) rfl ok_X4_hasValue gw_820 ⟨by decide, by decide⟩ rfl hl.1 rfl (Nat.le_of_ble_eq_true rfl) ⟨by decide, by decide⟩ dX8_ratio_23 (fun v_ S_ T_ H locs hp3 hP hS => ?_)
      obtain ⟨rfl, rfl, rfl⟩ := hp3
      try dsimp only [Option.toList, List.cons_append, List.nil_append]
      refine br_eq (tgt := 38) hx hb dX8_ratio_26 (by decide) (fun c4 => ?_) (fun c4 => ?_)
      · exact thrown hx hb hfl hown ht hE hS hP hl.1 hml gw_821 gw_76 dX8_ratio_38 dX8_ratio_41 dX8_ratio_42 dX8_ratio_45 hX ⟨by decide, by decide, by decide, by decide⟩ hlk (by simp only [raC, raV, hp1, c2, c4, ↓reduceIte, Bool.false_eq_true])
      · refine lv_aload hx hb dX8_ratio_29 (lv_at hl 0 rfl) ?_
        refine lv_iload_n hx hb dX8_ratio_31 rfl (lv_at hl 4 rfl) ?_
        refine callv (y := yX4_hasValue) ⟨hx, hb, hml, hown, ht⟩ hK hN hP hS (k := (47 + 57 * (bz ((σ 0) 1)) + 6 * x.toNatClampNeg)) (c_X4_hasValue l D ca ad hI σ τ (bz_lt _) (inC_6 hp1) z) (by have b0_ : (bz ((σ 0) 1)) < 2 := (bz_lt _); have b1_ : x.toNatClampNeg < 6 := (inC_6 hp1); omega) (sh_indx _ _ (bz_lt _) (inC_6 hp1)) rfl ok_X4_hasValue gw_820 ⟨by decide, by decide⟩ rfl hl.1 rfl (Nat.le_of_ble_eq_true rfl) ⟨by decide, by decide⟩ dX8_ratio_32 (fun v_ S_ T_ H locs hp5 hP hS => ?_)
        obtain ⟨rfl, rfl, rfl⟩ := hp5
        try dsimp only [Option.toList, List.cons_append, List.nil_append]
        refine br_ne (tgt := 46) hx hb dX8_ratio_35 (by decide) (fun c6 => ?_) (fun c6 => ?_)
        · refine lv_aload hx hb dX8_ratio_46 (lv_at hl 0 rfl) ?_
          refine lv_iload_n hx hb dX8_ratio_48 rfl (lv_at hl 3 rfl) ?_
          refine lv_iload_n hx hb dX8_ratio_49 rfl (lv_at hl 4 rfl) ?_
          refine callv (y := yX4_ratioBetween) ⟨hx, hb, hml, hown, ht⟩ hK hN hP hS (k := (47 + 57 * (bz ((σ 0) 1)) + 6 * x.toNatClampNeg)) (c_X4_ratioBetween l D ca ad hI σ τ (bz_lt _) (inC_6 hp1) a z) (by have b0_ : (bz ((σ 0) 1)) < 2 := (bz_lt _); have b1_ : x.toNatClampNeg < 6 := (inC_6 hp1); omega) (sh_indx _ _ (bz_lt _) (inC_6 hp1)) rfl ok_X4_ratioBetween gw_882 ⟨by decide, by decide⟩ rfl hl.1 rfl (Nat.le_of_ble_eq_true rfl) ⟨by decide, by decide⟩ dX8_ratio_50 (fun v_ S_ T_ H locs hp7 hP hS => ?_)
          obtain ⟨rfl, rfl, rfl⟩ := hp7
          try dsimp only [Option.toList, List.cons_append, List.nil_append]
          exact rx (ret_i hx hb hr hlk hP hS dX8_ratio_53 (⟨by simp only [raC, raV, hp1, c2, c4, c6, ↓reduceIte, Bool.false_eq_true], by first | rfl | (simp only [raC, raV, hp1, c2, c4, c6, ↓reduceIte, Bool.false_eq_true]) | (simp only [raC, raV, hp1, c2, c4, c6, ↓reduceIte, Bool.false_eq_true]; rfl), rfl, rfl⟩))
        · exact thrown hx hb hfl hown ht hE hS hP hl.1 hml gw_821 gw_76 dX8_ratio_38 dX8_ratio_41 dX8_ratio_42 dX8_ratio_45 hX ⟨by decide, by decide, by decide, by decide⟩ hlk (by simp only [raC, raV, hp1, c2, c4, c6, ↓reduceIte, Bool.false_eq_true])
set_option maxHeartbeats 4000000 in
set_option maxRecDepth 100000 in
theorem c_X8_price (l : Launch) (hfl : l.stackTraces = false) (D : va_G) (ca : Nat → ClassId) (ad : Nat → Nat) (hI : Inj 158 ad) (σ : MI) (τ : ML) (x mo w : Int32) : XT l D (TY ca) 158 ad (cxf ca ad) yX8_price cX8_price 7 (some .int) 6 94 [.ref (ad 0), .int x, .int mo, .int w] σ τ (fun v_ S_ T_ => pcC σ x mo w = true ∧ some (.int (pcV σ x mo w)) = v_ ∧ σ = S_ ∧ τ = T_) (pcC σ x mo w = false) := by
  refine XT.of (by decide) (Nat.le_of_ble_eq_true rfl) ?_
  intro p e s m args below meth c hx hb hr ht hown hlk hml hP hK hN hS ls hl hE hX
  have hl : lv_has ls 7 [(0, .ref (ad 0)), (1, .int x), (2, .int mo), (3, .int w)] := hl
  have hbz := bz_lt (σ 0 1)
  refine lv_aload_n hx hb dX8_price_0 rfl (lv_at hl 0 rfl) ?_
  refine fgetx hx hb ht inG8 hown hK hP (k := 0) (by decide) (x := (σ 0)) rfl (sh_desk _ _) rfl 1 (by decide) gw_352 (v := .ref (ad (44 + 57 * (bz ((σ 0) 1))))) rfl dX8_price_1 ?_
  refine lv_iload_n hx hb dX8_price_4 rfl (lv_at hl 1 rfl) ?_
  refine callv (y := yX0_contractAt) ⟨hx, hb, hml, hown, ht⟩ hK hN hP hS (k := (44 + 57 * (bz ((σ 0) 1)))) (c_X0_contractAt l D ca ad hI σ τ (bz_lt _) x) (by have b0_ : (bz ((σ 0) 1)) < 2 := (bz_lt _); omega) (sh_book _ _ (bz_lt _)) rfl ok_X0_contractAt gw_635 ⟨by decide, by decide⟩ rfl hl.1 rfl (Nat.le_of_ble_eq_true rfl) ⟨by decide, by decide⟩ dX8_price_5 (fun v_ S_ T_ H locs hp1 hP hS => ?_)
  rcases hp1 with ⟨hp1, rfl, rfl, rfl⟩ | ⟨hp1, rfl, rfl, rfl⟩
  · try dsimp only [Option.toList, List.cons_append, List.nil_append]
    refine lv_astoreN (lv' := [(4, .null), (0, .ref (ad 0)), (1, .int x), (2, .int mo), (3, .int w)]) hx hb dX8_price_8 hl (by decide) rfl (fun ls hl => ?_)
    refine lv_aloadN hx hb dX8_price_10 (lv_at hl 0 rfl) ?_
    refine lv_ifnullN (tgt := 37) hx hb dX8_price_12 (by decide) ?_
    exact thrown hx hb hfl hown ht hE hS hP hl.1 hml gw_821 gw_76 dX8_price_37 dX8_price_40 dX8_price_41 dX8_price_44 hX ⟨by decide, by decide, by decide, by decide⟩ hlk (by simp only [pcC, pcV, pcF, pcM, hp1, ↓reduceIte, Bool.false_eq_true])
  · try dsimp only [Option.toList, List.cons_append, List.nil_append]
    have hXhp1 := (inC_6 hp1)
    refine lv_astore (lv' := [(4, .ref (ad (83 + 57 * (bz ((σ 0) 1)) + 3 * x.toNatClampNeg))), (0, .ref (ad 0)), (1, .int x), (2, .int mo), (3, .int w)]) hx hb dX8_price_8 hl (by decide) rfl (fun ls hl => ?_)
    refine lv_aload hx hb dX8_price_10 (lv_at hl 0 rfl) ?_
    refine lv_ifnull hx hb dX8_price_12 ?_
    refine lv_aload_n hx hb dX8_price_15 rfl (lv_at hl 1 rfl) ?_
    refine fgetx hx hb ht inG8 hown hK hP (k := 0) (by decide) (x := (σ 0)) rfl (sh_desk _ _) rfl 1 (by decide) gw_352 (v := .ref (ad (44 + 57 * (bz ((σ 0) 1))))) rfl dX8_price_16 ?_
    refine lv_aload hx hb dX8_price_19 (lv_at hl 0 rfl) ?_
    refine lv_iload_n hx hb dX8_price_21 rfl (lv_at hl 3 rfl) ?_
    refine callv (y := yX0_isPriced) ⟨hx, hb, hml, hown, ht⟩ hK hN hP hS (k := (44 + 57 * (bz ((σ 0) 1)))) (c_X0_isPriced l D ca ad hI σ τ (bz_lt _) (inC_6 hp1) mo) (by have b0_ : (bz ((σ 0) 1)) < 2 := (bz_lt _); omega) (sh_book _ _ (bz_lt _)) rfl ok_X0_isPriced gw_743 ⟨by decide, by decide⟩ rfl hl.1 rfl (Nat.le_of_ble_eq_true rfl) ⟨by decide, by decide⟩ dX8_price_22 (fun v_ S_ T_ H locs hp2 hP hS => ?_)
    obtain ⟨rfl, rfl, rfl⟩ := hp2
    try dsimp only [Option.toList, List.cons_append, List.nil_append]
    refine br_eq (tgt := 37) hx hb dX8_price_25 (by decide) (fun c3 => ?_) (fun c3 => ?_)
    · exact thrown hx hb hfl hown ht hE hS hP hl.1 hml gw_821 gw_76 dX8_price_37 dX8_price_40 dX8_price_41 dX8_price_44 hX ⟨by decide, by decide, by decide, by decide⟩ hlk (by simp only [pcC, pcV, pcF, pcM, hp1, c3, ↓reduceIte, Bool.false_eq_true])
    · refine lv_iload_n hx hb dX8_price_28 rfl (lv_at hl 4 rfl) ?_
      refine lv_if_lt (tgt := 37) hx hb dX8_price_29 (by decide) (fun c4 => ?_) (fun c4 => ?_)
      · have dc4 := c4
        rw [i_lt] at dc4
        exact thrown hx hb hfl hown ht hE hS hP hl.1 hml gw_821 gw_76 dX8_price_37 dX8_price_40 dX8_price_41 dX8_price_44 hX ⟨by decide, by decide, by decide, by decide⟩ hlk (by simp only [pcC, pcV, pcF, pcM, hp1, c3, c4, ↓reduceIte, Bool.false_eq_true])
      · have dc4 := c4
        rw [i_lt] at dc4
        refine lv_iload_n hx hb dX8_price_32 rfl (lv_at hl 4 rfl) ?_
        refine lv_iconst (v := 2) hx hb dX8_price_33 (by decide) ?_
        refine lv_icmp_le (tgt := 45) hx hb dX8_price_34 (by decide) (fun c5 => ?_) (fun c5 => ?_)
        · have dc5 := c5
          rw [i_le] at dc5
          refine lv_aload_n hx hb dX8_price_45 rfl (lv_at hl 1 rfl) ?_
          refine fgetx hx hb ht inG8 hown hK hP (k := 0) (by decide) (x := (σ 0)) rfl (sh_desk _ _) rfl 1 (by decide) gw_352 (v := .ref (ad (44 + 57 * (bz ((σ 0) 1))))) rfl dX8_price_46 ?_
          refine lv_aload hx hb dX8_price_49 (lv_at hl 0 rfl) ?_
          refine lv_iload_n hx hb dX8_price_51 rfl (lv_at hl 3 rfl) ?_
          refine callv (y := yX0_factorOf) ⟨hx, hb, hml, hown, ht⟩ hK hN hP hS (k := (44 + 57 * (bz ((σ 0) 1)))) (c_X0_factorOf l D ca ad hI σ τ (bz_lt _) (inC_6 hp1) mo) (by have b0_ : (bz ((σ 0) 1)) < 2 := (bz_lt _); omega) (sh_book _ _ (bz_lt _)) rfl ok_X0_factorOf gw_890 ⟨by decide, by decide⟩ rfl hl.1 rfl (Nat.le_of_ble_eq_true rfl) ⟨by decide, by decide⟩ dX8_price_52 (fun v_ S_ T_ H locs hp6 hP hS => ?_)
          obtain ⟨rfl, rfl, rfl⟩ := hp6
          try dsimp only [Option.toList, List.cons_append, List.nil_append]
          refine lv_istore (lv' := [(5, .int (facS σ (bz ((σ 0) 1)) x.toNatClampNeg mo)), (4, .ref (ad (83 + 57 * (bz ((σ 0) 1)) + 3 * x.toNatClampNeg))), (0, .ref (ad 0)), (1, .int x), (2, .int mo), (3, .int w)]) hx hb dX8_price_55 hl (by decide) rfl (fun ls hl => ?_)
          refine lv_iload_n hx hb dX8_price_57 rfl (lv_at hl 5 rfl) ?_
          refine lv_if_ne (tgt := 64) hx hb dX8_price_58 (by decide) (fun c7 => ?_) (fun c7 => ?_)
          · have dc7 := c7
            rw [i_eq] at dc7
            refine lv_aload hx hb dX8_price_64 (lv_at hl 1 rfl) ?_
            refine lv_iload hx hb dX8_price_66 (lv_at hl 0 rfl) ?_
            refine callv (y := yX1_moveBy) ⟨hx, hb, hml, hown, ht⟩ hK hN hP hS (k := (83 + 57 * (bz ((σ 0) 1)) + 3 * x.toNatClampNeg)) (c_X1_moveBy l D ca ad hI σ τ (bz_lt _) (inC_6 hp1) (facS σ (bz ((σ 0) 1)) x.toNatClampNeg mo)) (by have b0_ : (bz ((σ 0) 1)) < 2 := (bz_lt _); have b1_ : x.toNatClampNeg < 6 := (inC_6 hp1); omega) (sh_cont _ _ (bz_lt _) (inC_6 hp1)) rfl ok_X1_moveBy gw_891 ⟨by decide, by decide⟩ rfl hl.1 rfl (Nat.le_of_ble_eq_true rfl) ⟨by decide, by decide⟩ dX8_price_68 (fun v_ S_ T_ H locs hp8 hP hS => ?_)
            obtain ⟨rfl, rfl, rfl⟩ := hp8
            try dsimp only [Option.toList, List.cons_append, List.nil_append]
            refine lv_istore (lv' := [(6, .int (mvS (σ (83 + 57 * (bz ((σ 0) 1)) + 3 * x.toNatClampNeg) 3) (σ (83 + 57 * (bz ((σ 0) 1)) + 3 * x.toNatClampNeg) 4) (σ (83 + 57 * (bz ((σ 0) 1)) + 3 * x.toNatClampNeg) 5) (facS σ (bz ((σ 0) 1)) x.toNatClampNeg mo))), (5, .int (facS σ (bz ((σ 0) 1)) x.toNatClampNeg mo)), (4, .ref (ad (83 + 57 * (bz ((σ 0) 1)) + 3 * x.toNatClampNeg))), (0, .ref (ad 0)), (1, .int x), (2, .int mo), (3, .int w)]) hx hb dX8_price_71 hl (by decide) rfl (fun ls hl => ?_)
            refine lv_iload_n hx hb dX8_price_73 rfl (lv_at hl 6 rfl) ?_
            refine lv_iconst (v := 1) hx hb dX8_price_74 (by decide) ?_
            refine lv_icmp_ne (tgt := 83) hx hb dX8_price_75 (by decide) (fun c9 => ?_) (fun c9 => ?_)
            · have dc9 := c9
              rw [i_eq] at dc9
              refine lv_aload hx hb dX8_price_83 (lv_at hl 2 rfl) ?_
              refine lv_iload hx hb dX8_price_85 (lv_at hl 0 rfl) ?_
              refine callv (y := yX1_priceBy) ⟨hx, hb, hml, hown, ht⟩ hK hN hP hS (k := (83 + 57 * (bz ((σ 0) 1)) + 3 * x.toNatClampNeg)) (c_X1_priceBy l D ca ad hI σ τ (bz_lt _) (inC_6 hp1) (mvS (σ (83 + 57 * (bz ((σ 0) 1)) + 3 * x.toNatClampNeg) 3) (σ (83 + 57 * (bz ((σ 0) 1)) + 3 * x.toNatClampNeg) 4) (σ (83 + 57 * (bz ((σ 0) 1)) + 3 * x.toNatClampNeg) 5) (facS σ (bz ((σ 0) 1)) x.toNatClampNeg mo))) (by have b0_ : (bz ((σ 0) 1)) < 2 := (bz_lt _); have b1_ : x.toNatClampNeg < 6 := (inC_6 hp1); omega) (sh_cont _ _ (bz_lt _) (inC_6 hp1)) rfl ok_X1_priceBy gw_892 ⟨by decide, by decide⟩ rfl hl.1 rfl (Nat.le_of_ble_eq_true rfl) ⟨by decide, by decide⟩ dX8_price_87 (fun v_ S_ T_ H locs hp10 hP hS => ?_)
              obtain ⟨rfl, rfl, rfl⟩ := hp10
              try dsimp only [Option.toList, List.cons_append, List.nil_append]
              exact rx (ret_i hx hb hr hlk hP hS dX8_price_90 (⟨by simp only [pcC, pcV, pcF, pcM, hp1, c3, c4, c5, c7, c9, ↓reduceIte, Bool.false_eq_true], by first | rfl | (simp only [pcC, pcV, pcF, pcM, hp1, c3, c4, c5, c7, c9, ↓reduceIte, Bool.false_eq_true]) | (simp only [pcC, pcV, pcF, pcM, hp1, c3, c4, c5, c7, c9, ↓reduceIte, Bool.false_eq_true]; rfl), rfl, rfl⟩))
            · have dc9 := c9
              rw [i_eq] at dc9
              refine lv_iload hx hb dX8_price_78 (lv_at hl 0 rfl) ?_
              refine lv_goto (tgt := 90) hx hb dX8_price_80 (by decide) ?_
              exact rx (ret_i hx hb hr hlk hP hS dX8_price_90 (⟨by simp only [pcC, pcV, pcF, pcM, hp1, c3, c4, c5, c7, (eq_true c9), ↓reduceIte, Bool.false_eq_true], by first | rfl | (simp only [pcC, pcV, pcF, pcM, hp1, c3, c4, c5, c7, (eq_true c9), ↓reduceIte, Bool.false_eq_true]) | (simp only [pcC, pcV, pcF, pcM, hp1, c3, c4, c5, c7, (eq_true c9), ↓reduceIte, Bool.false_eq_true]; rfl), rfl, rfl⟩))
          · have dc7 := c7
            rw [i_eq] at dc7
            refine lv_iload hx hb dX8_price_61 (lv_at hl 0 rfl) ?_
            exact rx (ret_i hx hb hr hlk hP hS dX8_price_63 (⟨by simp only [pcC, pcV, pcF, pcM, hp1, c3, c4, c5, (eq_true c7), ↓reduceIte, Bool.false_eq_true], by first | rfl | (simp only [pcC, pcV, pcF, pcM, hp1, c3, c4, c5, (eq_true c7), ↓reduceIte, Bool.false_eq_true]) | (simp only [pcC, pcV, pcF, pcM, hp1, c3, c4, c5, (eq_true c7), ↓reduceIte, Bool.false_eq_true]; rfl), rfl, rfl⟩))
        · have dc5 := c5
          rw [i_le] at dc5
          exact thrown hx hb hfl hown ht hE hS hP hl.1 hml gw_821 gw_76 dX8_price_37 dX8_price_40 dX8_price_41 dX8_price_44 hX ⟨by decide, by decide, by decide, by decide⟩ hlk (by simp only [pcC, pcV, pcF, pcM, hp1, c3, c4, c5, ↓reduceIte, Bool.false_eq_true])
set_option maxHeartbeats 4000000 in
set_option maxRecDepth 100000 in
theorem c_X8_amount (l : Launch) (hfl : l.stackTraces = false) (D : va_G) (ca : Nat → ClassId) (ad : Nat → Nat) (hI : Inj 158 ad) (σ : MI) (τ : ML) (x w : Int32) : XT l D (TY ca) 158 ad (cxf ca ad) yX8_amount cX8_amount 4 (some .long) 6 81 [.ref (ad 0), .int x, .int w] σ τ (fun v_ S_ T_ => amC σ x w = true ∧ some (.long (amV σ τ x w)) = v_ ∧ σ = S_ ∧ τ = T_) (amC σ x w = false) := by
  refine XT.of (by decide) (Nat.le_of_ble_eq_true rfl) ?_
  intro p e s m args below meth c hx hb hr ht hown hlk hml hP hK hN hS ls hl hE hX
  have hl : lv_has ls 4 [(0, .ref (ad 0)), (1, .int x), (2, .int w)] := hl
  have hbz := bz_lt (σ 0 1)
  refine lv_aload_n hx hb dX8_amount_0 rfl (lv_at hl 0 rfl) ?_
  refine fgetx hx hb ht inG8 hown hK hP (k := 0) (by decide) (x := (σ 0)) rfl (sh_desk _ _) rfl 2 (by decide) gw_353 (v := .ref (ad 12)) rfl dX8_amount_1 ?_
  refine lv_iload_n hx hb dX8_amount_4 rfl (lv_at hl 1 rfl) ?_
  refine callv (y := yX5_rowAt) ⟨hx, hb, hml, hown, ht⟩ hK hN hP hS (k := 12) (c_X5_rowAt l D ca ad hI σ τ x) (by decide) (sh_ledg _ _) rfl ok_X5_rowAt gw_702 ⟨by decide, by decide⟩ rfl hl.1 rfl (Nat.le_of_ble_eq_true rfl) ⟨by decide, by decide⟩ dX8_amount_5 (fun v_ S_ T_ H locs hp1 hP hS => ?_)
  rcases hp1 with ⟨hp1, rfl, rfl, rfl⟩ | ⟨hp1, rfl, rfl, rfl⟩
  · try dsimp only [Option.toList, List.cons_append, List.nil_append]
    refine lv_astore_nN (lv' := [(3, .null), (0, .ref (ad 0)), (1, .int x), (2, .int w)]) hx hb dX8_amount_8 rfl hl (by decide) rfl (fun ls hl => ?_)
    refine lv_aload_nN hx hb dX8_amount_9 rfl (lv_at hl 0 rfl) ?_
    refine lv_ifnullN (tgt := 22) hx hb dX8_amount_10 (by decide) ?_
    exact thrown hx hb hfl hown ht hE hS hP hl.1 hml gw_821 gw_76 dX8_amount_22 dX8_amount_25 dX8_amount_26 dX8_amount_29 hX ⟨by decide, by decide, by decide, by decide⟩ hlk (by simp only [amC, amV, amB, hp1, ↓reduceIte, Bool.false_eq_true])
  · try dsimp only [Option.toList, List.cons_append, List.nil_append]
    have hXhp1 := (inC_30 hp1)
    refine lv_astore_n (lv' := [(3, .ref (ad (14 + x.toNatClampNeg))), (0, .ref (ad 0)), (1, .int x), (2, .int w)]) hx hb dX8_amount_8 rfl hl (by decide) rfl (fun ls hl => ?_)
    refine lv_aload_n hx hb dX8_amount_9 rfl (lv_at hl 0 rfl) ?_
    refine lv_ifnull hx hb dX8_amount_10 ?_
    refine lv_iload_n hx hb dX8_amount_13 rfl (lv_at hl 3 rfl) ?_
    refine lv_if_lt (tgt := 22) hx hb dX8_amount_14 (by decide) (fun c2 => ?_) (fun c2 => ?_)
    · have dc2 := c2
      rw [i_lt] at dc2
      exact thrown hx hb hfl hown ht hE hS hP hl.1 hml gw_821 gw_76 dX8_amount_22 dX8_amount_25 dX8_amount_26 dX8_amount_29 hX ⟨by decide, by decide, by decide, by decide⟩ hlk (by simp only [amC, amV, amB, hp1, c2, ↓reduceIte, Bool.false_eq_true])
    · have dc2 := c2
      rw [i_lt] at dc2
      refine lv_iload_n hx hb dX8_amount_17 rfl (lv_at hl 3 rfl) ?_
      refine lv_iconst (v := 2) hx hb dX8_amount_18 (by decide) ?_
      refine lv_icmp_le (tgt := 30) hx hb dX8_amount_19 (by decide) (fun c3 => ?_) (fun c3 => ?_)
      · have dc3 := c3
        rw [i_le] at dc3
        refine lv_iload_n hx hb dX8_amount_30 rfl (lv_at hl 3 rfl) ?_
        refine lv_if_ne (tgt := 39) hx hb dX8_amount_31 (by decide) (fun c4 => ?_) (fun c4 => ?_)
        · have dc4 := c4
          rw [i_eq] at dc4
          refine lv_iload_n hx hb dX8_amount_39 rfl (lv_at hl 3 rfl) ?_
          refine lv_iconst (v := 1) hx hb dX8_amount_40 (by decide) ?_
          refine lv_icmp_ne (tgt := 51) hx hb dX8_amount_41 (by decide) (fun c5 => ?_) (fun c5 => ?_)
          · have dc5 := c5
            rw [i_eq] at dc5
            refine lv_aload_n hx hb dX8_amount_51 rfl (lv_at hl 0 rfl) ?_
            refine callv (y := yX2_billed) ⟨hx, hb, hml, hown, ht⟩ hK hN hP hS (k := (14 + x.toNatClampNeg)) (c_X2_billed l D ca ad hI σ τ (inC_30 hp1)) (by have b0_ : x.toNatClampNeg < 30 := (inC_30 hp1); omega) (sh_deli _ _ (inC_30 hp1)) rfl ok_X2_billed gw_900 ⟨by decide, by decide⟩ rfl hl.1 rfl (Nat.le_of_ble_eq_true rfl) ⟨by decide, by decide⟩ dX8_amount_52 (fun v_ S_ T_ H locs hp6 hP hS => ?_)
            obtain ⟨rfl, rfl, rfl⟩ := hp6
            try dsimp only [Option.toList, List.cons_append, List.nil_append]
            refine lv_aload_n hx hb dX8_amount_55 rfl (lv_at hl 0 rfl) ?_
            refine fgetxN hx hb ht inG2 hown hK hP (k := (14 + x.toNatClampNeg)) (by have b0_ : x.toNatClampNeg < 30 := (inC_30 hp1); omega) (x := (σ (14 + x.toNatClampNeg))) rfl (sh_deli _ _ (inC_30 hp1)) rfl 7 (by decide) (hN.get 291 nw_291 rfl) (v := .long (τ (14 + x.toNatClampNeg) 7)) rfl dX8_amount_56 ?_
            refine lv_ladd hx hb dX8_amount_59 ?_
            exact rx (ret_l hx hb hr hlk hP hS dX8_amount_60 (⟨by simp only [amC, amV, amB, hp1, c2, c3, c4, c5, ↓reduceIte, Bool.false_eq_true], by first | rfl | (simp only [amC, amV, amB, hp1, c2, c3, c4, c5, ↓reduceIte, Bool.false_eq_true]) | (simp only [amC, amV, amB, hp1, c2, c3, c4, c5, ↓reduceIte, Bool.false_eq_true]; rfl), rfl, rfl⟩))
          · have dc5 := c5
            rw [i_eq] at dc5
            refine lv_aload_n hx hb dX8_amount_44 rfl (lv_at hl 0 rfl) ?_
            refine fgetxN hx hb ht inG2 hown hK hP (k := (14 + x.toNatClampNeg)) (by have b0_ : x.toNatClampNeg < 30 := (inC_30 hp1); omega) (x := (σ (14 + x.toNatClampNeg))) rfl (sh_deli _ _ (inC_30 hp1)) rfl 7 (by decide) (hN.get 291 nw_291 rfl) (v := .long (τ (14 + x.toNatClampNeg) 7)) rfl dX8_amount_45 ?_
            refine lv_goto (tgt := 60) hx hb dX8_amount_48 (by decide) ?_
            exact rx (ret_l hx hb hr hlk hP hS dX8_amount_60 (⟨by simp only [amC, amV, amB, hp1, c2, c3, c4, (eq_true c5), ↓reduceIte, Bool.false_eq_true], by first | rfl | (simp only [amC, amV, amB, hp1, c2, c3, c4, (eq_true c5), ↓reduceIte, Bool.false_eq_true]) | (simp only [amC, amV, amB, hp1, c2, c3, c4, (eq_true c5), ↓reduceIte, Bool.false_eq_true]; rfl), rfl, rfl⟩))
        · have dc4 := c4
          rw [i_eq] at dc4
          refine lv_aload_n hx hb dX8_amount_34 rfl (lv_at hl 0 rfl) ?_
          refine callv (y := yX2_billed) ⟨hx, hb, hml, hown, ht⟩ hK hN hP hS (k := (14 + x.toNatClampNeg)) (c_X2_billed l D ca ad hI σ τ (inC_30 hp1)) (by have b0_ : x.toNatClampNeg < 30 := (inC_30 hp1); omega) (sh_deli _ _ (inC_30 hp1)) rfl ok_X2_billed gw_900 ⟨by decide, by decide⟩ rfl hl.1 rfl (Nat.le_of_ble_eq_true rfl) ⟨by decide, by decide⟩ dX8_amount_35 (fun v_ S_ T_ H locs hp7 hP hS => ?_)
          obtain ⟨rfl, rfl, rfl⟩ := hp7
          try dsimp only [Option.toList, List.cons_append, List.nil_append]
          exact rx (ret_l hx hb hr hlk hP hS dX8_amount_38 (⟨by simp only [amC, amV, amB, hp1, c2, c3, (eq_true c4), ↓reduceIte, Bool.false_eq_true], by first | rfl | (simp only [amC, amV, amB, hp1, c2, c3, (eq_true c4), ↓reduceIte, Bool.false_eq_true]) | (simp only [amC, amV, amB, hp1, c2, c3, (eq_true c4), ↓reduceIte, Bool.false_eq_true]; rfl), rfl, rfl⟩))
      · have dc3 := c3
        rw [i_le] at dc3
        exact thrown hx hb hfl hown ht hE hS hP hl.1 hml gw_821 gw_76 dX8_amount_22 dX8_amount_25 dX8_amount_26 dX8_amount_29 hX ⟨by decide, by decide, by decide, by decide⟩ hlk (by simp only [amC, amV, amB, hp1, c2, c3, ↓reduceIte, Bool.false_eq_true])
set_option maxHeartbeats 4000000 in
set_option maxRecDepth 100000 in
theorem c_X8_statement (l : Launch) (hfl : l.stackTraces = false) (D : va_G) (ca : Nat → ClassId) (ad : Nat → Nat) (hI : Inj 158 ad) (σ : MI) (τ : ML) (mo w : Int32) : XT l D (TY ca) 158 ad (cxf ca ad) yX8_statement cX8_statement 4 (some .long) 6 81 [.ref (ad 0), .int mo, .int w] σ τ (fun v_ S_ T_ => stC σ mo w = true ∧ some (.long (stV σ τ mo w)) = v_ ∧ σ = S_ ∧ τ = T_) (stC σ mo w = false) := by
  refine XT.of (by decide) (Nat.le_of_ble_eq_true rfl) ?_
  intro p e s m args below meth c hx hb hr ht hown hlk hml hP hK hN hS ls hl hE hX
  have hl : lv_has ls 4 [(0, .ref (ad 0)), (1, .int mo), (2, .int w)] := hl
  have hbz := bz_lt (σ 0 1)
  refine lv_iload_n hx hb dX8_statement_0 rfl (lv_at hl 1 rfl) ?_
  refine calls (y := yX8_isMonth) ⟨hx, hb, hml, hown, ht⟩ hK hN hP hS (c_X8_isMonth l D ca ad hI σ τ mo) ok_X8_isMonth gw_610 ⟨by decide, by decide⟩ rfl hl.1 rfl (Nat.le_of_ble_eq_true rfl) ⟨by decide, by decide⟩ dX8_statement_1 (fun v_ S_ T_ H locs hp1 hP hS => ?_)
  obtain ⟨rfl, rfl, rfl⟩ := hp1
  try dsimp only [Option.toList, List.cons_append, List.nil_append]
  refine br_eq (tgt := 16) hx hb dX8_statement_4 (by decide) (fun c2 => ?_) (fun c2 => ?_)
  · exact thrown hx hb hfl hown ht hE hS hP hl.1 hml gw_821 gw_76 dX8_statement_16 dX8_statement_19 dX8_statement_20 dX8_statement_23 hX ⟨by decide, by decide, by decide, by decide⟩ hlk (by simp only [stC, stV, c2, ↓reduceIte, Bool.false_eq_true])
  · refine lv_iload_n hx hb dX8_statement_7 rfl (lv_at hl 2 rfl) ?_
    refine lv_if_lt (tgt := 16) hx hb dX8_statement_8 (by decide) (fun c3 => ?_) (fun c3 => ?_)
    · have dc3 := c3
      rw [i_lt] at dc3
      exact thrown hx hb hfl hown ht hE hS hP hl.1 hml gw_821 gw_76 dX8_statement_16 dX8_statement_19 dX8_statement_20 dX8_statement_23 hX ⟨by decide, by decide, by decide, by decide⟩ hlk (by simp only [stC, stV, c2, c3, ↓reduceIte, Bool.false_eq_true])
    · have dc3 := c3
      rw [i_lt] at dc3
      refine lv_iload_n hx hb dX8_statement_11 rfl (lv_at hl 2 rfl) ?_
      refine lv_iconst (v := 3) hx hb dX8_statement_12 (by decide) ?_
      refine lv_icmp_le (tgt := 24) hx hb dX8_statement_13 (by decide) (fun c4 => ?_) (fun c4 => ?_)
      · have dc4 := c4
        rw [i_le] at dc4
        refine lv_iload_n hx hb dX8_statement_24 rfl (lv_at hl 2 rfl) ?_
        refine lv_if_ne (tgt := 38) hx hb dX8_statement_25 (by decide) (fun c5 => ?_) (fun c5 => ?_)
        · have dc5 := c5
          rw [i_eq] at dc5
          refine lv_iload_n hx hb dX8_statement_38 rfl (lv_at hl 2 rfl) ?_
          refine lv_iconst (v := 1) hx hb dX8_statement_39 (by decide) ?_
          refine lv_icmp_ne (tgt := 53) hx hb dX8_statement_40 (by decide) (fun c6 => ?_) (fun c6 => ?_)
          · have dc6 := c6
            rw [i_eq] at dc6
            refine lv_iload_n hx hb dX8_statement_53 rfl (lv_at hl 2 rfl) ?_
            refine lv_iconst (v := 2) hx hb dX8_statement_54 (by decide) ?_
            refine lv_icmp_ne (tgt := 62) hx hb dX8_statement_55 (by decide) (fun c7 => ?_) (fun c7 => ?_)
            · have dc7 := c7
              rw [i_eq] at dc7
              refine lv_iconst (v := 0) hx hb dX8_statement_62 (by decide) ?_
              refine lv_istore_n (lv' := [(3, .int 0), (0, .ref (ad 0)), (1, .int mo), (2, .int w)]) hx hb dX8_statement_63 rfl hl (by decide) rfl (fun ls hl => ?_)
              refine lv_aload_n hx hb dX8_statement_64 rfl (lv_at hl 1 rfl) ?_
              refine fgetx hx hb ht inG8 hown hK hP (k := 0) (by decide) (x := (σ 0)) rfl (sh_desk _ _) rfl 2 (by decide) gw_353 (v := .ref (ad 12)) rfl dX8_statement_65 ?_
              refine lv_iload_n hx hb dX8_statement_68 rfl (lv_at hl 0 rfl) ?_
              refine lv_iload_n hx hb dX8_statement_69 rfl (lv_at hl 2 rfl) ?_
              refine callv (y := yX5_billedFrom) ⟨hx, hb, hml, hown, ht⟩ hK hN hP hS (k := 12) (c_X5_billedFrom l D ca ad hI σ τ (0 : Int32) mo) (by decide) (sh_ledg _ _) rfl ok_X5_billedFrom gw_908 ⟨by decide, by decide⟩ rfl hl.1 rfl (Nat.le_of_ble_eq_true rfl) ⟨by decide, by decide⟩ dX8_statement_70 (fun v_ S_ T_ H locs hp8 hP hS => ?_)
              obtain ⟨rfl, rfl, rfl⟩ := hp8
              try dsimp only [Option.toList, List.cons_append, List.nil_append]
              refine lv_aload_n hx hb dX8_statement_73 rfl (lv_at hl 1 rfl) ?_
              refine fgetx hx hb ht inG8 hown hK hP (k := 0) (by decide) (x := (σ 0)) rfl (sh_desk _ _) rfl 2 (by decide) gw_353 (v := .ref (ad 12)) rfl dX8_statement_74 ?_
              refine lv_iload_n hx hb dX8_statement_77 rfl (lv_at hl 0 rfl) ?_
              refine lv_iload_n hx hb dX8_statement_78 rfl (lv_at hl 2 rfl) ?_
              refine callv (y := yX5_truedFrom) ⟨hx, hb, hml, hown, ht⟩ hK hN hP hS (k := 12) (c_X5_truedFrom l D ca ad hI σ τ (0 : Int32) mo) (by decide) (sh_ledg _ _) rfl ok_X5_truedFrom gw_913 ⟨by decide, by decide⟩ rfl hl.1 rfl (Nat.le_of_ble_eq_true rfl) ⟨by decide, by decide⟩ dX8_statement_79 (fun v_ S_ T_ H locs hp9 hP hS => ?_)
              obtain ⟨rfl, rfl, rfl⟩ := hp9
              try dsimp only [Option.toList, List.cons_append, List.nil_append]
              refine lv_ladd hx hb dX8_statement_82 ?_
              exact rx (ret_l hx hb hr hlk hP hS dX8_statement_83 (⟨by simp only [stC, stV, c2, c3, c4, c5, c6, c7, ↓reduceIte, Bool.false_eq_true], by first | rfl | (simp only [stC, stV, c2, c3, c4, c5, c6, c7, ↓reduceIte, Bool.false_eq_true]) | (simp only [stC, stV, c2, c3, c4, c5, c6, c7, ↓reduceIte, Bool.false_eq_true]; rfl), rfl, rfl⟩))
            · have dc7 := c7
              rw [i_eq] at dc7
              refine lv_iload_n hx hb dX8_statement_58 rfl (lv_at hl 1 rfl) ?_
              refine lv_goto (tgt := 63) hx hb dX8_statement_59 (by decide) ?_
              refine lv_istore_n (lv' := [(3, .int mo), (0, .ref (ad 0)), (1, .int mo), (2, .int w)]) hx hb dX8_statement_63 rfl hl (by decide) rfl (fun ls hl => ?_)
              refine lv_aload_n hx hb dX8_statement_64 rfl (lv_at hl 1 rfl) ?_
              refine fgetx hx hb ht inG8 hown hK hP (k := 0) (by decide) (x := (σ 0)) rfl (sh_desk _ _) rfl 2 (by decide) gw_353 (v := .ref (ad 12)) rfl dX8_statement_65 ?_
              refine lv_iload_n hx hb dX8_statement_68 rfl (lv_at hl 0 rfl) ?_
              refine lv_iload_n hx hb dX8_statement_69 rfl (lv_at hl 2 rfl) ?_
              refine callv (y := yX5_billedFrom) ⟨hx, hb, hml, hown, ht⟩ hK hN hP hS (k := 12) (c_X5_billedFrom l D ca ad hI σ τ mo mo) (by decide) (sh_ledg _ _) rfl ok_X5_billedFrom gw_908 ⟨by decide, by decide⟩ rfl hl.1 rfl (Nat.le_of_ble_eq_true rfl) ⟨by decide, by decide⟩ dX8_statement_70 (fun v_ S_ T_ H locs hp10 hP hS => ?_)
              obtain ⟨rfl, rfl, rfl⟩ := hp10
              try dsimp only [Option.toList, List.cons_append, List.nil_append]
              refine lv_aload_n hx hb dX8_statement_73 rfl (lv_at hl 1 rfl) ?_
              refine fgetx hx hb ht inG8 hown hK hP (k := 0) (by decide) (x := (σ 0)) rfl (sh_desk _ _) rfl 2 (by decide) gw_353 (v := .ref (ad 12)) rfl dX8_statement_74 ?_
              refine lv_iload_n hx hb dX8_statement_77 rfl (lv_at hl 0 rfl) ?_
              refine lv_iload_n hx hb dX8_statement_78 rfl (lv_at hl 2 rfl) ?_
              refine callv (y := yX5_truedFrom) ⟨hx, hb, hml, hown, ht⟩ hK hN hP hS (k := 12) (c_X5_truedFrom l D ca ad hI σ τ mo mo) (by decide) (sh_ledg _ _) rfl ok_X5_truedFrom gw_913 ⟨by decide, by decide⟩ rfl hl.1 rfl (Nat.le_of_ble_eq_true rfl) ⟨by decide, by decide⟩ dX8_statement_79 (fun v_ S_ T_ H locs hp11 hP hS => ?_)
              obtain ⟨rfl, rfl, rfl⟩ := hp11
              try dsimp only [Option.toList, List.cons_append, List.nil_append]
              refine lv_ladd hx hb dX8_statement_82 ?_
              exact rx (ret_l hx hb hr hlk hP hS dX8_statement_83 (⟨by simp only [stC, stV, c2, c3, c4, c5, c6, (eq_true c7), ↓reduceIte, Bool.false_eq_true], by first | rfl | (simp only [stC, stV, c2, c3, c4, c5, c6, (eq_true c7), ↓reduceIte, Bool.false_eq_true]) | (simp only [stC, stV, c2, c3, c4, c5, c6, (eq_true c7), ↓reduceIte, Bool.false_eq_true]; rfl), rfl, rfl⟩))
          · have dc6 := c6
            rw [i_eq] at dc6
            refine lv_aload_n hx hb dX8_statement_43 rfl (lv_at hl 0 rfl) ?_
            refine fgetx hx hb ht inG8 hown hK hP (k := 0) (by decide) (x := (σ 0)) rfl (sh_desk _ _) rfl 2 (by decide) gw_353 (v := .ref (ad 12)) rfl dX8_statement_44 ?_
            refine lv_iload_n hx hb dX8_statement_47 rfl (lv_at hl 1 rfl) ?_
            refine lv_iload_n hx hb dX8_statement_48 rfl (lv_at hl 1 rfl) ?_
            refine callv (y := yX5_truedFrom) ⟨hx, hb, hml, hown, ht⟩ hK hN hP hS (k := 12) (c_X5_truedFrom l D ca ad hI σ τ mo mo) (by decide) (sh_ledg _ _) rfl ok_X5_truedFrom gw_913 ⟨by decide, by decide⟩ rfl hl.1 rfl (Nat.le_of_ble_eq_true rfl) ⟨by decide, by decide⟩ dX8_statement_49 (fun v_ S_ T_ H locs hp12 hP hS => ?_)
            obtain ⟨rfl, rfl, rfl⟩ := hp12
            try dsimp only [Option.toList, List.cons_append, List.nil_append]
            exact rx (ret_l hx hb hr hlk hP hS dX8_statement_52 (⟨by simp only [stC, stV, c2, c3, c4, c5, (eq_true c6), ↓reduceIte, Bool.false_eq_true], by first | rfl | (simp only [stC, stV, c2, c3, c4, c5, (eq_true c6), ↓reduceIte, Bool.false_eq_true]) | (simp only [stC, stV, c2, c3, c4, c5, (eq_true c6), ↓reduceIte, Bool.false_eq_true]; rfl), rfl, rfl⟩))
        · have dc5 := c5
          rw [i_eq] at dc5
          refine lv_aload_n hx hb dX8_statement_28 rfl (lv_at hl 0 rfl) ?_
          refine fgetx hx hb ht inG8 hown hK hP (k := 0) (by decide) (x := (σ 0)) rfl (sh_desk _ _) rfl 2 (by decide) gw_353 (v := .ref (ad 12)) rfl dX8_statement_29 ?_
          refine lv_iload_n hx hb dX8_statement_32 rfl (lv_at hl 1 rfl) ?_
          refine lv_iload_n hx hb dX8_statement_33 rfl (lv_at hl 1 rfl) ?_
          refine callv (y := yX5_billedFrom) ⟨hx, hb, hml, hown, ht⟩ hK hN hP hS (k := 12) (c_X5_billedFrom l D ca ad hI σ τ mo mo) (by decide) (sh_ledg _ _) rfl ok_X5_billedFrom gw_908 ⟨by decide, by decide⟩ rfl hl.1 rfl (Nat.le_of_ble_eq_true rfl) ⟨by decide, by decide⟩ dX8_statement_34 (fun v_ S_ T_ H locs hp13 hP hS => ?_)
          obtain ⟨rfl, rfl, rfl⟩ := hp13
          try dsimp only [Option.toList, List.cons_append, List.nil_append]
          exact rx (ret_l hx hb hr hlk hP hS dX8_statement_37 (⟨by simp only [stC, stV, c2, c3, c4, (eq_true c5), ↓reduceIte, Bool.false_eq_true], by first | rfl | (simp only [stC, stV, c2, c3, c4, (eq_true c5), ↓reduceIte, Bool.false_eq_true]) | (simp only [stC, stV, c2, c3, c4, (eq_true c5), ↓reduceIte, Bool.false_eq_true]; rfl), rfl, rfl⟩))
      · have dc4 := c4
        rw [i_le] at dc4
        exact thrown hx hb hfl hown ht hE hS hP hl.1 hml gw_821 gw_76 dX8_statement_16 dX8_statement_19 dX8_statement_20 dX8_statement_23 hX ⟨by decide, by decide, by decide, by decide⟩ hlk (by simp only [stC, stV, c2, c3, c4, ↓reduceIte, Bool.false_eq_true])
