set_option maxHeartbeats 4000000 in
set_option maxRecDepth 100000 in
theorem c_X9_now (l : Launch) (D : va_G) (ca : Nat → ClassId) (ad : Nat → Nat) (hI : Inj 6 ad) (σ : MI) (τ : ML) (hR : RI (σ 2)) (w : Int32) : CT l D (TY ca) 6 ad (mxf ca ad) yX9_now cX9_now 2 (some .int) 2 44 [.ref (ad 0), .int w] σ τ (fun v_ S_ T_ => some (.int (mNow σ w)) = v_ ∧ (s2 σ 0 0 0) = S_ ∧ τ = T_) := by
  refine CT.of (by decide) (Nat.le_of_ble_eq_true rfl) ?_
  intro p e s m args below meth c hx hb hr ht hown hlk hml hP hK hN hS ls hl
  have hl : lv_has ls 2 [(0, .ref (ad 0)), (1, .int w)] := hl
  refine lv_aload_n hx hb dX9_now_0 rfl (lv_at hl 0 rfl) ?_
  refine lv_iconst (v := 0) hx hb dX9_now_1 (by decide) ?_
  refine fputx (ref := "") (w := 0) hx hb ht inG9 tyX9 tyX9_ok nmX9 hown hK hP hI hS (k := 0) (by decide) (sm_obj _ _) rfl 0 (by decide) gw_939 rfl rfl rfl (Nat.le_of_ble_eq_true rfl) (sm_obj _ _) dX9_now_2 (fun H locs hP hS => ?_)
  refine lv_iload_n hx hb dX9_now_5 rfl (lv_at hl 1 rfl) ?_
  rcases tab_cases w 7 (by decide) with c1 | ⟨k_, hk_, c1⟩
  · refine lv_tableOut (tgt := 93) hx hb dX9_now_6 (by omega) (by decide) ?_
    refine lv_iconst (v := -1) hx hb dX9_now_93 (by decide) ?_
    exact ret_i hx hb hr hlk hP hS dX9_now_94 (⟨by first | with_reducible rfl | (simp only [mNow, swt_out c1, ↓reduceIte, Bool.false_eq_true]; done) | (simp only [mNow, swt_out c1, ↓reduceIte, Bool.false_eq_true]; rfl) | rfl, by first | with_reducible rfl | (simp only [mNow, swt_out c1, ↓reduceIte, Bool.false_eq_true]; done) | (simp only [mNow, swt_out c1, ↓reduceIte, Bool.false_eq_true]; rfl) | rfl, rfl⟩)
  · rcases (by omega : k_ = 0 ∨ k_ = 1 ∨ k_ = 2 ∨ k_ = 3 ∨ k_ = 4 ∨ k_ = 5 ∨ k_ = 6) with rfl | rfl | rfl | rfl | rfl | rfl | rfl
    · refine lv_tableIn (tgt := 48) hx hb dX9_now_6 (by rw [c1]; decide) (by rw [c1]; decide) (by rw [c1]; rfl) (by decide) ?_
      refine lv_aload_n hx hb dX9_now_48 rfl (lv_at hl 0 rfl) ?_
      refine callv (y := yX9_month) ⟨hx, hb, hml, hown, ht⟩ hK hN hP hS (k := 0) (c_X9_month l D ca ad hI (s2 σ 0 0 0) τ ) (by decide) (sm_obj _ _) rfl ok_X9_month gw_1089 ⟨by decide, by decide⟩ rfl hl.1 rfl (Nat.le_of_ble_eq_true rfl) ⟨by decide, by decide⟩ dX9_now_49 (fun v_ S_ T_ H locs hp2 hP hS => ?_)
      obtain ⟨rfl, rfl, rfl⟩ := hp2
      try dsimp only [Option.toList, List.cons_append, List.nil_append]
      refine stk_i (v := ((σ 2) 0)) (by first | (rw [(show (s2 σ 0 0 0) 2 = (σ 2) from (s2_nk _ _ _ (by omega)))]; done) | (rw [(show (s2 σ 0 0 0) 2 = (σ 2) from (s2_nk _ _ _ (by omega)))]; rfl)) ?_
      exact ret_i hx hb hr hlk hP hS dX9_now_52 (⟨by first | with_reducible rfl | (simp only [mNow, c1, ↓reduceIte, Bool.false_eq_true]; done) | (simp only [mNow, c1, ↓reduceIte, Bool.false_eq_true]; rfl) | rfl, by first | with_reducible rfl | (simp only [mNow, c1, ↓reduceIte, Bool.false_eq_true]; done) | (simp only [mNow, c1, ↓reduceIte, Bool.false_eq_true]; rfl) | rfl, rfl⟩)
    · refine lv_tableIn (tgt := 53) hx hb dX9_now_6 (by rw [c1]; decide) (by rw [c1]; decide) (by rw [c1]; rfl) (by decide) ?_
      refine lv_aload_n hx hb dX9_now_53 rfl (lv_at hl 0 rfl) ?_
      refine fgetx hx hb ht inG9 hown hK hP (k := 0) (by decide) (x := (upd (σ 0) 0 0)) (s2_k _ _ _ _) (sm_obj _ _) rfl 12 (by decide) gw_951 (v := .ref (ad 2)) rfl dX9_now_54 ?_
      refine lv_iconst (v := 1) hx hb dX9_now_57 (by decide) ?_
      refine aldj hx hb hK hP (k := 2) (by decide) (x := (σ 2)) (s2_nk _ _ _ (by omega)) 0 (sm_now _ _) rfl (by rw [vp_in_iff]; decide) (j := 1) rfl dX9_now_58 ?_
      exact ret_i hx hb hr hlk hP hS dX9_now_59 (⟨by first | with_reducible rfl | (simp only [mNow, c1, ↓reduceIte, Bool.false_eq_true]; done) | (simp only [mNow, c1, ↓reduceIte, Bool.false_eq_true]; rfl) | rfl, by first | with_reducible rfl | (simp only [mNow, c1, ↓reduceIte, Bool.false_eq_true]; done) | (simp only [mNow, c1, ↓reduceIte, Bool.false_eq_true]; rfl) | rfl, rfl⟩)
    · refine lv_tableIn (tgt := 60) hx hb dX9_now_6 (by rw [c1]; decide) (by rw [c1]; decide) (by rw [c1]; rfl) (by decide) ?_
      refine lv_aload_n hx hb dX9_now_60 rfl (lv_at hl 0 rfl) ?_
      refine fgetx hx hb ht inG9 hown hK hP (k := 0) (by decide) (x := (upd (σ 0) 0 0)) (s2_k _ _ _ _) (sm_obj _ _) rfl 12 (by decide) gw_951 (v := .ref (ad 2)) rfl dX9_now_61 ?_
      refine lv_sipush (v := 494) hx hb dX9_now_64 (by decide) ?_
      refine aldj hx hb hK hP (k := 2) (by decide) (x := (σ 2)) (s2_nk _ _ _ (by omega)) 0 (sm_now _ _) rfl (by rw [vp_in_iff]; decide) (j := 494) rfl dX9_now_67 ?_
      exact ret_i hx hb hr hlk hP hS dX9_now_68 (⟨by first | with_reducible rfl | (simp only [mNow, c1, ↓reduceIte, Bool.false_eq_true]; done) | (simp only [mNow, c1, ↓reduceIte, Bool.false_eq_true]; rfl) | rfl, by first | with_reducible rfl | (simp only [mNow, c1, ↓reduceIte, Bool.false_eq_true]; done) | (simp only [mNow, c1, ↓reduceIte, Bool.false_eq_true]; rfl) | rfl, rfl⟩)
    · refine lv_tableIn (tgt := 69) hx hb dX9_now_6 (by rw [c1]; decide) (by rw [c1]; decide) (by rw [c1]; rfl) (by decide) ?_
      refine lv_aload_n hx hb dX9_now_69 rfl (lv_at hl 0 rfl) ?_
      refine fgetx hx hb ht inG9 hown hK hP (k := 0) (by decide) (x := (upd (σ 0) 0 0)) (s2_k _ _ _ _) (sm_obj _ _) rfl 12 (by decide) gw_951 (v := .ref (ad 2)) rfl dX9_now_70 ?_
      refine lv_sipush (v := 609) hx hb dX9_now_73 (by decide) ?_
      refine aldj hx hb hK hP (k := 2) (by decide) (x := (σ 2)) (s2_nk _ _ _ (by omega)) 0 (sm_now _ _) rfl (by rw [vp_in_iff]; decide) (j := 609) rfl dX9_now_76 ?_
      exact ret_i hx hb hr hlk hP hS dX9_now_77 (⟨by first | with_reducible rfl | (simp only [mNow, c1, ↓reduceIte, Bool.false_eq_true]; done) | (simp only [mNow, c1, ↓reduceIte, Bool.false_eq_true]; rfl) | rfl, by first | with_reducible rfl | (simp only [mNow, c1, ↓reduceIte, Bool.false_eq_true]; done) | (simp only [mNow, c1, ↓reduceIte, Bool.false_eq_true]; rfl) | rfl, rfl⟩)
    · refine lv_tableIn (tgt := 78) hx hb dX9_now_6 (by rw [c1]; decide) (by rw [c1]; decide) (by rw [c1]; rfl) (by decide) ?_
      refine lv_aload_n hx hb dX9_now_78 rfl (lv_at hl 0 rfl) ?_
      refine callv (y := yX9_settled) ⟨hx, hb, hml, hown, ht⟩ hK hN hP hS (k := 0) (c_X9_settled l D ca ad hI (s2 σ 0 0 0) τ (by rw [show (s2 σ 0 0 0) 2 = (σ 2) from (s2_nk _ _ _ (by omega))]; exact hR)) (by decide) (sm_obj _ _) rfl ok_X9_settled gw_1093 ⟨by decide, by decide⟩ rfl hl.1 rfl (Nat.le_of_ble_eq_true rfl) ⟨by decide, by decide⟩ dX9_now_79 (fun v_ S_ T_ H locs hp3 hP hS => ?_)
      obtain ⟨rfl, rfl, rfl⟩ := hp3
      try dsimp only [Option.toList, List.cons_append, List.nil_append]
      refine stk_i (v := (mSet ((σ 2)) ((σ 2) 609).toNatClampNeg)) (by first | (rw [(show (s2 σ 0 0 0) 2 = (σ 2) from (s2_nk _ _ _ (by omega)))]; done) | (rw [(show (s2 σ 0 0 0) 2 = (σ 2) from (s2_nk _ _ _ (by omega)))]; rfl)) ?_
      exact ret_i hx hb hr hlk hP hS dX9_now_82 (⟨by first | with_reducible rfl | (simp only [mNow, c1, ↓reduceIte, Bool.false_eq_true]; done) | (simp only [mNow, c1, ↓reduceIte, Bool.false_eq_true]; rfl) | rfl, by first | with_reducible rfl | (simp only [mNow, c1, ↓reduceIte, Bool.false_eq_true]; done) | (simp only [mNow, c1, ↓reduceIte, Bool.false_eq_true]; rfl) | rfl, rfl⟩)
    · refine lv_tableIn (tgt := 83) hx hb dX9_now_6 (by rw [c1]; decide) (by rw [c1]; decide) (by rw [c1]; rfl) (by decide) ?_
      refine lv_aload_n hx hb dX9_now_83 rfl (lv_at hl 0 rfl) ?_
      refine fgetx hx hb ht inG9 hown hK hP (k := 0) (by decide) (x := (upd (σ 0) 0 0)) (s2_k _ _ _ _) (sm_obj _ _) rfl 16 (by decide) gw_955 (v := .int ((σ 0) 16)) rfl dX9_now_84 ?_
      exact ret_i hx hb hr hlk hP hS dX9_now_87 (⟨by first | with_reducible rfl | (simp only [mNow, c1, ↓reduceIte, Bool.false_eq_true]; done) | (simp only [mNow, c1, ↓reduceIte, Bool.false_eq_true]; rfl) | rfl, by first | with_reducible rfl | (simp only [mNow, c1, ↓reduceIte, Bool.false_eq_true]; done) | (simp only [mNow, c1, ↓reduceIte, Bool.false_eq_true]; rfl) | rfl, rfl⟩)
    · refine lv_tableIn (tgt := 88) hx hb dX9_now_6 (by rw [c1]; decide) (by rw [c1]; decide) (by rw [c1]; rfl) (by decide) ?_
      refine lv_aload_n hx hb dX9_now_88 rfl (lv_at hl 0 rfl) ?_
      refine fgetx hx hb ht inG9 hown hK hP (k := 0) (by decide) (x := (upd (σ 0) 0 0)) (s2_k _ _ _ _) (sm_obj _ _) rfl 2 (by decide) gw_941 (v := .int ((σ 0) 2)) rfl dX9_now_89 ?_
      exact ret_i hx hb hr hlk hP hS dX9_now_92 (⟨by first | with_reducible rfl | (simp only [mNow, c1, ↓reduceIte, Bool.false_eq_true]; done) | (simp only [mNow, c1, ↓reduceIte, Bool.false_eq_true]; rfl) | rfl, by first | with_reducible rfl | (simp only [mNow, c1, ↓reduceIte, Bool.false_eq_true]; done) | (simp only [mNow, c1, ↓reduceIte, Bool.false_eq_true]; rfl) | rfl, rfl⟩)
set_option maxHeartbeats 4000000 in
set_option maxRecDepth 100000 in
theorem c_X9_value (l : Launch) (D : va_G) (ca : Nat → ClassId) (ad : Nat → Nat) (hI : Inj 6 ad) (σ : MI) (τ : ML) (hR : RI (σ 2)) (x mo w : Int32) : CT l D (TY ca) 6 ad (mxf ca ad) yX9_value cX9_value 5 (some .int) 2 45 [.ref (ad 0), .int x, .int mo, .int w] σ τ (fun v_ S_ T_ => some (.int (mVal (σ 2) x mo w)) = v_ ∧ (s2 σ 0 0 0) = S_ ∧ τ = T_) := by
  refine CT.of (by decide) (Nat.le_of_ble_eq_true rfl) ?_
  intro p e s m args below meth c hx hb hr ht hown hlk hml hP hK hN hS ls hl
  have hl : lv_has ls 5 [(0, .ref (ad 0)), (1, .int x), (2, .int mo), (3, .int w)] := hl
  refine lv_aload_n hx hb dX9_value_0 rfl (lv_at hl 0 rfl) ?_
  refine lv_iconst (v := 0) hx hb dX9_value_1 (by decide) ?_
  refine fputx (ref := "") (w := 0) hx hb ht inG9 tyX9 tyX9_ok nmX9 hown hK hP hI hS (k := 0) (by decide) (sm_obj _ _) rfl 0 (by decide) gw_939 rfl rfl rfl (Nat.le_of_ble_eq_true rfl) (sm_obj _ _) dX9_value_2 (fun H locs hP hS => ?_)
  refine lv_aload_n hx hb dX9_value_5 rfl (lv_at hl 0 rfl) ?_
  refine lv_iload_n hx hb dX9_value_6 rfl (lv_at hl 1 rfl) ?_
  refine callv (y := yX9_isIndex) ⟨hx, hb, hml, hown, ht⟩ hK hN hP hS (k := 0) (c_X9_isIndex l D ca ad hI (s2 σ 0 0 0) τ x) (by decide) (sm_obj _ _) rfl ok_X9_isIndex gw_1105 ⟨by decide, by decide⟩ rfl hl.1 rfl (Nat.le_of_ble_eq_true rfl) ⟨by decide, by decide⟩ dX9_value_7 (fun v_ S_ T_ H locs hp1 hP hS => ?_)
  obtain ⟨rfl, rfl, rfl⟩ := hp1
  try dsimp only [Option.toList, List.cons_append, List.nil_append]
  refine stk_i (v := (b2i (mIn x 0 ((σ 2) 1 - 1)))) (by first | (rw [(show (s2 σ 0 0 0) 2 = (σ 2) from (s2_nk _ _ _ (by omega)))]; done) | (rw [(show (s2 σ 0 0 0) 2 = (σ 2) from (s2_nk _ _ _ (by omega)))]; rfl)) ?_
  refine br_eq (tgt := 20) hx hb dX9_value_10 (by decide) (fun c2 => ?_) (fun c2 => ?_)
  · refine lv_iconst (v := -1) hx hb dX9_value_20 (by decide) ?_
    exact ret_i hx hb hr hlk hP hS dX9_value_21 (⟨by first | with_reducible rfl | (simp only [mVal, c2, ↓reduceIte, Bool.false_eq_true]; done) | (simp only [mVal, c2, ↓reduceIte, Bool.false_eq_true]; rfl) | rfl, by first | with_reducible rfl | (simp only [mVal, c2, ↓reduceIte, Bool.false_eq_true]; done) | (simp only [mVal, c2, ↓reduceIte, Bool.false_eq_true]; rfl) | rfl, rfl⟩)
  · have vx := (mIx hR c2).1
    refine lv_iload_n hx hb dX9_value_13 rfl (lv_at hl 2 rfl) ?_
    refine calls (y := yX9_isMonth) ⟨hx, hb, hml, hown, ht⟩ hK hN hP hS (c_X9_isMonth l D ca ad hI (s2 σ 0 0 0) τ mo) ok_X9_isMonth gw_1109 ⟨by decide, by decide⟩ rfl hl.1 rfl (Nat.le_of_ble_eq_true rfl) ⟨by decide, by decide⟩ dX9_value_14 (fun v_ S_ T_ H locs hp3 hP hS => ?_)
    obtain ⟨rfl, rfl, rfl⟩ := hp3
    try dsimp only [Option.toList, List.cons_append, List.nil_append]
    refine br_ne (tgt := 22) hx hb dX9_value_17 (by decide) (fun c4 => ?_) (fun c4 => ?_)
    · have vm := mMx c4
      refine lv_aload_n hx hb dX9_value_22 rfl (lv_at hl 0 rfl) ?_
      refine lv_iload_n hx hb dX9_value_23 rfl (lv_at hl 1 rfl) ?_
      refine lv_iload_n hx hb dX9_value_24 rfl (lv_at hl 2 rfl) ?_
      refine callv (y := yX9_knownAt) ⟨hx, hb, hml, hown, ht⟩ hK hN hP hS (k := 0) (c_X9_knownAt l D ca ad hI (s2 σ 0 0 0) τ x mo rfl (by assumption) (vpI vm) (vpL vm)) (by decide) (sm_obj _ _) rfl ok_X9_knownAt gw_1112 ⟨by decide, by decide⟩ rfl hl.1 rfl (Nat.le_of_ble_eq_true rfl) ⟨by decide, by decide⟩ dX9_value_25 (fun v_ S_ T_ H locs hp5 hP hS => ?_)
      obtain ⟨rfl, rfl, rfl⟩ := hp5
      try dsimp only [Option.toList, List.cons_append, List.nil_append]
      refine stk_i (v := (mKn ((σ 2)) x.toNatClampNeg (mo.toNatClampNeg + 1))) (by first | (rw [(show (s2 σ 0 0 0) 2 = (σ 2) from (s2_nk _ _ _ (by omega)))]; done) | (rw [(show (s2 σ 0 0 0) 2 = (σ 2) from (s2_nk _ _ _ (by omega)))]; rfl)) ?_
      refine lv_istore (lv' := [(4, .int (mKn ((σ 2)) x.toNatClampNeg (mo.toNatClampNeg + 1))), (0, .ref (ad 0)), (1, .int x), (2, .int mo), (3, .int w)]) hx hb dX9_value_28 hl (by decide) rfl (fun ls hl => ?_)
      refine lv_iload_n hx hb dX9_value_30 rfl (lv_at hl 4 rfl) ?_
      rcases tab_cases w 4 (by decide) with c6 | ⟨k_, hk_, c6⟩
      · refine lv_tableOut (tgt := 108) hx hb dX9_value_31 (by omega) (by decide) ?_
        refine lv_iconst (v := -1) hx hb dX9_value_108 (by decide) ?_
        exact ret_i hx hb hr hlk hP hS dX9_value_109 (⟨by first | with_reducible rfl | (simp only [mVal, c2, c4, swt_out c6, ↓reduceIte, Bool.false_eq_true]; done) | (simp only [mVal, c2, c4, swt_out c6, ↓reduceIte, Bool.false_eq_true]; rfl) | rfl, by first | with_reducible rfl | (simp only [mVal, c2, c4, swt_out c6, ↓reduceIte, Bool.false_eq_true]; done) | (simp only [mVal, c2, c4, swt_out c6, ↓reduceIte, Bool.false_eq_true]; rfl) | rfl, rfl⟩)
      · rcases (by omega : k_ = 0 ∨ k_ = 1 ∨ k_ = 2 ∨ k_ = 3) with rfl | rfl | rfl | rfl
        · refine lv_tableIn (tgt := 60) hx hb dX9_value_31 (by rw [c6]; decide) (by rw [c6]; decide) (by rw [c6]; rfl) (by decide) ?_
          refine lv_aload_n hx hb dX9_value_60 rfl (lv_at hl 1 rfl) ?_
          refine lv_iload_n hx hb dX9_value_61 rfl (lv_at hl 2 rfl) ?_
          refine lv_iload_n hx hb dX9_value_62 rfl (lv_at hl 3 rfl) ?_
          refine callv (y := yX9_sureOf) ⟨hx, hb, hml, hown, ht⟩ hK hN hP hS (k := 0) (c_X9_sureOf l D ca ad hI (s2 σ 0 0 0) τ x mo rfl (by assumption) rfl (by assumption)) (by decide) (sm_obj _ _) rfl ok_X9_sureOf gw_1116 ⟨by decide, by decide⟩ rfl hl.1 rfl (Nat.le_of_ble_eq_true rfl) ⟨by decide, by decide⟩ dX9_value_63 (fun v_ S_ T_ H locs hp7 hP hS => ?_)
          obtain ⟨rfl, rfl, rfl⟩ := hp7
          try dsimp only [Option.toList, List.cons_append, List.nil_append]
          refine stk_i (v := ((σ 2) (218 + 36 * x.toNatClampNeg + mo.toNatClampNeg))) (by first | (rw [(show (s2 σ 0 0 0) 2 = (σ 2) from (s2_nk _ _ _ (by omega)))]; done) | (rw [(show (s2 σ 0 0 0) 2 = (σ 2) from (s2_nk _ _ _ (by omega)))]; rfl)) ?_
          refine lv_if_ne (tgt := 73) hx hb dX9_value_66 (by decide) (fun c8 => ?_) (fun c8 => ?_)
          · have dc8 := c8
            rw [i_eq] at dc8
            refine lv_aload_n hx hb dX9_value_73 rfl (lv_at hl 1 rfl) ?_
            refine lv_iload_n hx hb dX9_value_74 rfl (lv_at hl 2 rfl) ?_
            refine lv_iload_n hx hb dX9_value_75 rfl (lv_at hl 3 rfl) ?_
            refine callv (y := yX9_valueOf) ⟨hx, hb, hml, hown, ht⟩ hK hN hP hS (k := 0) (c_X9_valueOf l D ca ad hI (s2 σ 0 0 0) τ x mo rfl (by assumption) rfl (by assumption)) (by decide) (sm_obj _ _) rfl ok_X9_valueOf gw_1120 ⟨by decide, by decide⟩ rfl hl.1 rfl (Nat.le_of_ble_eq_true rfl) ⟨by decide, by decide⟩ dX9_value_76 (fun v_ S_ T_ H locs hp9 hP hS => ?_)
            obtain ⟨rfl, rfl, rfl⟩ := hp9
            try dsimp only [Option.toList, List.cons_append, List.nil_append]
            refine stk_i (v := ((σ 2) (2 + 36 * x.toNatClampNeg + mo.toNatClampNeg))) (by first | (rw [(show (s2 σ 0 0 0) 2 = (σ 2) from (s2_nk _ _ _ (by omega)))]; done) | (rw [(show (s2 σ 0 0 0) 2 = (σ 2) from (s2_nk _ _ _ (by omega)))]; rfl)) ?_
            exact ret_i hx hb hr hlk hP hS dX9_value_79 (⟨by first | with_reducible rfl | (simp only [mVal, c2, c4, c6, c8, ↓reduceIte, Bool.false_eq_true]; done) | (simp only [mVal, c2, c4, c6, c8, ↓reduceIte, Bool.false_eq_true]; rfl) | rfl, by first | with_reducible rfl | (simp only [mVal, c2, c4, c6, c8, ↓reduceIte, Bool.false_eq_true]; done) | (simp only [mVal, c2, c4, c6, c8, ↓reduceIte, Bool.false_eq_true]; rfl) | rfl, rfl⟩)
          · have dc8 := c8
            rw [i_eq] at dc8
            refine lv_iconst (v := -1) hx hb dX9_value_69 (by decide) ?_
            refine lv_goto (tgt := 79) hx hb dX9_value_70 (by decide) ?_
            exact ret_i hx hb hr hlk hP hS dX9_value_79 (⟨by first | with_reducible rfl | (simp only [mVal, c2, c4, c6, c8, ↓reduceIte, Bool.false_eq_true]; done) | (simp only [mVal, c2, c4, c6, c8, ↓reduceIte, Bool.false_eq_true]; rfl) | rfl, by first | with_reducible rfl | (simp only [mVal, c2, c4, c6, c8, ↓reduceIte, Bool.false_eq_true]; done) | (simp only [mVal, c2, c4, c6, c8, ↓reduceIte, Bool.false_eq_true]; rfl) | rfl, rfl⟩)
        · refine lv_tableIn (tgt := 80) hx hb dX9_value_31 (by rw [c6]; decide) (by rw [c6]; decide) (by rw [c6]; rfl) (by decide) ?_
          refine lv_aload_n hx hb dX9_value_80 rfl (lv_at hl 1 rfl) ?_
          refine lv_iload_n hx hb dX9_value_81 rfl (lv_at hl 2 rfl) ?_
          refine lv_iload_n hx hb dX9_value_82 rfl (lv_at hl 3 rfl) ?_
          refine callv (y := yX9_sureOf) ⟨hx, hb, hml, hown, ht⟩ hK hN hP hS (k := 0) (c_X9_sureOf l D ca ad hI (s2 σ 0 0 0) τ x mo rfl (by assumption) rfl (by assumption)) (by decide) (sm_obj _ _) rfl ok_X9_sureOf gw_1116 ⟨by decide, by decide⟩ rfl hl.1 rfl (Nat.le_of_ble_eq_true rfl) ⟨by decide, by decide⟩ dX9_value_83 (fun v_ S_ T_ H locs hp10 hP hS => ?_)
          obtain ⟨rfl, rfl, rfl⟩ := hp10
          try dsimp only [Option.toList, List.cons_append, List.nil_append]
          refine stk_i (v := ((σ 2) (218 + 36 * x.toNatClampNeg + mo.toNatClampNeg))) (by first | (rw [(show (s2 σ 0 0 0) 2 = (σ 2) from (s2_nk _ _ _ (by omega)))]; done) | (rw [(show (s2 σ 0 0 0) 2 = (σ 2) from (s2_nk _ _ _ (by omega)))]; rfl)) ?_
          exact ret_i hx hb hr hlk hP hS dX9_value_86 (⟨by first | with_reducible rfl | (simp only [mVal, c2, c4, c6, ↓reduceIte, Bool.false_eq_true]; done) | (simp only [mVal, c2, c4, c6, ↓reduceIte, Bool.false_eq_true]; rfl) | rfl, by first | with_reducible rfl | (simp only [mVal, c2, c4, c6, ↓reduceIte, Bool.false_eq_true]; done) | (simp only [mVal, c2, c4, c6, ↓reduceIte, Bool.false_eq_true]; rfl) | rfl, rfl⟩)
        · refine lv_tableIn (tgt := 87) hx hb dX9_value_31 (by rw [c6]; decide) (by rw [c6]; decide) (by rw [c6]; rfl) (by decide) ?_
          refine lv_iload hx hb dX9_value_87 (lv_at hl 0 rfl) ?_
          refine lv_iconst (v := -1) hx hb dX9_value_89 (by decide) ?_
          refine lv_icmp_ne (tgt := 97) hx hb dX9_value_90 (by decide) (fun c11 => ?_) (fun c11 => ?_)
          · have dc11 := c11
            rw [i_eq] at dc11
            refine lv_aload_n hx hb dX9_value_97 rfl (lv_at hl 1 rfl) ?_
            refine lv_iload_n hx hb dX9_value_98 rfl (lv_at hl 2 rfl) ?_
            refine lv_iload hx hb dX9_value_99 (lv_at hl 0 rfl) ?_
            refine callv (y := yX9_valueOf) ⟨hx, hb, hml, hown, ht⟩ hK hN hP hS (k := 0) (c_X9_valueOf l D ca ad hI (s2 σ 0 0 0) τ x (mKn ((σ 2)) x.toNatClampNeg (mo.toNatClampNeg + 1)) rfl (by assumption) rfl (kn_in _ ‹_› (vpL vm))) (by decide) (sm_obj _ _) rfl ok_X9_valueOf gw_1120 ⟨by decide, by decide⟩ rfl hl.1 rfl (Nat.le_of_ble_eq_true rfl) ⟨by decide, by decide⟩ dX9_value_101 (fun v_ S_ T_ H locs hp12 hP hS => ?_)
            obtain ⟨rfl, rfl, rfl⟩ := hp12
            try dsimp only [Option.toList, List.cons_append, List.nil_append]
            refine stk_i (v := ((σ 2) (2 + 36 * x.toNatClampNeg + ((mKn (σ 2) x.toNatClampNeg (mo.toNatClampNeg + 1)).toNatClampNeg)))) (by first | (rw [(show (s2 σ 0 0 0) 2 = (σ 2) from (s2_nk _ _ _ (by omega)))]; done) | (rw [(show (s2 σ 0 0 0) 2 = (σ 2) from (s2_nk _ _ _ (by omega)))]; rfl)) ?_
            exact ret_i hx hb hr hlk hP hS dX9_value_104 (⟨by first | with_reducible rfl | (simp only [mVal, c2, c4, c6, c11, ↓reduceIte, Bool.false_eq_true]; done) | (simp only [mVal, c2, c4, c6, c11, ↓reduceIte, Bool.false_eq_true]; rfl) | rfl, by first | with_reducible rfl | (simp only [mVal, c2, c4, c6, c11, ↓reduceIte, Bool.false_eq_true]; done) | (simp only [mVal, c2, c4, c6, c11, ↓reduceIte, Bool.false_eq_true]; rfl) | rfl, rfl⟩)
          · have dc11 := c11
            rw [i_eq] at dc11
            refine lv_iconst (v := -1) hx hb dX9_value_93 (by decide) ?_
            refine lv_goto (tgt := 104) hx hb dX9_value_94 (by decide) ?_
            exact ret_i hx hb hr hlk hP hS dX9_value_104 (⟨by first | with_reducible rfl | (simp only [mVal, c2, c4, c6, c11, ↓reduceIte, Bool.false_eq_true]; done) | (simp only [mVal, c2, c4, c6, c11, ↓reduceIte, Bool.false_eq_true]; rfl) | rfl, by first | with_reducible rfl | (simp only [mVal, c2, c4, c6, c11, ↓reduceIte, Bool.false_eq_true]; done) | (simp only [mVal, c2, c4, c6, c11, ↓reduceIte, Bool.false_eq_true]; rfl) | rfl, rfl⟩)
        · refine lv_tableIn (tgt := 105) hx hb dX9_value_31 (by rw [c6]; decide) (by rw [c6]; decide) (by rw [c6]; rfl) (by decide) ?_
          refine lv_iload hx hb dX9_value_105 (lv_at hl 0 rfl) ?_
          exact ret_i hx hb hr hlk hP hS dX9_value_107 (⟨by first | with_reducible rfl | (simp only [mVal, c2, c4, c6, ↓reduceIte, Bool.false_eq_true]; done) | (simp only [mVal, c2, c4, c6, ↓reduceIte, Bool.false_eq_true]; rfl) | rfl, by first | with_reducible rfl | (simp only [mVal, c2, c4, c6, ↓reduceIte, Bool.false_eq_true]; done) | (simp only [mVal, c2, c4, c6, ↓reduceIte, Bool.false_eq_true]; rfl) | rfl, rfl⟩)
    · refine lv_iconst (v := -1) hx hb dX9_value_20 (by decide) ?_
      exact ret_i hx hb hr hlk hP hS dX9_value_21 (⟨by first | with_reducible rfl | (simp only [mVal, c2, c4, ↓reduceIte, Bool.false_eq_true]; done) | (simp only [mVal, c2, c4, ↓reduceIte, Bool.false_eq_true]; rfl) | rfl, by first | with_reducible rfl | (simp only [mVal, c2, c4, ↓reduceIte, Bool.false_eq_true]; done) | (simp only [mVal, c2, c4, ↓reduceIte, Bool.false_eq_true]; rfl) | rfl, rfl⟩)
set_option maxHeartbeats 4000000 in
set_option maxRecDepth 100000 in
theorem c_X9_rebased (l : Launch) (D : va_G) (ca : Nat → ClassId) (ad : Nat → Nat) (hI : Inj 6 ad) (σ : MI) (τ : ML) (hR : RI (σ 2)) (x k w : Int32) : CT l D (TY ca) 6 ad (mxf ca ad) yX9_rebased cX9_rebased 4 (some .int) 2 43 [.ref (ad 0), .int x, .int k, .int w] σ τ (fun v_ S_ T_ => some (.int (mReb (σ 2) x k w)) = v_ ∧ (s2 σ 0 0 0) = S_ ∧ τ = T_) := by
  refine CT.of (by decide) (Nat.le_of_ble_eq_true rfl) ?_
  intro p e s m args below meth c hx hb hr ht hown hlk hml hP hK hN hS ls hl
  have hl : lv_has ls 4 [(0, .ref (ad 0)), (1, .int x), (2, .int k), (3, .int w)] := hl
  refine lv_aload_n hx hb dX9_rebased_0 rfl (lv_at hl 0 rfl) ?_
  refine lv_iconst (v := 0) hx hb dX9_rebased_1 (by decide) ?_
  refine fputx (ref := "") (w := 0) hx hb ht inG9 tyX9 tyX9_ok nmX9 hown hK hP hI hS (k := 0) (by decide) (sm_obj _ _) rfl 0 (by decide) gw_939 rfl rfl rfl (Nat.le_of_ble_eq_true rfl) (sm_obj _ _) dX9_rebased_2 (fun H locs hP hS => ?_)
  refine lv_aload_n hx hb dX9_rebased_5 rfl (lv_at hl 0 rfl) ?_
  refine lv_iload_n hx hb dX9_rebased_6 rfl (lv_at hl 1 rfl) ?_
  refine callv (y := yX9_isIndex) ⟨hx, hb, hml, hown, ht⟩ hK hN hP hS (k := 0) (c_X9_isIndex l D ca ad hI (s2 σ 0 0 0) τ x) (by decide) (sm_obj _ _) rfl ok_X9_isIndex gw_1105 ⟨by decide, by decide⟩ rfl hl.1 rfl (Nat.le_of_ble_eq_true rfl) ⟨by decide, by decide⟩ dX9_rebased_7 (fun v_ S_ T_ H locs hp1 hP hS => ?_)
  obtain ⟨rfl, rfl, rfl⟩ := hp1
  try dsimp only [Option.toList, List.cons_append, List.nil_append]
  refine stk_i (v := (b2i (mIn x 0 ((σ 2) 1 - 1)))) (by first | (rw [(show (s2 σ 0 0 0) 2 = (σ 2) from (s2_nk _ _ _ (by omega)))]; done) | (rw [(show (s2 σ 0 0 0) 2 = (σ 2) from (s2_nk _ _ _ (by omega)))]; rfl)) ?_
  refine br_eq (tgt := 55) hx hb dX9_rebased_10 (by decide) (fun c2 => ?_) (fun c2 => ?_)
  · refine lv_iconst (v := -1) hx hb dX9_rebased_55 (by decide) ?_
    exact ret_i hx hb hr hlk hP hS dX9_rebased_56 (⟨by first | with_reducible rfl | (simp only [mReb, c2, ↓reduceIte, Bool.false_eq_true]; done) | (simp only [mReb, c2, ↓reduceIte, Bool.false_eq_true]; rfl) | rfl, by first | with_reducible rfl | (simp only [mReb, c2, ↓reduceIte, Bool.false_eq_true]; done) | (simp only [mReb, c2, ↓reduceIte, Bool.false_eq_true]; rfl) | rfl, rfl⟩)
  · have vx := (mIx hR c2).1
    refine lv_iload_n hx hb dX9_rebased_13 rfl (lv_at hl 2 rfl) ?_
    refine lv_iconst (v := 0) hx hb dX9_rebased_14 (by decide) ?_
    refine lv_aload_n hx hb dX9_rebased_15 rfl (lv_at hl 0 rfl) ?_
    refine fgetx hx hb ht inG9 hown hK hP (k := 0) (by decide) (x := (upd (σ 0) 0 0)) (s2_k _ _ _ _) (sm_obj _ _) rfl 12 (by decide) gw_951 (v := .ref (ad 2)) rfl dX9_rebased_16 ?_
    refine lv_sipush (v := 434) hx hb dX9_rebased_19 (by decide) ?_
    refine lv_bipush (v := 10) hx hb dX9_rebased_22 (by decide) ?_
    refine lv_iload_n hx hb dX9_rebased_24 rfl (lv_at hl 1 rfl) ?_
    refine lv_imul hx hb dX9_rebased_25 ?_
    refine lv_iadd hx hb dX9_rebased_26 ?_
    refine aldj hx hb hK hP (k := 2) (by decide) (x := (σ 2)) (s2_nk _ _ _ (by omega)) 0 (sm_now _ _) rfl (ix1v 434 10 880 rfl rfl rfl vx (by have := clampN vx; omega) (by decide)) (j := 434 + 10 * x.toNatClampNeg) (ix1c 434 10 880 rfl rfl rfl vx (by have := clampN vx; omega) (by decide)) dX9_rebased_27 ?_
    refine lv_iconst (v := 1) hx hb dX9_rebased_28 (by decide) ?_
    refine lv_isub hx hb dX9_rebased_29 ?_
    refine calls (y := yX9_isIn) ⟨hx, hb, hml, hown, ht⟩ hK hN hP hS (c_X9_isIn l D ca ad hI (s2 σ 0 0 0) τ k (0 : Int32) (((σ 2) (434 + 10 * x.toNatClampNeg)) - 1)) ok_X9_isIn gw_1042 ⟨by decide, by decide⟩ rfl hl.1 rfl (Nat.le_of_ble_eq_true rfl) ⟨by decide, by decide⟩ dX9_rebased_30 (fun v_ S_ T_ H locs hp3 hP hS => ?_)
    obtain ⟨rfl, rfl, rfl⟩ := hp3
    try dsimp only [Option.toList, List.cons_append, List.nil_append]
    refine br_eq (tgt := 55) hx hb dX9_rebased_33 (by decide) (fun c4 => ?_) (fun c4 => ?_)
    · refine lv_iconst (v := -1) hx hb dX9_rebased_55 (by decide) ?_
      exact ret_i hx hb hr hlk hP hS dX9_rebased_56 (⟨by first | with_reducible rfl | (simp only [mReb, c2, c4, ↓reduceIte, Bool.false_eq_true]; done) | (simp only [mReb, c2, c4, ↓reduceIte, Bool.false_eq_true]; rfl) | rfl, by first | with_reducible rfl | (simp only [mReb, c2, c4, ↓reduceIte, Bool.false_eq_true]; done) | (simp only [mReb, c2, c4, ↓reduceIte, Bool.false_eq_true]; rfl) | rfl, rfl⟩)
    · have vk := (mBx (N := 3) (hR.base (clampN vx)) c4).1
      refine lv_iload_n hx hb dX9_rebased_36 rfl (lv_at hl 3 rfl) ?_
      refine lv_iconst (v := 0) hx hb dX9_rebased_37 (by decide) ?_
      refine lv_iconst (v := 2) hx hb dX9_rebased_38 (by decide) ?_
      refine calls (y := yX9_isIn) ⟨hx, hb, hml, hown, ht⟩ hK hN hP hS (c_X9_isIn l D ca ad hI (s2 σ 0 0 0) τ w (0 : Int32) (2 : Int32)) ok_X9_isIn gw_1042 ⟨by decide, by decide⟩ rfl hl.1 rfl (Nat.le_of_ble_eq_true rfl) ⟨by decide, by decide⟩ dX9_rebased_39 (fun v_ S_ T_ H locs hp5 hP hS => ?_)
      obtain ⟨rfl, rfl, rfl⟩ := hp5
      try dsimp only [Option.toList, List.cons_append, List.nil_append]
      refine br_eq (tgt := 55) hx hb dX9_rebased_42 (by decide) (fun c6 => ?_) (fun c6 => ?_)
      · refine lv_iconst (v := -1) hx hb dX9_rebased_55 (by decide) ?_
        exact ret_i hx hb hr hlk hP hS dX9_rebased_56 (⟨by first | with_reducible rfl | (simp only [mReb, c2, c4, c6, ↓reduceIte, Bool.false_eq_true]; done) | (simp only [mReb, c2, c4, c6, ↓reduceIte, Bool.false_eq_true]; rfl) | rfl, by first | with_reducible rfl | (simp only [mReb, c2, c4, c6, ↓reduceIte, Bool.false_eq_true]; done) | (simp only [mReb, c2, c4, c6, ↓reduceIte, Bool.false_eq_true]; rfl) | rfl, rfl⟩)
      · have vw := mWx c6
        refine lv_aload_n hx hb dX9_rebased_45 rfl (lv_at hl 0 rfl) ?_
        refine lv_iload_n hx hb dX9_rebased_46 rfl (lv_at hl 1 rfl) ?_
        refine lv_iload_n hx hb dX9_rebased_47 rfl (lv_at hl 2 rfl) ?_
        refine lv_iload_n hx hb dX9_rebased_48 rfl (lv_at hl 3 rfl) ?_
        refine callv (y := yX9_baseOf) ⟨hx, hb, hml, hown, ht⟩ hK hN hP hS (k := 0) (c_X9_baseOf l D ca ad hI (s2 σ 0 0 0) τ x k w rfl (by assumption) rfl (by assumption) rfl (by assumption)) (by decide) (sm_obj _ _) rfl ok_X9_baseOf gw_1128 ⟨by decide, by decide⟩ rfl hl.1 rfl (Nat.le_of_ble_eq_true rfl) ⟨by decide, by decide⟩ dX9_rebased_49 (fun v_ S_ T_ H locs hp7 hP hS => ?_)
        obtain ⟨rfl, rfl, rfl⟩ := hp7
        try dsimp only [Option.toList, List.cons_append, List.nil_append]
        refine stk_i (v := ((σ 2) (434 + 10 * x.toNatClampNeg + 1 + 3 * k.toNatClampNeg + w.toNatClampNeg))) (by first | (rw [(show (s2 σ 0 0 0) 2 = (σ 2) from (s2_nk _ _ _ (by omega)))]; done) | (rw [(show (s2 σ 0 0 0) 2 = (σ 2) from (s2_nk _ _ _ (by omega)))]; rfl)) ?_
        refine lv_goto (tgt := 56) hx hb dX9_rebased_52 (by decide) ?_
        exact ret_i hx hb hr hlk hP hS dX9_rebased_56 (⟨by first | with_reducible rfl | (simp only [mReb, c2, c4, c6, ↓reduceIte, Bool.false_eq_true]; done) | (simp only [mReb, c2, c4, c6, ↓reduceIte, Bool.false_eq_true]; rfl) | rfl, by first | with_reducible rfl | (simp only [mReb, c2, c4, c6, ↓reduceIte, Bool.false_eq_true]; done) | (simp only [mReb, c2, c4, c6, ↓reduceIte, Bool.false_eq_true]; rfl) | rfl, rfl⟩)
set_option maxHeartbeats 4000000 in
set_option maxRecDepth 100000 in
theorem c_X9_ratio (l : Launch) (D : va_G) (ca : Nat → ClassId) (ad : Nat → Nat) (hI : Inj 6 ad) (σ : MI) (τ : ML) (hR : RI (σ 2)) (x a z : Int32) : CT l D (TY ca) 6 ad (mxf ca ad) yX9_ratio cX9_ratio 4 (some .int) 2 52 [.ref (ad 0), .int x, .int a, .int z] σ τ (fun v_ S_ T_ => some (.int (if mRtC (σ 2) x a z = true then mRat (σ 2) x.toNatClampNeg a z else 0)) = v_ ∧ (if mRtC (σ 2) x a z = true then s2 σ 0 0 0 else s2 (s2 σ 0 0 0) 0 0 1) = S_ ∧ τ = T_) := by
  refine CT.of (by decide) (Nat.le_of_ble_eq_true rfl) ?_
  intro p e s m args below meth c hx hb hr ht hown hlk hml hP hK hN hS ls hl
  have hl : lv_has ls 4 [(0, .ref (ad 0)), (1, .int x), (2, .int a), (3, .int z)] := hl
  refine lv_aload_n hx hb dX9_ratio_0 rfl (lv_at hl 0 rfl) ?_
  refine lv_iconst (v := 0) hx hb dX9_ratio_1 (by decide) ?_
  refine fputx (ref := "") (w := 0) hx hb ht inG9 tyX9 tyX9_ok nmX9 hown hK hP hI hS (k := 0) (by decide) (sm_obj _ _) rfl 0 (by decide) gw_939 rfl rfl rfl (Nat.le_of_ble_eq_true rfl) (sm_obj _ _) dX9_ratio_2 (fun H locs hP hS => ?_)
  refine lv_aload_n hx hb dX9_ratio_5 rfl (lv_at hl 0 rfl) ?_
  refine lv_iload_n hx hb dX9_ratio_6 rfl (lv_at hl 1 rfl) ?_
  refine callv (y := yX9_isIndex) ⟨hx, hb, hml, hown, ht⟩ hK hN hP hS (k := 0) (c_X9_isIndex l D ca ad hI (s2 σ 0 0 0) τ x) (by decide) (sm_obj _ _) rfl ok_X9_isIndex gw_1105 ⟨by decide, by decide⟩ rfl hl.1 rfl (Nat.le_of_ble_eq_true rfl) ⟨by decide, by decide⟩ dX9_ratio_7 (fun v_ S_ T_ H locs hp1 hP hS => ?_)
  obtain ⟨rfl, rfl, rfl⟩ := hp1
  try dsimp only [Option.toList, List.cons_append, List.nil_append]
  refine stk_i (v := (b2i (mIn x 0 ((σ 2) 1 - 1)))) (by first | (rw [(show (s2 σ 0 0 0) 2 = (σ 2) from (s2_nk _ _ _ (by omega)))]; done) | (rw [(show (s2 σ 0 0 0) 2 = (σ 2) from (s2_nk _ _ _ (by omega)))]; rfl)) ?_
  refine br_eq (tgt := 50) hx hb dX9_ratio_10 (by decide) (fun c2 => ?_) (fun c2 => ?_)
  · refine lv_aload_n hx hb dX9_ratio_50 rfl (lv_at hl 0 rfl) ?_
    refine callv (y := yX9_refuse) ⟨hx, hb, hml, hown, ht⟩ hK hN hP hS (k := 0) (c_X9_refuse l D ca ad hI (s2 σ 0 0 0) τ ) (by decide) (sm_obj _ _) rfl ok_X9_refuse gw_1136 ⟨by decide, by decide⟩ rfl hl.1 rfl (Nat.le_of_ble_eq_true rfl) ⟨by decide, by decide⟩ dX9_ratio_51 (fun v_ S_ T_ H locs hp3 hP hS => ?_)
    obtain ⟨rfl, rfl, rfl⟩ := hp3
    try dsimp only [Option.toList, List.cons_append, List.nil_append]
    exact ret_i hx hb hr hlk hP hS dX9_ratio_54 (⟨by first | with_reducible rfl | (simp only [mRtC, c2, ↓reduceIte, Bool.false_eq_true]; done) | (simp only [mRtC, c2, ↓reduceIte, Bool.false_eq_true]; rfl) | rfl, by first | with_reducible rfl | (simp only [mRtC, c2, ↓reduceIte, Bool.false_eq_true]; done) | (simp only [mRtC, c2, ↓reduceIte, Bool.false_eq_true]; rfl) | rfl, rfl⟩)
  · have vx := (mIx hR c2).1
    refine lv_iload_n hx hb dX9_ratio_13 rfl (lv_at hl 2 rfl) ?_
    refine calls (y := yX9_isMonth) ⟨hx, hb, hml, hown, ht⟩ hK hN hP hS (c_X9_isMonth l D ca ad hI (s2 σ 0 0 0) τ a) ok_X9_isMonth gw_1109 ⟨by decide, by decide⟩ rfl hl.1 rfl (Nat.le_of_ble_eq_true rfl) ⟨by decide, by decide⟩ dX9_ratio_14 (fun v_ S_ T_ H locs hp4 hP hS => ?_)
    obtain ⟨rfl, rfl, rfl⟩ := hp4
    try dsimp only [Option.toList, List.cons_append, List.nil_append]
    refine br_eq (tgt := 50) hx hb dX9_ratio_17 (by decide) (fun c5 => ?_) (fun c5 => ?_)
    · refine lv_aload_n hx hb dX9_ratio_50 rfl (lv_at hl 0 rfl) ?_
      refine callv (y := yX9_refuse) ⟨hx, hb, hml, hown, ht⟩ hK hN hP hS (k := 0) (c_X9_refuse l D ca ad hI (s2 σ 0 0 0) τ ) (by decide) (sm_obj _ _) rfl ok_X9_refuse gw_1136 ⟨by decide, by decide⟩ rfl hl.1 rfl (Nat.le_of_ble_eq_true rfl) ⟨by decide, by decide⟩ dX9_ratio_51 (fun v_ S_ T_ H locs hp6 hP hS => ?_)
      obtain ⟨rfl, rfl, rfl⟩ := hp6
      try dsimp only [Option.toList, List.cons_append, List.nil_append]
      exact ret_i hx hb hr hlk hP hS dX9_ratio_54 (⟨by first | with_reducible rfl | (simp only [mRtC, c2, c5, ↓reduceIte, Bool.false_eq_true]; done) | (simp only [mRtC, c2, c5, ↓reduceIte, Bool.false_eq_true]; rfl) | rfl, by first | with_reducible rfl | (simp only [mRtC, c2, c5, ↓reduceIte, Bool.false_eq_true]; done) | (simp only [mRtC, c2, c5, ↓reduceIte, Bool.false_eq_true]; rfl) | rfl, rfl⟩)
    · have va_ := mMx c5
      refine lv_iload_n hx hb dX9_ratio_20 rfl (lv_at hl 3 rfl) ?_
      refine calls (y := yX9_isMonth) ⟨hx, hb, hml, hown, ht⟩ hK hN hP hS (c_X9_isMonth l D ca ad hI (s2 σ 0 0 0) τ z) ok_X9_isMonth gw_1109 ⟨by decide, by decide⟩ rfl hl.1 rfl (Nat.le_of_ble_eq_true rfl) ⟨by decide, by decide⟩ dX9_ratio_21 (fun v_ S_ T_ H locs hp7 hP hS => ?_)
      obtain ⟨rfl, rfl, rfl⟩ := hp7
      try dsimp only [Option.toList, List.cons_append, List.nil_append]
      refine br_eq (tgt := 50) hx hb dX9_ratio_24 (by decide) (fun c8 => ?_) (fun c8 => ?_)
      · refine lv_aload_n hx hb dX9_ratio_50 rfl (lv_at hl 0 rfl) ?_
        refine callv (y := yX9_refuse) ⟨hx, hb, hml, hown, ht⟩ hK hN hP hS (k := 0) (c_X9_refuse l D ca ad hI (s2 σ 0 0 0) τ ) (by decide) (sm_obj _ _) rfl ok_X9_refuse gw_1136 ⟨by decide, by decide⟩ rfl hl.1 rfl (Nat.le_of_ble_eq_true rfl) ⟨by decide, by decide⟩ dX9_ratio_51 (fun v_ S_ T_ H locs hp9 hP hS => ?_)
        obtain ⟨rfl, rfl, rfl⟩ := hp9
        try dsimp only [Option.toList, List.cons_append, List.nil_append]
        exact ret_i hx hb hr hlk hP hS dX9_ratio_54 (⟨by first | with_reducible rfl | (simp only [mRtC, c2, c5, c8, ↓reduceIte, Bool.false_eq_true]; done) | (simp only [mRtC, c2, c5, c8, ↓reduceIte, Bool.false_eq_true]; rfl) | rfl, by first | with_reducible rfl | (simp only [mRtC, c2, c5, c8, ↓reduceIte, Bool.false_eq_true]; done) | (simp only [mRtC, c2, c5, c8, ↓reduceIte, Bool.false_eq_true]; rfl) | rfl, rfl⟩)
      · have vz := mMx c8
        refine lv_iload_n hx hb dX9_ratio_27 rfl (lv_at hl 2 rfl) ?_
        refine lv_iload_n hx hb dX9_ratio_28 rfl (lv_at hl 3 rfl) ?_
        refine lv_icmp_gt (tgt := 50) hx hb dX9_ratio_29 (by decide) (fun c10 => ?_) (fun c10 => ?_)
        · have dc10 := c10
          rw [i_lt] at dc10
          refine lv_aload_n hx hb dX9_ratio_50 rfl (lv_at hl 0 rfl) ?_
          refine callv (y := yX9_refuse) ⟨hx, hb, hml, hown, ht⟩ hK hN hP hS (k := 0) (c_X9_refuse l D ca ad hI (s2 σ 0 0 0) τ ) (by decide) (sm_obj _ _) rfl ok_X9_refuse gw_1136 ⟨by decide, by decide⟩ rfl hl.1 rfl (Nat.le_of_ble_eq_true rfl) ⟨by decide, by decide⟩ dX9_ratio_51 (fun v_ S_ T_ H locs hp11 hP hS => ?_)
          obtain ⟨rfl, rfl, rfl⟩ := hp11
          try dsimp only [Option.toList, List.cons_append, List.nil_append]
          exact ret_i hx hb hr hlk hP hS dX9_ratio_54 (⟨by first | with_reducible rfl | (simp only [mRtC, c2, c5, c8, c10, ↓reduceIte, Bool.false_eq_true]; done) | (simp only [mRtC, c2, c5, c8, c10, ↓reduceIte, Bool.false_eq_true]; rfl) | rfl, by first | with_reducible rfl | (simp only [mRtC, c2, c5, c8, c10, ↓reduceIte, Bool.false_eq_true]; done) | (simp only [mRtC, c2, c5, c8, c10, ↓reduceIte, Bool.false_eq_true]; rfl) | rfl, rfl⟩)
        · have dc10 := c10
          rw [i_lt] at dc10
          refine lv_aload_n hx hb dX9_ratio_32 rfl (lv_at hl 0 rfl) ?_
          refine lv_iload_n hx hb dX9_ratio_33 rfl (lv_at hl 1 rfl) ?_
          refine lv_iload_n hx hb dX9_ratio_34 rfl (lv_at hl 2 rfl) ?_
          refine callv (y := yX9_sureOf) ⟨hx, hb, hml, hown, ht⟩ hK hN hP hS (k := 0) (c_X9_sureOf l D ca ad hI (s2 σ 0 0 0) τ x a rfl (by assumption) rfl (by assumption)) (by decide) (sm_obj _ _) rfl ok_X9_sureOf gw_1116 ⟨by decide, by decide⟩ rfl hl.1 rfl (Nat.le_of_ble_eq_true rfl) ⟨by decide, by decide⟩ dX9_ratio_35 (fun v_ S_ T_ H locs hp12 hP hS => ?_)
          obtain ⟨rfl, rfl, rfl⟩ := hp12
          try dsimp only [Option.toList, List.cons_append, List.nil_append]
          refine stk_i (v := ((σ 2) (218 + 36 * x.toNatClampNeg + a.toNatClampNeg))) (by first | (rw [(show (s2 σ 0 0 0) 2 = (σ 2) from (s2_nk _ _ _ (by omega)))]; done) | (rw [(show (s2 σ 0 0 0) 2 = (σ 2) from (s2_nk _ _ _ (by omega)))]; rfl)) ?_
          refine lv_if_eq (tgt := 50) hx hb dX9_ratio_38 (by decide) (fun c13 => ?_) (fun c13 => ?_)
          · have dc13 := c13
            rw [i_eq] at dc13
            refine lv_aload_n hx hb dX9_ratio_50 rfl (lv_at hl 0 rfl) ?_
            refine callv (y := yX9_refuse) ⟨hx, hb, hml, hown, ht⟩ hK hN hP hS (k := 0) (c_X9_refuse l D ca ad hI (s2 σ 0 0 0) τ ) (by decide) (sm_obj _ _) rfl ok_X9_refuse gw_1136 ⟨by decide, by decide⟩ rfl hl.1 rfl (Nat.le_of_ble_eq_true rfl) ⟨by decide, by decide⟩ dX9_ratio_51 (fun v_ S_ T_ H locs hp14 hP hS => ?_)
            obtain ⟨rfl, rfl, rfl⟩ := hp14
            try dsimp only [Option.toList, List.cons_append, List.nil_append]
            exact ret_i hx hb hr hlk hP hS dX9_ratio_54 (⟨by first | with_reducible rfl | (simp only [mRtC, c2, c5, c8, c10, c13, ↓reduceIte, Bool.false_eq_true]; done) | (simp only [mRtC, c2, c5, c8, c10, c13, ↓reduceIte, Bool.false_eq_true]; rfl) | rfl, by first | with_reducible rfl | (simp only [mRtC, c2, c5, c8, c10, c13, ↓reduceIte, Bool.false_eq_true]; done) | (simp only [mRtC, c2, c5, c8, c10, c13, ↓reduceIte, Bool.false_eq_true]; rfl) | rfl, rfl⟩)
          · have dc13 := c13
            rw [i_eq] at dc13
            have hv9 := c13
            refine lv_aload_n hx hb dX9_ratio_41 rfl (lv_at hl 0 rfl) ?_
            refine lv_iload_n hx hb dX9_ratio_42 rfl (lv_at hl 1 rfl) ?_
            refine lv_iload_n hx hb dX9_ratio_43 rfl (lv_at hl 3 rfl) ?_
            refine callv (y := yX9_sureOf) ⟨hx, hb, hml, hown, ht⟩ hK hN hP hS (k := 0) (c_X9_sureOf l D ca ad hI (s2 σ 0 0 0) τ x z rfl (by assumption) rfl (by assumption)) (by decide) (sm_obj _ _) rfl ok_X9_sureOf gw_1116 ⟨by decide, by decide⟩ rfl hl.1 rfl (Nat.le_of_ble_eq_true rfl) ⟨by decide, by decide⟩ dX9_ratio_44 (fun v_ S_ T_ H locs hp15 hP hS => ?_)
            obtain ⟨rfl, rfl, rfl⟩ := hp15
            try dsimp only [Option.toList, List.cons_append, List.nil_append]
            refine stk_i (v := ((σ 2) (218 + 36 * x.toNatClampNeg + z.toNatClampNeg))) (by first | (rw [(show (s2 σ 0 0 0) 2 = (σ 2) from (s2_nk _ _ _ (by omega)))]; done) | (rw [(show (s2 σ 0 0 0) 2 = (σ 2) from (s2_nk _ _ _ (by omega)))]; rfl)) ?_
            refine lv_if_ne (tgt := 55) hx hb dX9_ratio_47 (by decide) (fun c16 => ?_) (fun c16 => ?_)
            · have dc16 := c16
              rw [i_eq] at dc16
              refine lv_aload_n hx hb dX9_ratio_55 rfl (lv_at hl 0 rfl) ?_
              refine lv_iload_n hx hb dX9_ratio_56 rfl (lv_at hl 1 rfl) ?_
              refine lv_iload_n hx hb dX9_ratio_57 rfl (lv_at hl 2 rfl) ?_
              refine lv_iload_n hx hb dX9_ratio_58 rfl (lv_at hl 3 rfl) ?_
              refine callv (y := yX9_ratioOf) ⟨hx, hb, hml, hown, ht⟩ hK hN hP hS (k := 0) (c_X9_ratioOf l D ca ad hI (s2 σ 0 0 0) τ x a z rfl (by assumption) rfl (by assumption) rfl (by assumption) (by rw [show (s2 σ 0 0 0) 2 = (σ 2) from (s2_nk _ _ _ (by omega))]; exact hR) (by rw [s2_nk _ _ _ (by decide)]; exact hv9)) (by decide) (sm_obj _ _) rfl ok_X9_ratioOf gw_1140 ⟨by decide, by decide⟩ rfl hl.1 rfl (Nat.le_of_ble_eq_true rfl) ⟨by decide, by decide⟩ dX9_ratio_59 (fun v_ S_ T_ H locs hp17 hP hS => ?_)
              obtain ⟨rfl, rfl, rfl⟩ := hp17
              try dsimp only [Option.toList, List.cons_append, List.nil_append]
              refine stk_i (v := (mRat ((σ 2)) x.toNatClampNeg a z)) (by first | (rw [(show (s2 σ 0 0 0) 2 = (σ 2) from (s2_nk _ _ _ (by omega)))]; done) | (rw [(show (s2 σ 0 0 0) 2 = (σ 2) from (s2_nk _ _ _ (by omega)))]; rfl)) ?_
              exact ret_i hx hb hr hlk hP hS dX9_ratio_62 (⟨by first | with_reducible rfl | (simp only [mRtC, c2, c5, c8, c10, c13, c16, ↓reduceIte, Bool.false_eq_true]; done) | (simp only [mRtC, c2, c5, c8, c10, c13, c16, ↓reduceIte, Bool.false_eq_true]; rfl) | rfl, by first | with_reducible rfl | (simp only [mRtC, c2, c5, c8, c10, c13, c16, ↓reduceIte, Bool.false_eq_true]; done) | (simp only [mRtC, c2, c5, c8, c10, c13, c16, ↓reduceIte, Bool.false_eq_true]; rfl) | rfl, rfl⟩)
            · have dc16 := c16
              rw [i_eq] at dc16
              refine lv_aload_n hx hb dX9_ratio_50 rfl (lv_at hl 0 rfl) ?_
              refine callv (y := yX9_refuse) ⟨hx, hb, hml, hown, ht⟩ hK hN hP hS (k := 0) (c_X9_refuse l D ca ad hI (s2 σ 0 0 0) τ ) (by decide) (sm_obj _ _) rfl ok_X9_refuse gw_1136 ⟨by decide, by decide⟩ rfl hl.1 rfl (Nat.le_of_ble_eq_true rfl) ⟨by decide, by decide⟩ dX9_ratio_51 (fun v_ S_ T_ H locs hp18 hP hS => ?_)
              obtain ⟨rfl, rfl, rfl⟩ := hp18
              try dsimp only [Option.toList, List.cons_append, List.nil_append]
              exact ret_i hx hb hr hlk hP hS dX9_ratio_54 (⟨by first | with_reducible rfl | (simp only [mRtC, c2, c5, c8, c10, c13, c16, ↓reduceIte, Bool.false_eq_true]; done) | (simp only [mRtC, c2, c5, c8, c10, c13, c16, ↓reduceIte, Bool.false_eq_true]; rfl) | rfl, by first | with_reducible rfl | (simp only [mRtC, c2, c5, c8, c10, c13, c16, ↓reduceIte, Bool.false_eq_true]; done) | (simp only [mRtC, c2, c5, c8, c10, c13, c16, ↓reduceIte, Bool.false_eq_true]; rfl) | rfl, rfl⟩)
set_option maxHeartbeats 4000000 in
set_option maxRecDepth 100000 in
theorem c_X9_contract (l : Launch) (D : va_G) (ca : Nat → ClassId) (ad : Nat → Nat) (hI : Inj 6 ad) (σ : MI) (τ : ML) (hR : RI (σ 2)) (x w : Int32) : CT l D (TY ca) 6 ad (mxf ca ad) yX9_contract cX9_contract 3 (some .int) 2 43 [.ref (ad 0), .int x, .int w] σ τ (fun v_ S_ T_ => some (.int (mCon (σ 2) x w)) = v_ ∧ (s2 σ 0 0 0) = S_ ∧ τ = T_) := by
  refine CT.of (by decide) (Nat.le_of_ble_eq_true rfl) ?_
  intro p e s m args below meth c hx hb hr ht hown hlk hml hP hK hN hS ls hl
  have hl : lv_has ls 3 [(0, .ref (ad 0)), (1, .int x), (2, .int w)] := hl
  refine lv_aload_n hx hb dX9_contract_0 rfl (lv_at hl 0 rfl) ?_
  refine lv_iconst (v := 0) hx hb dX9_contract_1 (by decide) ?_
  refine fputx (ref := "") (w := 0) hx hb ht inG9 tyX9 tyX9_ok nmX9 hown hK hP hI hS (k := 0) (by decide) (sm_obj _ _) rfl 0 (by decide) gw_939 rfl rfl rfl (Nat.le_of_ble_eq_true rfl) (sm_obj _ _) dX9_contract_2 (fun H locs hP hS => ?_)
  refine lv_aload_n hx hb dX9_contract_5 rfl (lv_at hl 0 rfl) ?_
  refine lv_iload_n hx hb dX9_contract_6 rfl (lv_at hl 1 rfl) ?_
  refine callv (y := yX9_isContract) ⟨hx, hb, hml, hown, ht⟩ hK hN hP hS (k := 0) (c_X9_isContract l D ca ad hI (s2 σ 0 0 0) τ x) (by decide) (sm_obj _ _) rfl ok_X9_isContract gw_1151 ⟨by decide, by decide⟩ rfl hl.1 rfl (Nat.le_of_ble_eq_true rfl) ⟨by decide, by decide⟩ dX9_contract_7 (fun v_ S_ T_ H locs hp1 hP hS => ?_)
  obtain ⟨rfl, rfl, rfl⟩ := hp1
  try dsimp only [Option.toList, List.cons_append, List.nil_append]
  refine stk_i (v := (b2i (mIn x 0 ((σ 2) 494 - 1)))) (by first | (rw [(show (s2 σ 0 0 0) 2 = (σ 2) from (s2_nk _ _ _ (by omega)))]; done) | (rw [(show (s2 σ 0 0 0) 2 = (σ 2) from (s2_nk _ _ _ (by omega)))]; rfl)) ?_
  refine br_eq (tgt := 42) hx hb dX9_contract_10 (by decide) (fun c2 => ?_) (fun c2 => ?_)
  · refine lv_iconst (v := -1) hx hb dX9_contract_42 (by decide) ?_
    exact ret_i hx hb hr hlk hP hS dX9_contract_43 (⟨by first | with_reducible rfl | (simp only [mCon, c2, ↓reduceIte, Bool.false_eq_true]; done) | (simp only [mCon, c2, ↓reduceIte, Bool.false_eq_true]; rfl) | rfl, by first | with_reducible rfl | (simp only [mCon, c2, ↓reduceIte, Bool.false_eq_true]; done) | (simp only [mCon, c2, ↓reduceIte, Bool.false_eq_true]; rfl) | rfl, rfl⟩)
  · have vx := (mCx hR c2).1
    have hC := (mCx hR c2).2
    refine lv_iload_n hx hb dX9_contract_13 rfl (lv_at hl 2 rfl) ?_
    refine lv_iconst (v := 0) hx hb dX9_contract_14 (by decide) ?_
    refine lv_bipush (v := 6) hx hb dX9_contract_15 (by decide) ?_
    refine lv_iconst (v := 2) hx hb dX9_contract_17 (by decide) ?_
    refine lv_aload_n hx hb dX9_contract_18 rfl (lv_at hl 0 rfl) ?_
    refine lv_iload_n hx hb dX9_contract_19 rfl (lv_at hl 1 rfl) ?_
    refine lv_bipush (v := 6) hx hb dX9_contract_20 (by decide) ?_
    refine callv (y := yX9_toldBy) ⟨hx, hb, hml, hown, ht⟩ hK hN hP hS (k := 0) (c_X9_toldBy l D ca ad hI (s2 σ 0 0 0) τ x (6 : Int32) rfl (by assumption) (show Int32.toNatClampNeg 6 = 6 from rfl) (by rw [vp_in_iff]; decide)) (by decide) (sm_obj _ _) rfl ok_X9_toldBy gw_1155 ⟨by decide, by decide⟩ rfl hl.1 rfl (Nat.le_of_ble_eq_true rfl) ⟨by decide, by decide⟩ dX9_contract_22 (fun v_ S_ T_ H locs hp3 hP hS => ?_)
    obtain ⟨rfl, rfl, rfl⟩ := hp3
    try dsimp only [Option.toList, List.cons_append, List.nil_append]
    refine stk_i (v := ((σ 2) (495 + 19 * x.toNatClampNeg + 6))) (by first | (rw [(show (s2 σ 0 0 0) 2 = (σ 2) from (s2_nk _ _ _ (by omega)))]; done) | (rw [(show (s2 σ 0 0 0) 2 = (σ 2) from (s2_nk _ _ _ (by omega)))]; rfl)) ?_
    refine lv_imul hx hb dX9_contract_25 ?_
    refine lv_iadd hx hb dX9_contract_26 ?_
    refine calls (y := yX9_isIn) ⟨hx, hb, hml, hown, ht⟩ hK hN hP hS (c_X9_isIn l D ca ad hI (s2 σ 0 0 0) τ w (0 : Int32) (6 + (2 * ((σ 2) (495 + 19 * x.toNatClampNeg + 6))))) ok_X9_isIn gw_1042 ⟨by decide, by decide⟩ rfl hl.1 rfl (Nat.le_of_ble_eq_true rfl) ⟨by decide, by decide⟩ dX9_contract_27 (fun v_ S_ T_ H locs hp4 hP hS => ?_)
    obtain ⟨rfl, rfl, rfl⟩ := hp4
    try dsimp only [Option.toList, List.cons_append, List.nil_append]
    refine br_eq (tgt := 42) hx hb dX9_contract_30 (by decide) (fun c5 => ?_) (fun c5 => ?_)
    · refine lv_iconst (v := -1) hx hb dX9_contract_42 (by decide) ?_
      exact ret_i hx hb hr hlk hP hS dX9_contract_43 (⟨by first | with_reducible rfl | (simp only [mCon, c2, c5, ↓reduceIte, Bool.false_eq_true]; done) | (simp only [mCon, c2, c5, ↓reduceIte, Bool.false_eq_true]; rfl) | rfl, by first | with_reducible rfl | (simp only [mCon, c2, c5, ↓reduceIte, Bool.false_eq_true]; done) | (simp only [mCon, c2, c5, ↓reduceIte, Bool.false_eq_true]; rfl) | rfl, rfl⟩)
    · have vw := mCw hR hC c5
      refine lv_aload_n hx hb dX9_contract_33 rfl (lv_at hl 0 rfl) ?_
      refine lv_iload_n hx hb dX9_contract_34 rfl (lv_at hl 1 rfl) ?_
      refine lv_iload_n hx hb dX9_contract_35 rfl (lv_at hl 2 rfl) ?_
      refine callv (y := yX9_toldBy) ⟨hx, hb, hml, hown, ht⟩ hK hN hP hS (k := 0) (c_X9_toldBy l D ca ad hI (s2 σ 0 0 0) τ x w rfl (by assumption) rfl (by assumption)) (by decide) (sm_obj _ _) rfl ok_X9_toldBy gw_1155 ⟨by decide, by decide⟩ rfl hl.1 rfl (Nat.le_of_ble_eq_true rfl) ⟨by decide, by decide⟩ dX9_contract_36 (fun v_ S_ T_ H locs hp6 hP hS => ?_)
      obtain ⟨rfl, rfl, rfl⟩ := hp6
      try dsimp only [Option.toList, List.cons_append, List.nil_append]
      refine stk_i (v := ((σ 2) (495 + 19 * x.toNatClampNeg + w.toNatClampNeg))) (by first | (rw [(show (s2 σ 0 0 0) 2 = (σ 2) from (s2_nk _ _ _ (by omega)))]; done) | (rw [(show (s2 σ 0 0 0) 2 = (σ 2) from (s2_nk _ _ _ (by omega)))]; rfl)) ?_
      refine lv_goto (tgt := 43) hx hb dX9_contract_39 (by decide) ?_
      exact ret_i hx hb hr hlk hP hS dX9_contract_43 (⟨by first | with_reducible rfl | (simp only [mCon, c2, c5, ↓reduceIte, Bool.false_eq_true]; done) | (simp only [mCon, c2, c5, ↓reduceIte, Bool.false_eq_true]; rfl) | rfl, by first | with_reducible rfl | (simp only [mCon, c2, c5, ↓reduceIte, Bool.false_eq_true]; done) | (simp only [mCon, c2, c5, ↓reduceIte, Bool.false_eq_true]; rfl) | rfl, rfl⟩)
set_option maxHeartbeats 4000000 in
set_option maxRecDepth 100000 in
theorem c_X9_price (l : Launch) (D : va_G) (ca : Nat → ClassId) (ad : Nat → Nat) (hI : Inj 6 ad) (σ : MI) (τ : ML) (hR : RI (σ 2)) (x mo w : Int32) : CT l D (TY ca) 6 ad (mxf ca ad) yX9_price cX9_price 4 (some .int) 5 126 [.ref (ad 0), .int x, .int mo, .int w] σ τ (fun v_ S_ T_ => some (.int (mPrR (σ 2) x mo w)) = v_ ∧ (if mPrC (σ 2) x mo w = true then s2 σ 0 0 0 else s2 (s2 σ 0 0 0) 0 0 1) = S_ ∧ τ = T_) := by
  refine CT.of (by decide) (Nat.le_of_ble_eq_true rfl) ?_
  intro p e s m args below meth c hx hb hr ht hown hlk hml hP hK hN hS ls hl
  have hl : lv_has ls 4 [(0, .ref (ad 0)), (1, .int x), (2, .int mo), (3, .int w)] := hl
  refine lv_aload_n hx hb dX9_price_0 rfl (lv_at hl 0 rfl) ?_
  refine lv_iconst (v := 0) hx hb dX9_price_1 (by decide) ?_
  refine fputx (ref := "") (w := 0) hx hb ht inG9 tyX9 tyX9_ok nmX9 hown hK hP hI hS (k := 0) (by decide) (sm_obj _ _) rfl 0 (by decide) gw_939 rfl rfl rfl (Nat.le_of_ble_eq_true rfl) (sm_obj _ _) dX9_price_2 (fun H locs hP hS => ?_)
  refine lv_aload_n hx hb dX9_price_5 rfl (lv_at hl 0 rfl) ?_
  refine lv_iload_n hx hb dX9_price_6 rfl (lv_at hl 1 rfl) ?_
  refine callv (y := yX9_isContract) ⟨hx, hb, hml, hown, ht⟩ hK hN hP hS (k := 0) (c_X9_isContract l D ca ad hI (s2 σ 0 0 0) τ x) (by decide) (sm_obj _ _) rfl ok_X9_isContract gw_1151 ⟨by decide, by decide⟩ rfl hl.1 rfl (Nat.le_of_ble_eq_true rfl) ⟨by decide, by decide⟩ dX9_price_7 (fun v_ S_ T_ H locs hp1 hP hS => ?_)
  obtain ⟨rfl, rfl, rfl⟩ := hp1
  try dsimp only [Option.toList, List.cons_append, List.nil_append]
  refine stk_i (v := (b2i (mIn x 0 ((σ 2) 494 - 1)))) (by first | (rw [(show (s2 σ 0 0 0) 2 = (σ 2) from (s2_nk _ _ _ (by omega)))]; done) | (rw [(show (s2 σ 0 0 0) 2 = (σ 2) from (s2_nk _ _ _ (by omega)))]; rfl)) ?_
  refine br_eq (tgt := 39) hx hb dX9_price_10 (by decide) (fun c2 => ?_) (fun c2 => ?_)
  · refine lv_aload_n hx hb dX9_price_39 rfl (lv_at hl 0 rfl) ?_
    refine callv (y := yX9_refuse) ⟨hx, hb, hml, hown, ht⟩ hK hN hP hS (k := 0) (c_X9_refuse l D ca ad hI (s2 σ 0 0 0) τ ) (by decide) (sm_obj _ _) rfl ok_X9_refuse gw_1136 ⟨by decide, by decide⟩ rfl hl.1 rfl (Nat.le_of_ble_eq_true rfl) ⟨by decide, by decide⟩ dX9_price_40 (fun v_ S_ T_ H locs hp3 hP hS => ?_)
    obtain ⟨rfl, rfl, rfl⟩ := hp3
    try dsimp only [Option.toList, List.cons_append, List.nil_append]
    exact ret_i hx hb hr hlk hP hS dX9_price_43 (⟨by first | with_reducible rfl | (simp only [mPrR, mPrC, c2, ↓reduceIte, Bool.false_eq_true]; done) | (simp only [mPrR, mPrC, c2, ↓reduceIte, Bool.false_eq_true]; rfl) | rfl, by first | with_reducible rfl | (simp only [mPrR, mPrC, c2, ↓reduceIte, Bool.false_eq_true]; done) | (simp only [mPrR, mPrC, c2, ↓reduceIte, Bool.false_eq_true]; rfl) | rfl, rfl⟩)
  · have vx := (mCx hR c2).1
    have hC := (mCx hR c2).2
    refine lv_iload_n hx hb dX9_price_13 rfl (lv_at hl 2 rfl) ?_
    refine lv_aload_n hx hb dX9_price_14 rfl (lv_at hl 0 rfl) ?_
    refine lv_iload_n hx hb dX9_price_15 rfl (lv_at hl 1 rfl) ?_
    refine lv_iconst (v := 2) hx hb dX9_price_16 (by decide) ?_
    refine callv (y := yX9_toldBy) ⟨hx, hb, hml, hown, ht⟩ hK hN hP hS (k := 0) (c_X9_toldBy l D ca ad hI (s2 σ 0 0 0) τ x (2 : Int32) rfl (by assumption) (show Int32.toNatClampNeg 2 = 2 from rfl) (by rw [vp_in_iff]; decide)) (by decide) (sm_obj _ _) rfl ok_X9_toldBy gw_1155 ⟨by decide, by decide⟩ rfl hl.1 rfl (Nat.le_of_ble_eq_true rfl) ⟨by decide, by decide⟩ dX9_price_17 (fun v_ S_ T_ H locs hp4 hP hS => ?_)
    obtain ⟨rfl, rfl, rfl⟩ := hp4
    try dsimp only [Option.toList, List.cons_append, List.nil_append]
    refine stk_i (v := ((σ 2) (495 + 19 * x.toNatClampNeg + 2))) (by first | (rw [(show (s2 σ 0 0 0) 2 = (σ 2) from (s2_nk _ _ _ (by omega)))]; done) | (rw [(show (s2 σ 0 0 0) 2 = (σ 2) from (s2_nk _ _ _ (by omega)))]; rfl)) ?_
    refine lv_aload_n hx hb dX9_price_20 rfl (lv_at hl 0 rfl) ?_
    refine callv (y := yX9_month) ⟨hx, hb, hml, hown, ht⟩ hK hN hP hS (k := 0) (c_X9_month l D ca ad hI (s2 σ 0 0 0) τ ) (by decide) (sm_obj _ _) rfl ok_X9_month gw_1089 ⟨by decide, by decide⟩ rfl hl.1 rfl (Nat.le_of_ble_eq_true rfl) ⟨by decide, by decide⟩ dX9_price_21 (fun v_ S_ T_ H locs hp5 hP hS => ?_)
    obtain ⟨rfl, rfl, rfl⟩ := hp5
    try dsimp only [Option.toList, List.cons_append, List.nil_append]
    refine stk_i (v := ((σ 2) 0)) (by first | (rw [(show (s2 σ 0 0 0) 2 = (σ 2) from (s2_nk _ _ _ (by omega)))]; done) | (rw [(show (s2 σ 0 0 0) 2 = (σ 2) from (s2_nk _ _ _ (by omega)))]; rfl)) ?_
    refine calls (y := yX9_isIn) ⟨hx, hb, hml, hown, ht⟩ hK hN hP hS (c_X9_isIn l D ca ad hI (s2 σ 0 0 0) τ mo ((σ 2) (495 + 19 * x.toNatClampNeg + 2)) ((σ 2) 0)) ok_X9_isIn gw_1042 ⟨by decide, by decide⟩ rfl hl.1 rfl (Nat.le_of_ble_eq_true rfl) ⟨by decide, by decide⟩ dX9_price_24 (fun v_ S_ T_ H locs hp6 hP hS => ?_)
    obtain ⟨rfl, rfl, rfl⟩ := hp6
    try dsimp only [Option.toList, List.cons_append, List.nil_append]
    refine br_eq (tgt := 39) hx hb dX9_price_27 (by decide) (fun c7 => ?_) (fun c7 => ?_)
    · refine lv_aload_n hx hb dX9_price_39 rfl (lv_at hl 0 rfl) ?_
      refine callv (y := yX9_refuse) ⟨hx, hb, hml, hown, ht⟩ hK hN hP hS (k := 0) (c_X9_refuse l D ca ad hI (s2 σ 0 0 0) τ ) (by decide) (sm_obj _ _) rfl ok_X9_refuse gw_1136 ⟨by decide, by decide⟩ rfl hl.1 rfl (Nat.le_of_ble_eq_true rfl) ⟨by decide, by decide⟩ dX9_price_40 (fun v_ S_ T_ H locs hp8 hP hS => ?_)
      obtain ⟨rfl, rfl, rfl⟩ := hp8
      try dsimp only [Option.toList, List.cons_append, List.nil_append]
      exact ret_i hx hb hr hlk hP hS dX9_price_43 (⟨by first | with_reducible rfl | (simp only [mPrR, mPrC, c2, c7, ↓reduceIte, Bool.false_eq_true]; done) | (simp only [mPrR, mPrC, c2, c7, ↓reduceIte, Bool.false_eq_true]; rfl) | rfl, by first | with_reducible rfl | (simp only [mPrR, mPrC, c2, c7, ↓reduceIte, Bool.false_eq_true]; done) | (simp only [mPrR, mPrC, c2, c7, ↓reduceIte, Bool.false_eq_true]; rfl) | rfl, rfl⟩)
    · have vm := (mPx hR hC c7).1
      have hm9 := (mPx hR hC c7).2
      refine lv_iload_n hx hb dX9_price_30 rfl (lv_at hl 3 rfl) ?_
      refine lv_iconst (v := 0) hx hb dX9_price_31 (by decide) ?_
      refine lv_iconst (v := 2) hx hb dX9_price_32 (by decide) ?_
      refine calls (y := yX9_isIn) ⟨hx, hb, hml, hown, ht⟩ hK hN hP hS (c_X9_isIn l D ca ad hI (s2 σ 0 0 0) τ w (0 : Int32) (2 : Int32)) ok_X9_isIn gw_1042 ⟨by decide, by decide⟩ rfl hl.1 rfl (Nat.le_of_ble_eq_true rfl) ⟨by decide, by decide⟩ dX9_price_33 (fun v_ S_ T_ H locs hp9 hP hS => ?_)
      obtain ⟨rfl, rfl, rfl⟩ := hp9
      try dsimp only [Option.toList, List.cons_append, List.nil_append]
      refine br_ne (tgt := 44) hx hb dX9_price_36 (by decide) (fun c10 => ?_) (fun c10 => ?_)
      · refine lv_iload_n hx hb dX9_price_44 rfl (lv_at hl 3 rfl) ?_
        refine lv_if_ne (tgt := 57) hx hb dX9_price_45 (by decide) (fun c11 => ?_) (fun c11 => ?_)
        · have dc11 := c11
          rw [i_eq] at dc11
          refine lv_iload_n hx hb dX9_price_57 rfl (lv_at hl 3 rfl) ?_
          refine lv_iconst (v := 1) hx hb dX9_price_58 (by decide) ?_
          refine lv_icmp_ne (tgt := 71) hx hb dX9_price_59 (by decide) (fun c12 => ?_) (fun c12 => ?_)
          · have dc12 := c12
            rw [i_eq] at dc12
            refine lv_aload_n hx hb dX9_price_71 rfl (lv_at hl 0 rfl) ?_
            refine lv_iload_n hx hb dX9_price_72 rfl (lv_at hl 1 rfl) ?_
            refine lv_iload_n hx hb dX9_price_73 rfl (lv_at hl 2 rfl) ?_
            refine callv (y := yX9_priceOf) ⟨hx, hb, hml, hown, ht⟩ hK hN hP hS (k := 0) (c_X9_priceOf l D ca ad hI (s2 σ 0 0 0) τ x mo rfl (by assumption) (vpI vm) (vpL vm) (by rw [show (s2 σ 0 0 0) 2 = (σ 2) from (s2_nk _ _ _ (by omega))]; exact hR) (by rw [s2_nk _ _ _ (by decide)]; exact hC) (by rw [s2_nk _ _ _ (by decide)]; exact hm9)) (by decide) (sm_obj _ _) rfl ok_X9_priceOf gw_1174 ⟨by decide, by decide⟩ rfl hl.1 rfl (Nat.le_of_ble_eq_true rfl) ⟨by decide, by decide⟩ dX9_price_74 (fun v_ S_ T_ H locs hp13 hP hS => ?_)
            obtain ⟨rfl, rfl, rfl⟩ := hp13
            try dsimp only [Option.toList, List.cons_append, List.nil_append]
            refine stk_i (v := (mPri ((σ 2)) x.toNatClampNeg (mo.toNatClampNeg + 1))) (by first | (rw [(show (s2 σ 0 0 0) 2 = (σ 2) from (s2_nk _ _ _ (by omega)))]; done) | (rw [(show (s2 σ 0 0 0) 2 = (σ 2) from (s2_nk _ _ _ (by omega)))]; rfl)) ?_
            exact ret_i hx hb hr hlk hP hS dX9_price_77 (⟨by first | with_reducible rfl | (simp only [mPrR, mPrC, c2, c7, c10, c11, c12, ↓reduceIte, Bool.false_eq_true]; done) | (simp only [mPrR, mPrC, c2, c7, c10, c11, c12, ↓reduceIte, Bool.false_eq_true]; rfl) | rfl, by first | with_reducible rfl | (simp only [mPrR, mPrC, c2, c7, c10, c11, c12, ↓reduceIte, Bool.false_eq_true]; done) | (simp only [mPrR, mPrC, c2, c7, c10, c11, c12, ↓reduceIte, Bool.false_eq_true]; rfl) | rfl, rfl⟩)
          · have dc12 := c12
            rw [i_eq] at dc12
            refine lv_aload_n hx hb dX9_price_62 rfl (lv_at hl 0 rfl) ?_
            refine lv_iload_n hx hb dX9_price_63 rfl (lv_at hl 1 rfl) ?_
            refine lv_iload_n hx hb dX9_price_64 rfl (lv_at hl 2 rfl) ?_
            refine callv (y := yX9_moveOf) ⟨hx, hb, hml, hown, ht⟩ hK hN hP hS (k := 0) (c_X9_moveOf l D ca ad hI (s2 σ 0 0 0) τ x mo rfl (by assumption) (vpI vm) (vpL vm) (by rw [show (s2 σ 0 0 0) 2 = (σ 2) from (s2_nk _ _ _ (by omega))]; exact hR) (by rw [s2_nk _ _ _ (by decide)]; exact hC) (by rw [s2_nk _ _ _ (by decide)]; exact hm9)) (by decide) (sm_obj _ _) rfl ok_X9_moveOf gw_1168 ⟨by decide, by decide⟩ rfl hl.1 rfl (Nat.le_of_ble_eq_true rfl) ⟨by decide, by decide⟩ dX9_price_65 (fun v_ S_ T_ H locs hp14 hP hS => ?_)
            obtain ⟨rfl, rfl, rfl⟩ := hp14
            try dsimp only [Option.toList, List.cons_append, List.nil_append]
            refine stk_i (v := (mMov ((σ 2)) x.toNatClampNeg (mo.toNatClampNeg + 1))) (by first | (rw [(show (s2 σ 0 0 0) 2 = (σ 2) from (s2_nk _ _ _ (by omega)))]; done) | (rw [(show (s2 σ 0 0 0) 2 = (σ 2) from (s2_nk _ _ _ (by omega)))]; rfl)) ?_
            refine lv_goto (tgt := 77) hx hb dX9_price_68 (by decide) ?_
            exact ret_i hx hb hr hlk hP hS dX9_price_77 (⟨by first | with_reducible rfl | (simp only [mPrR, mPrC, c2, c7, c10, c11, c12, ↓reduceIte, Bool.false_eq_true]; done) | (simp only [mPrR, mPrC, c2, c7, c10, c11, c12, ↓reduceIte, Bool.false_eq_true]; rfl) | rfl, by first | with_reducible rfl | (simp only [mPrR, mPrC, c2, c7, c10, c11, c12, ↓reduceIte, Bool.false_eq_true]; done) | (simp only [mPrR, mPrC, c2, c7, c10, c11, c12, ↓reduceIte, Bool.false_eq_true]; rfl) | rfl, rfl⟩)
        · have dc11 := c11
          rw [i_eq] at dc11
          refine lv_aload_n hx hb dX9_price_48 rfl (lv_at hl 0 rfl) ?_
          refine lv_iload_n hx hb dX9_price_49 rfl (lv_at hl 1 rfl) ?_
          refine lv_iload_n hx hb dX9_price_50 rfl (lv_at hl 2 rfl) ?_
          refine callv (y := yX9_factorOf) ⟨hx, hb, hml, hown, ht⟩ hK hN hP hS (k := 0) (c_X9_factorOf l D ca ad hI (s2 σ 0 0 0) τ x mo rfl (by assumption) (vpI vm) (vpL vm) (by rw [show (s2 σ 0 0 0) 2 = (σ 2) from (s2_nk _ _ _ (by omega))]; exact hR) (by rw [s2_nk _ _ _ (by decide)]; exact hC) (by rw [s2_nk _ _ _ (by decide)]; exact hm9)) (by decide) (sm_obj _ _) rfl ok_X9_factorOf gw_1163 ⟨by decide, by decide⟩ rfl hl.1 rfl (Nat.le_of_ble_eq_true rfl) ⟨by decide, by decide⟩ dX9_price_51 (fun v_ S_ T_ H locs hp15 hP hS => ?_)
          obtain ⟨rfl, rfl, rfl⟩ := hp15
          try dsimp only [Option.toList, List.cons_append, List.nil_append]
          refine stk_i (v := (mFac ((σ 2)) x.toNatClampNeg (mo.toNatClampNeg + 1))) (by first | (rw [(show (s2 σ 0 0 0) 2 = (σ 2) from (s2_nk _ _ _ (by omega)))]; done) | (rw [(show (s2 σ 0 0 0) 2 = (σ 2) from (s2_nk _ _ _ (by omega)))]; rfl)) ?_
          refine lv_goto (tgt := 77) hx hb dX9_price_54 (by decide) ?_
          exact ret_i hx hb hr hlk hP hS dX9_price_77 (⟨by first | with_reducible rfl | (simp only [mPrR, mPrC, c2, c7, c10, c11, ↓reduceIte, Bool.false_eq_true]; done) | (simp only [mPrR, mPrC, c2, c7, c10, c11, ↓reduceIte, Bool.false_eq_true]; rfl) | rfl, by first | with_reducible rfl | (simp only [mPrR, mPrC, c2, c7, c10, c11, ↓reduceIte, Bool.false_eq_true]; done) | (simp only [mPrR, mPrC, c2, c7, c10, c11, ↓reduceIte, Bool.false_eq_true]; rfl) | rfl, rfl⟩)
      · refine lv_aload_n hx hb dX9_price_39 rfl (lv_at hl 0 rfl) ?_
        refine callv (y := yX9_refuse) ⟨hx, hb, hml, hown, ht⟩ hK hN hP hS (k := 0) (c_X9_refuse l D ca ad hI (s2 σ 0 0 0) τ ) (by decide) (sm_obj _ _) rfl ok_X9_refuse gw_1136 ⟨by decide, by decide⟩ rfl hl.1 rfl (Nat.le_of_ble_eq_true rfl) ⟨by decide, by decide⟩ dX9_price_40 (fun v_ S_ T_ H locs hp16 hP hS => ?_)
        obtain ⟨rfl, rfl, rfl⟩ := hp16
        try dsimp only [Option.toList, List.cons_append, List.nil_append]
        exact ret_i hx hb hr hlk hP hS dX9_price_43 (⟨by first | with_reducible rfl | (simp only [mPrR, mPrC, c2, c7, c10, ↓reduceIte, Bool.false_eq_true]; done) | (simp only [mPrR, mPrC, c2, c7, c10, ↓reduceIte, Bool.false_eq_true]; rfl) | rfl, by first | with_reducible rfl | (simp only [mPrR, mPrC, c2, c7, c10, ↓reduceIte, Bool.false_eq_true]; done) | (simp only [mPrR, mPrC, c2, c7, c10, ↓reduceIte, Bool.false_eq_true]; rfl) | rfl, rfl⟩)
set_option maxHeartbeats 4000000 in
set_option maxRecDepth 100000 in
theorem lp_X9_waits {l : Launch} {D : va_G} {ca : Nat → ClassId} {ad : Nat → Nat} (hI : Inj 6 ad) {σ : MI} {τ : ML} (hR : RI (σ 2)) (x : Int32) {a : Nat} (ea : x.toNatClampNeg = a) (va : vp_in x 30) (hD : (a : Int) < (σ 2 609).toInt) {p : Program} {e : Env} {s : State} {m : MethodId} {args : Array Value} {below : List Frame} {meth : Method} {c : Code} (hx : p.tables.exec = Jvm.exec) (hb : c.code = cX9_waits) (hr : meth.sig.returnType = (some .int)) (ht : ∀ w ∈ GG, w.before args s = true) (hown : s.vm.findClass yX9_waits.cls = some m.cls) (hlk : meth.locks = false) (hml : c.maxLocals = 6) (hK : va_K D vwCl (TY ca) s) (hN : NW s) : ∀ (n : Nat) (k : Nat) (hk : k ≤ (σ 2 (495 + 19 * (σ 2 (610 + 9 * a + 0)).toNatClampNeg + 6)).toNatClampNeg) (hn : (σ 2 (495 + 19 * (σ 2 (610 + 9 * a + 0)).toNatClampNeg + 6)).toNatClampNeg - k < n) (u : Int32) (hu : mWa (σ 2) (σ 2 (610 + 9 * a + 0)).toNatClampNeg (σ 2 (610 + 9 * a + 4)).toNatClampNeg k = u) (H : Heap) (locs : List Loc) (hP : PW D 6 ad (mxf ca ad) σ τ H) (hS : va_S (AA 6 ad) s.heap H locs) (ls : Array Slot) (hl : lv_has ls 6 [(4, .int (nI k)), (3, .int u), (2, .int (σ 2 (610 + 9 * a + 0))), (0, .ref (ad 0)), (1, .int x)]), W p l e { frames := 1, cells := 0, slots := 0, locals := 22 } s m args below meth c H locs 0 0 (MQ below (QD D 6 ad (mxf ca ad) (fun v_ S_ T_ => some (.int (mWai (σ 2) a)) = v_ ∧ σ = S_ ∧ τ = T_)) args s 0 0 (AA 6 ad)) (F0 m 12 ls []) := by
  intro n
  induction n with
  | zero => intro k hk hn u hu H locs hP hS ls hl; exfalso; omega
  | succ n ih =>
    intro k hk hn u hu H locs hP hS ls hl
    have hDI := hR.del hD
    have h494 := hR.2.2.1
    have hcl := clampI (σ 2 (610 + 9 * a + 0))
    have hC : ((σ 2 (610 + 9 * a + 0)).toNatClampNeg : Int) < (σ 2 494).toInt := by have := hDI.1; have := hDI.2.1; omega
    have hCI := hR.con hC
    have h6 := hCI.2.2.2.2.2.2.1
    have hbs := hCI.2.2.1
    unfold rg at h6 hbs h494
    have vof : vp_in (σ 2 (610 + 9 * a + 0)) 6 := by have := hDI.1; have := hDI.2.1; rw [vp_in_iff]; omega
    have vat : vp_in (σ 2 (610 + 9 * a + 4)) 36 := by have := hDI.2.2.1; have := hDI.2.2.2.1; rw [vp_in_iff]; omega
    have hc := clampI (σ 2 (495 + 19 * (σ 2 (610 + 9 * a + 0)).toNatClampNeg + 6))
    have ek : (nI k).toInt = k := nI_toInt (by omega)
    refine lv_iload hx hb dX9_waits_12 (lv_at hl 0 rfl) ?_
    refine lv_aload_n hx hb dX9_waits_14 rfl (lv_at hl 3 rfl) ?_
    refine lv_iload_n hx hb dX9_waits_15 rfl (lv_at hl 2 rfl) ?_
    refine lv_bipush (v := 6) hx hb dX9_waits_16 (by decide) ?_
    refine callv (y := yX9_toldBy) ⟨hx, hb, hml, hown, ht⟩ hK hN hP hS (k := 0) (c_X9_toldBy l D ca ad hI σ τ (σ 2 (610 + 9 * a + 0)) (6 : Int32) rfl vof (show Int32.toNatClampNeg 6 = 6 from rfl) (by rw [vp_in_iff]; decide)) (by decide) (sm_obj _ _) rfl ok_X9_toldBy gw_1155 ⟨by decide, by decide⟩ rfl hl.1 rfl (Nat.le_of_ble_eq_true rfl) ⟨by decide, by decide⟩ dX9_waits_18 (fun v_ S_ T_ H locs hp1 hP hS => ?_)
    obtain ⟨rfl, rfl, rfl⟩ := hp1
    try dsimp only [Option.toList, List.cons_append, List.nil_append]
    refine lv_icmp_ge (tgt := 82) hx hb dX9_waits_21 (by decide) (fun c2 => ?_) (fun c2 => ?_)
    · have dc2 := c2
      rw [i_le] at dc2
      refine lv_iload_n hx hb dX9_waits_82 rfl (lv_at hl 1 rfl) ?_
      exact ret_i hx hb hr hlk hP hS dX9_waits_83 (⟨by rw [mWai, show (σ 2 (495 + 19 * (σ 2 (610 + 9 * a + 0)).toNatClampNeg + 6)).toNatClampNeg = k by omega, hu], rfl, rfl⟩)
    · have dc2 := c2
      rw [i_le] at dc2
      have hk6 := hCI.2.2.2.2.2.2.2.1 k (by omega)
      have h16 := hR.2.1
      unfold rg at h16
      have vix : vp_in (σ 2 (495 + 19 * (σ 2 (610 + 9 * a + 0)).toNatClampNeg + (8 + 2 * k))) 6 := by rw [vp_in_iff]; omega
      refine lv_aload_n hx hb dX9_waits_24 rfl (lv_at hl 3 rfl) ?_
      refine lv_iload_n hx hb dX9_waits_25 rfl (lv_at hl 2 rfl) ?_
      refine lv_bipush (v := 8) hx hb dX9_waits_26 (by decide) ?_
      refine lv_iconst (v := 2) hx hb dX9_waits_28 (by decide) ?_
      refine lv_iload hx hb dX9_waits_29 (lv_at hl 0 rfl) ?_
      refine lv_imul hx hb dX9_waits_31 ?_
      refine lv_iadd hx hb dX9_waits_32 ?_
      refine callv (y := yX9_toldBy) ⟨hx, hb, hml, hown, ht⟩ hK hN hP hS (k := 0) (c_X9_toldBy l D ca ad hI σ τ (σ 2 (610 + 9 * a + 0)) (8 + (2 * (nI k))) rfl vof (by rw [tw8, nI_clamp (by omega)]) (by rw [tw8]; exact vp_in_nI (by omega) (by decide))) (by decide) (sm_obj _ _) rfl ok_X9_toldBy gw_1155 ⟨by decide, by decide⟩ rfl hl.1 rfl (Nat.le_of_ble_eq_true rfl) ⟨by decide, by decide⟩ dX9_waits_33 (fun v_ S_ T_ H locs hp3 hP hS => ?_)
      obtain ⟨rfl, rfl, rfl⟩ := hp3
      try dsimp only [Option.toList, List.cons_append, List.nil_append]
      refine lv_istore (lv' := [(5, .int (σ 2 (495 + 19 * ((σ 2 (610 + 9 * a + 0)).toNatClampNeg) + (8 + 2 * k)))), (4, .int (nI k)), (3, .int u), (2, .int (σ 2 (610 + 9 * a + 0))), (0, .ref (ad 0)), (1, .int x)]) hx hb dX9_waits_36 hl (by decide) rfl (fun ls hl => ?_)
      refine lv_aload_n hx hb dX9_waits_38 rfl (lv_at hl 4 rfl) ?_
      refine lv_iload_n hx hb dX9_waits_39 rfl (lv_at hl 3 rfl) ?_
      refine lv_bipush (v := 7) hx hb dX9_waits_40 (by decide) ?_
      refine lv_iconst (v := 2) hx hb dX9_waits_42 (by decide) ?_
      refine lv_iload hx hb dX9_waits_43 (lv_at hl 1 rfl) ?_
      refine lv_imul hx hb dX9_waits_45 ?_
      refine lv_iadd hx hb dX9_waits_46 ?_
      refine callv (y := yX9_toldBy) ⟨hx, hb, hml, hown, ht⟩ hK hN hP hS (k := 0) (c_X9_toldBy l D ca ad hI σ τ (σ 2 (610 + 9 * a + 0)) (7 + (2 * (nI k))) rfl vof (by rw [tw7, nI_clamp (by omega)]) (by rw [tw7]; exact vp_in_nI (by omega) (by decide))) (by decide) (sm_obj _ _) rfl ok_X9_toldBy gw_1155 ⟨by decide, by decide⟩ rfl hl.1 rfl (Nat.le_of_ble_eq_true rfl) ⟨by decide, by decide⟩ dX9_waits_47 (fun v_ S_ T_ H locs hp4 hP hS => ?_)
      obtain ⟨rfl, rfl, rfl⟩ := hp4
      try dsimp only [Option.toList, List.cons_append, List.nil_append]
      refine lv_if_le (tgt := 76) hx hb dX9_waits_50 (by decide) (fun c5 => ?_) (fun c5 => ?_)
      · have dc5 := c5
        rw [i_le] at dc5
        refine lv_iinc (v := (nI k) + 1) (lv' := [(4, .int ((nI k) + 1)), (5, .int (σ 2 (495 + 19 * ((σ 2 (610 + 9 * a + 0)).toNatClampNeg) + (8 + 2 * k)))), (3, .int u), (2, .int (σ 2 (610 + 9 * a + 0))), (0, .ref (ad 0)), (1, .int x)]) hx hb dX9_waits_76 hl (k := 1) rfl rfl (by decide) rfl (fun ls hl => ?_)
        refine lv_goto (tgt := 12) hx hb dX9_waits_79 (by decide) ?_
        rw [nI_1] at hl
        exact ih (k + 1) (by omega) (by omega) _ (by simp only [mWa, c5, ↓reduceIte, hu]) _ _ hP hS ls (lv_sub hl [0, 2, 3, 4, 5] rfl)
      · have dc5 := c5
        rw [i_le] at dc5
        refine lv_aload_n hx hb dX9_waits_53 rfl (lv_at hl 4 rfl) ?_
        refine lv_iload hx hb dX9_waits_54 (lv_at hl 0 rfl) ?_
        refine lv_aload_n hx hb dX9_waits_56 rfl (lv_at hl 4 rfl) ?_
        refine lv_iload_n hx hb dX9_waits_57 rfl (lv_at hl 5 rfl) ?_
        refine lv_iconst (v := 4) hx hb dX9_waits_58 (by decide) ?_
        refine callv (y := yX9_its) ⟨hx, hb, hml, hown, ht⟩ hK hN hP hS (k := 0) (c_X9_its l D ca ad hI σ τ x (4 : Int32) ea va (show Int32.toNatClampNeg 4 = 4 from rfl) (by rw [vp_in_iff]; decide)) (by decide) (sm_obj _ _) rfl ok_X9_its gw_1097 ⟨by decide, by decide⟩ rfl hl.1 rfl (Nat.le_of_ble_eq_true rfl) ⟨by decide, by decide⟩ dX9_waits_59 (fun v_ S_ T_ H locs hp6 hP hS => ?_)
        obtain ⟨rfl, rfl, rfl⟩ := hp6
        try dsimp only [Option.toList, List.cons_append, List.nil_append]
        refine callv (y := yX9_sureOf) ⟨hx, hb, hml, hown, ht⟩ hK hN hP hS (k := 0) (c_X9_sureOf l D ca ad hI σ τ (σ 2 (495 + 19 * ((σ 2 (610 + 9 * a + 0)).toNatClampNeg) + (8 + 2 * k))) (σ 2 (610 + 9 * a + 4)) rfl vix rfl vat) (by decide) (sm_obj _ _) rfl ok_X9_sureOf gw_1116 ⟨by decide, by decide⟩ rfl hl.1 rfl (Nat.le_of_ble_eq_true rfl) ⟨by decide, by decide⟩ dX9_waits_62 (fun v_ S_ T_ H locs hp7 hP hS => ?_)
        obtain ⟨rfl, rfl, rfl⟩ := hp7
        try dsimp only [Option.toList, List.cons_append, List.nil_append]
        refine lv_iconst (v := 2) hx hb dX9_waits_65 (by decide) ?_
        refine lv_icmp_eq (tgt := 76) hx hb dX9_waits_66 (by decide) (fun c8 => ?_) (fun c8 => ?_)
        · have dc8 := c8
          rw [i_eq] at dc8
          refine lv_iinc (v := (nI k) + 1) (lv' := [(4, .int ((nI k) + 1)), (5, .int (σ 2 (495 + 19 * ((σ 2 (610 + 9 * a + 0)).toNatClampNeg) + (8 + 2 * k)))), (3, .int u), (2, .int (σ 2 (610 + 9 * a + 0))), (0, .ref (ad 0)), (1, .int x)]) hx hb dX9_waits_76 hl (k := 1) rfl rfl (by decide) rfl (fun ls hl => ?_)
          refine lv_goto (tgt := 12) hx hb dX9_waits_79 (by decide) ?_
          rw [nI_1] at hl
          exact ih (k + 1) (by omega) (by omega) _ (by simp only [mWa, c5, c8, ↓reduceIte, hu]) _ _ hP hS ls (lv_sub hl [0, 2, 3, 4, 5] rfl)
        · have dc8 := c8
          rw [i_eq] at dc8
          refine lv_iload_n hx hb dX9_waits_69 rfl (lv_at hl 2 rfl) ?_
          refine lv_iconst (v := 1) hx hb dX9_waits_70 (by decide) ?_
          refine lv_iload hx hb dX9_waits_71 (lv_at hl 0 rfl) ?_
          refine lv_ishl hx hb dX9_waits_73 ?_
          refine lv_ior hx hb dX9_waits_74 ?_
          refine lv_istore_n (lv' := [(3, .int (u ||| (1 <<< ((σ 2 (495 + 19 * ((σ 2 (610 + 9 * a + 0)).toNatClampNeg) + (8 + 2 * k))) &&& 31)))), (5, .int (σ 2 (495 + 19 * ((σ 2 (610 + 9 * a + 0)).toNatClampNeg) + (8 + 2 * k)))), (4, .int (nI k)), (2, .int (σ 2 (610 + 9 * a + 0))), (0, .ref (ad 0)), (1, .int x)]) hx hb dX9_waits_75 rfl hl (by decide) rfl (fun ls hl => ?_)
          refine lv_iinc (v := (nI k) + 1) (lv' := [(4, .int ((nI k) + 1)), (3, .int (u ||| (1 <<< ((σ 2 (495 + 19 * ((σ 2 (610 + 9 * a + 0)).toNatClampNeg) + (8 + 2 * k))) &&& 31)))), (5, .int (σ 2 (495 + 19 * ((σ 2 (610 + 9 * a + 0)).toNatClampNeg) + (8 + 2 * k)))), (2, .int (σ 2 (610 + 9 * a + 0))), (0, .ref (ad 0)), (1, .int x)]) hx hb dX9_waits_76 hl (k := 2) rfl rfl (by decide) rfl (fun ls hl => ?_)
          refine lv_goto (tgt := 12) hx hb dX9_waits_79 (by decide) ?_
          rw [nI_1] at hl
          exact ih (k + 1) (by omega) (by omega) _ (by simp only [mWa, c5, c8, ↓reduceIte, hu]) _ _ hP hS ls (lv_sub hl [0, 1, 3, 4, 5] rfl)
set_option maxHeartbeats 4000000 in
set_option maxRecDepth 100000 in
theorem c_X9_waits (l : Launch) (D : va_G) (ca : Nat → ClassId) (ad : Nat → Nat) (hI : Inj 6 ad) (σ : MI) (τ : ML) (hR : RI (σ 2)) (x : Int32) {a : Nat} (ea : x.toNatClampNeg = a) (va : vp_in x 30) (hD : (a : Int) < (σ 2 609).toInt) : CT l D (TY ca) 6 ad (mxf ca ad) yX9_waits cX9_waits 6 (some .int) 1 22 [.ref (ad 0), .int x] σ τ (fun v_ S_ T_ => some (.int (mWai (σ 2) a)) = v_ ∧ σ = S_ ∧ τ = T_) := by
  refine CT.of (by decide) (Nat.le_of_ble_eq_true rfl) ?_
  intro p e s m args below meth c hx hb hr ht hown hlk hml hP hK hN hS ls hl
  have hl : lv_has ls 6 [(0, .ref (ad 0)), (1, .int x)] := hl
  refine lv_aload_n hx hb dX9_waits_0 rfl (lv_at hl 0 rfl) ?_
  refine lv_iload_n hx hb dX9_waits_1 rfl (lv_at hl 1 rfl) ?_
  refine lv_iconst (v := 0) hx hb dX9_waits_2 (by decide) ?_
  refine callv (y := yX9_its) ⟨hx, hb, hml, hown, ht⟩ hK hN hP hS (k := 0) (c_X9_its l D ca ad hI σ τ x (0 : Int32) ea va (show Int32.toNatClampNeg 0 = 0 from rfl) (by rw [vp_in_iff]; decide)) (by decide) (sm_obj _ _) rfl ok_X9_its gw_1097 ⟨by decide, by decide⟩ rfl hl.1 rfl (Nat.le_of_ble_eq_true rfl) ⟨by decide, by decide⟩ dX9_waits_3 (fun v_ S_ T_ H locs hp1 hP hS => ?_)
  obtain ⟨rfl, rfl, rfl⟩ := hp1
  try dsimp only [Option.toList, List.cons_append, List.nil_append]
  refine lv_istore_n (lv' := [(2, .int (σ 2 (610 + 9 * a + 0))), (0, .ref (ad 0)), (1, .int x)]) hx hb dX9_waits_6 rfl hl (by decide) rfl (fun ls hl => ?_)
  refine lv_iconst (v := 0) hx hb dX9_waits_7 (by decide) ?_
  refine lv_istore_n (lv' := [(3, .int 0), (2, .int (σ 2 (610 + 9 * a + 0))), (0, .ref (ad 0)), (1, .int x)]) hx hb dX9_waits_8 rfl hl (by decide) rfl (fun ls hl => ?_)
  refine lv_iconst (v := 0) hx hb dX9_waits_9 (by decide) ?_
  refine lv_istore (lv' := [(4, .int 0), (3, .int 0), (2, .int (σ 2 (610 + 9 * a + 0))), (0, .ref (ad 0)), (1, .int x)]) hx hb dX9_waits_10 hl (by decide) rfl (fun ls hl => ?_)
  exact lp_X9_waits hI hR x ea va hD hx hb hr ht hown hlk hml hK hN ((σ 2 (495 + 19 * (σ 2 (610 + 9 * a + 0)).toNatClampNeg + 6)).toNatClampNeg + 1) 0 (by omega) (by omega) _ rfl _ _ hP hS ls hl
set_option maxHeartbeats 4000000 in
set_option maxRecDepth 100000 in
theorem c_X9_delivery (l : Launch) (D : va_G) (ca : Nat → ClassId) (ad : Nat → Nat) (hI : Inj 6 ad) (σ : MI) (τ : ML) (hR : RI (σ 2)) (x w : Int32) : CT l D (TY ca) 6 ad (mxf ca ad) yX9_delivery cX9_delivery 3 (some .int) 2 47 [.ref (ad 0), .int x, .int w] σ τ (fun v_ S_ T_ => some (.int (mDel (σ 2) x w)) = v_ ∧ (s2 σ 0 0 0) = S_ ∧ τ = T_) := by
  refine CT.of (by decide) (Nat.le_of_ble_eq_true rfl) ?_
  intro p e s m args below meth c hx hb hr ht hown hlk hml hP hK hN hS ls hl
  have hl : lv_has ls 3 [(0, .ref (ad 0)), (1, .int x), (2, .int w)] := hl
  refine lv_aload_n hx hb dX9_delivery_0 rfl (lv_at hl 0 rfl) ?_
  refine lv_iconst (v := 0) hx hb dX9_delivery_1 (by decide) ?_
  refine fputx (ref := "") (w := 0) hx hb ht inG9 tyX9 tyX9_ok nmX9 hown hK hP hI hS (k := 0) (by decide) (sm_obj _ _) rfl 0 (by decide) gw_939 rfl rfl rfl (Nat.le_of_ble_eq_true rfl) (sm_obj _ _) dX9_delivery_2 (fun H locs hP hS => ?_)
  refine lv_aload_n hx hb dX9_delivery_5 rfl (lv_at hl 0 rfl) ?_
  refine lv_iload_n hx hb dX9_delivery_6 rfl (lv_at hl 1 rfl) ?_
  refine callv (y := yX9_isDelivery) ⟨hx, hb, hml, hown, ht⟩ hK hN hP hS (k := 0) (c_X9_isDelivery l D ca ad hI (s2 σ 0 0 0) τ x) (by decide) (sm_obj _ _) rfl ok_X9_isDelivery gw_1195 ⟨by decide, by decide⟩ rfl hl.1 rfl (Nat.le_of_ble_eq_true rfl) ⟨by decide, by decide⟩ dX9_delivery_7 (fun v_ S_ T_ H locs hp1 hP hS => ?_)
  obtain ⟨rfl, rfl, rfl⟩ := hp1
  try dsimp only [Option.toList, List.cons_append, List.nil_append]
  refine stk_i (v := (b2i (mIn x 0 ((σ 2) 609 - 1)))) (by first | (rw [(show (s2 σ 0 0 0) 2 = (σ 2) from (s2_nk _ _ _ (by omega)))]; done) | (rw [(show (s2 σ 0 0 0) 2 = (σ 2) from (s2_nk _ _ _ (by omega)))]; rfl)) ?_
  refine br_eq (tgt := 23) hx hb dX9_delivery_10 (by decide) (fun c2 => ?_) (fun c2 => ?_)
  · refine lv_iconst (v := -1) hx hb dX9_delivery_23 (by decide) ?_
    exact ret_i hx hb hr hlk hP hS dX9_delivery_24 (⟨by first | with_reducible rfl | (simp only [mDel, c2, ↓reduceIte, Bool.false_eq_true]; done) | (simp only [mDel, c2, ↓reduceIte, Bool.false_eq_true]; rfl) | rfl, by first | with_reducible rfl | (simp only [mDel, c2, ↓reduceIte, Bool.false_eq_true]; done) | (simp only [mDel, c2, ↓reduceIte, Bool.false_eq_true]; rfl) | rfl, rfl⟩)
  · have vx := (mDx hR c2).1
    have hD := (mDx hR c2).2
    refine lv_iload_n hx hb dX9_delivery_13 rfl (lv_at hl 2 rfl) ?_
    refine lv_iconst (v := 0) hx hb dX9_delivery_14 (by decide) ?_
    refine lv_bipush (v := 8) hx hb dX9_delivery_15 (by decide) ?_
    refine calls (y := yX9_isIn) ⟨hx, hb, hml, hown, ht⟩ hK hN hP hS (c_X9_isIn l D ca ad hI (s2 σ 0 0 0) τ w (0 : Int32) (8 : Int32)) ok_X9_isIn gw_1042 ⟨by decide, by decide⟩ rfl hl.1 rfl (Nat.le_of_ble_eq_true rfl) ⟨by decide, by decide⟩ dX9_delivery_17 (fun v_ S_ T_ H locs hp3 hP hS => ?_)
    obtain ⟨rfl, rfl, rfl⟩ := hp3
    try dsimp only [Option.toList, List.cons_append, List.nil_append]
    refine br_ne (tgt := 25) hx hb dX9_delivery_20 (by decide) (fun c4 => ?_) (fun c4 => ?_)
    · have vw := m8x c4
      refine lv_iload_n hx hb dX9_delivery_25 rfl (lv_at hl 2 rfl) ?_
      refine lv_bipush (v := 8) hx hb dX9_delivery_26 (by decide) ?_
      refine lv_icmp_ne (tgt := 54) hx hb dX9_delivery_28 (by decide) (fun c5 => ?_) (fun c5 => ?_)
      · have dc5 := c5
        rw [i_eq] at dc5
        refine lv_aload_n hx hb dX9_delivery_54 rfl (lv_at hl 0 rfl) ?_
        refine lv_iload_n hx hb dX9_delivery_55 rfl (lv_at hl 1 rfl) ?_
        refine lv_iload_n hx hb dX9_delivery_56 rfl (lv_at hl 2 rfl) ?_
        refine callv (y := yX9_its) ⟨hx, hb, hml, hown, ht⟩ hK hN hP hS (k := 0) (c_X9_its l D ca ad hI (s2 σ 0 0 0) τ x w rfl (by assumption) rfl (by assumption)) (by decide) (sm_obj _ _) rfl ok_X9_its gw_1097 ⟨by decide, by decide⟩ rfl hl.1 rfl (Nat.le_of_ble_eq_true rfl) ⟨by decide, by decide⟩ dX9_delivery_57 (fun v_ S_ T_ H locs hp6 hP hS => ?_)
        obtain ⟨rfl, rfl, rfl⟩ := hp6
        try dsimp only [Option.toList, List.cons_append, List.nil_append]
        refine stk_i (v := ((σ 2) (610 + 9 * x.toNatClampNeg + w.toNatClampNeg))) (by first | (rw [(show (s2 σ 0 0 0) 2 = (σ 2) from (s2_nk _ _ _ (by omega)))]; done) | (rw [(show (s2 σ 0 0 0) 2 = (σ 2) from (s2_nk _ _ _ (by omega)))]; rfl)) ?_
        exact ret_i hx hb hr hlk hP hS dX9_delivery_60 (⟨by first | with_reducible rfl | (simp only [mDel, c2, c4, c5, ↓reduceIte, Bool.false_eq_true]; done) | (simp only [mDel, c2, c4, c5, ↓reduceIte, Bool.false_eq_true]; rfl) | rfl, by first | with_reducible rfl | (simp only [mDel, c2, c4, c5, ↓reduceIte, Bool.false_eq_true]; done) | (simp only [mDel, c2, c4, c5, ↓reduceIte, Bool.false_eq_true]; rfl) | rfl, rfl⟩)
      · have dc5 := c5
        rw [i_eq] at dc5
        refine lv_aload_n hx hb dX9_delivery_31 rfl (lv_at hl 0 rfl) ?_
        refine lv_iload_n hx hb dX9_delivery_32 rfl (lv_at hl 1 rfl) ?_
        refine lv_bipush (v := 6) hx hb dX9_delivery_33 (by decide) ?_
        refine callv (y := yX9_its) ⟨hx, hb, hml, hown, ht⟩ hK hN hP hS (k := 0) (c_X9_its l D ca ad hI (s2 σ 0 0 0) τ x (6 : Int32) rfl (by assumption) (show Int32.toNatClampNeg 6 = 6 from rfl) (by rw [vp_in_iff]; decide)) (by decide) (sm_obj _ _) rfl ok_X9_its gw_1097 ⟨by decide, by decide⟩ rfl hl.1 rfl (Nat.le_of_ble_eq_true rfl) ⟨by decide, by decide⟩ dX9_delivery_35 (fun v_ S_ T_ H locs hp7 hP hS => ?_)
        obtain ⟨rfl, rfl, rfl⟩ := hp7
        try dsimp only [Option.toList, List.cons_append, List.nil_append]
        refine stk_i (v := ((σ 2) (610 + 9 * x.toNatClampNeg + 6))) (by first | (rw [(show (s2 σ 0 0 0) 2 = (σ 2) from (s2_nk _ _ _ (by omega)))]; done) | (rw [(show (s2 σ 0 0 0) 2 = (σ 2) from (s2_nk _ _ _ (by omega)))]; rfl)) ?_
        refine lv_iconst (v := 1) hx hb dX9_delivery_38 (by decide) ?_
        refine lv_icmp_ne (tgt := 46) hx hb dX9_delivery_39 (by decide) (fun c8 => ?_) (fun c8 => ?_)
        · have dc8 := c8
          rw [i_eq] at dc8
          refine lv_aload_n hx hb dX9_delivery_46 rfl (lv_at hl 0 rfl) ?_
          refine lv_iload_n hx hb dX9_delivery_47 rfl (lv_at hl 1 rfl) ?_
          refine callv (y := yX9_waits) ⟨hx, hb, hml, hown, ht⟩ hK hN hP hS (k := 0) (c_X9_waits l D ca ad hI (s2 σ 0 0 0) τ (by rw [show (s2 σ 0 0 0) 2 = (σ 2) from (s2_nk _ _ _ (by omega))]; exact hR) x rfl (by assumption) (by rw [s2_nk _ _ _ (by decide)]; exact hD)) (by decide) (sm_obj _ _) rfl ok_X9_waits gw_1199 ⟨by decide, by decide⟩ rfl hl.1 rfl (Nat.le_of_ble_eq_true rfl) ⟨by decide, by decide⟩ dX9_delivery_48 (fun v_ S_ T_ H locs hp9 hP hS => ?_)
          obtain ⟨rfl, rfl, rfl⟩ := hp9
          try dsimp only [Option.toList, List.cons_append, List.nil_append]
          refine stk_i (v := (mWai ((σ 2)) x.toNatClampNeg)) (by first | (rw [(show (s2 σ 0 0 0) 2 = (σ 2) from (s2_nk _ _ _ (by omega)))]; done) | (rw [(show (s2 σ 0 0 0) 2 = (σ 2) from (s2_nk _ _ _ (by omega)))]; rfl)) ?_
          refine lv_goto (tgt := 60) hx hb dX9_delivery_51 (by decide) ?_
          exact ret_i hx hb hr hlk hP hS dX9_delivery_60 (⟨by first | with_reducible rfl | (simp only [mDel, c2, c4, c5, c8, ↓reduceIte, Bool.false_eq_true]; done) | (simp only [mDel, c2, c4, c5, c8, ↓reduceIte, Bool.false_eq_true]; rfl) | rfl, by first | with_reducible rfl | (simp only [mDel, c2, c4, c5, c8, ↓reduceIte, Bool.false_eq_true]; done) | (simp only [mDel, c2, c4, c5, c8, ↓reduceIte, Bool.false_eq_true]; rfl) | rfl, rfl⟩)
        · have dc8 := c8
          rw [i_eq] at dc8
          refine lv_iconst (v := 0) hx hb dX9_delivery_42 (by decide) ?_
          refine lv_goto (tgt := 60) hx hb dX9_delivery_43 (by decide) ?_
          exact ret_i hx hb hr hlk hP hS dX9_delivery_60 (⟨by first | with_reducible rfl | (simp only [mDel, c2, c4, c5, c8, ↓reduceIte, Bool.false_eq_true]; done) | (simp only [mDel, c2, c4, c5, c8, ↓reduceIte, Bool.false_eq_true]; rfl) | rfl, by first | with_reducible rfl | (simp only [mDel, c2, c4, c5, c8, ↓reduceIte, Bool.false_eq_true]; done) | (simp only [mDel, c2, c4, c5, c8, ↓reduceIte, Bool.false_eq_true]; rfl) | rfl, rfl⟩)
    · refine lv_iconst (v := -1) hx hb dX9_delivery_23 (by decide) ?_
      exact ret_i hx hb hr hlk hP hS dX9_delivery_24 (⟨by first | with_reducible rfl | (simp only [mDel, c2, c4, ↓reduceIte, Bool.false_eq_true]; done) | (simp only [mDel, c2, c4, ↓reduceIte, Bool.false_eq_true]; rfl) | rfl, by first | with_reducible rfl | (simp only [mDel, c2, c4, ↓reduceIte, Bool.false_eq_true]; done) | (simp only [mDel, c2, c4, ↓reduceIte, Bool.false_eq_true]; rfl) | rfl, rfl⟩)
set_option maxHeartbeats 4000000 in
set_option maxRecDepth 100000 in
theorem c_X9_amount (l : Launch) (D : va_G) (ca : Nat → ClassId) (ad : Nat → Nat) (hI : Inj 6 ad) (σ : MI) (τ : ML) (hR : RI (σ 2)) (x w : Int32) : CT l D (TY ca) 6 ad (mxf ca ad) yX9_amount cX9_amount 3 (some .long) 2 43 [.ref (ad 0), .int x, .int w] σ τ (fun v_ S_ T_ => some (.long (mAmR (σ 2) x w)) = v_ ∧ (if mAmC (σ 2) x w = true then s2 σ 0 0 0 else s2 (s2 σ 0 0 0) 0 0 1) = S_ ∧ τ = T_) := by
  refine CT.of (by decide) (Nat.le_of_ble_eq_true rfl) ?_
  intro p e s m args below meth c hx hb hr ht hown hlk hml hP hK hN hS ls hl
  have hl : lv_has ls 3 [(0, .ref (ad 0)), (1, .int x), (2, .int w)] := hl
  refine lv_aload_n hx hb dX9_amount_0 rfl (lv_at hl 0 rfl) ?_
  refine lv_iconst (v := 0) hx hb dX9_amount_1 (by decide) ?_
  refine fputx (ref := "") (w := 0) hx hb ht inG9 tyX9 tyX9_ok nmX9 hown hK hP hI hS (k := 0) (by decide) (sm_obj _ _) rfl 0 (by decide) gw_939 rfl rfl rfl (Nat.le_of_ble_eq_true rfl) (sm_obj _ _) dX9_amount_2 (fun H locs hP hS => ?_)
  refine lv_aload_n hx hb dX9_amount_5 rfl (lv_at hl 0 rfl) ?_
  refine lv_iload_n hx hb dX9_amount_6 rfl (lv_at hl 1 rfl) ?_
  refine callv (y := yX9_isDelivery) ⟨hx, hb, hml, hown, ht⟩ hK hN hP hS (k := 0) (c_X9_isDelivery l D ca ad hI (s2 σ 0 0 0) τ x) (by decide) (sm_obj _ _) rfl ok_X9_isDelivery gw_1195 ⟨by decide, by decide⟩ rfl hl.1 rfl (Nat.le_of_ble_eq_true rfl) ⟨by decide, by decide⟩ dX9_amount_7 (fun v_ S_ T_ H locs hp1 hP hS => ?_)
  obtain ⟨rfl, rfl, rfl⟩ := hp1
  try dsimp only [Option.toList, List.cons_append, List.nil_append]
  refine stk_i (v := (b2i (mIn x 0 ((σ 2) 609 - 1)))) (by first | (rw [(show (s2 σ 0 0 0) 2 = (σ 2) from (s2_nk _ _ _ (by omega)))]; done) | (rw [(show (s2 σ 0 0 0) 2 = (σ 2) from (s2_nk _ _ _ (by omega)))]; rfl)) ?_
  refine br_eq (tgt := 22) hx hb dX9_amount_10 (by decide) (fun c2 => ?_) (fun c2 => ?_)
  · refine lv_aload_n hx hb dX9_amount_22 rfl (lv_at hl 0 rfl) ?_
    refine callv (y := yX9_refuse) ⟨hx, hb, hml, hown, ht⟩ hK hN hP hS (k := 0) (c_X9_refuse l D ca ad hI (s2 σ 0 0 0) τ ) (by decide) (sm_obj _ _) rfl ok_X9_refuse gw_1136 ⟨by decide, by decide⟩ rfl hl.1 rfl (Nat.le_of_ble_eq_true rfl) ⟨by decide, by decide⟩ dX9_amount_23 (fun v_ S_ T_ H locs hp3 hP hS => ?_)
    obtain ⟨rfl, rfl, rfl⟩ := hp3
    try dsimp only [Option.toList, List.cons_append, List.nil_append]
    refine lv_i2l (v := (0 : Int32).toInt64) hx hb dX9_amount_26 rfl ?_
    exact ret_l hx hb hr hlk hP hS dX9_amount_27 (⟨by first | with_reducible rfl | (simp only [mAmR, mAmC, mBil, c2, ↓reduceIte, Bool.false_eq_true]; done) | (simp only [mAmR, mAmC, mBil, c2, ↓reduceIte, Bool.false_eq_true]; rfl) | rfl, by first | with_reducible rfl | (simp only [mAmR, mAmC, mBil, c2, ↓reduceIte, Bool.false_eq_true]; done) | (simp only [mAmR, mAmC, mBil, c2, ↓reduceIte, Bool.false_eq_true]; rfl) | rfl, rfl⟩)
  · have vx := (mDx hR c2).1
    have hD := (mDx hR c2).2
    refine lv_iload_n hx hb dX9_amount_13 rfl (lv_at hl 2 rfl) ?_
    refine lv_iconst (v := 0) hx hb dX9_amount_14 (by decide) ?_
    refine lv_iconst (v := 2) hx hb dX9_amount_15 (by decide) ?_
    refine calls (y := yX9_isIn) ⟨hx, hb, hml, hown, ht⟩ hK hN hP hS (c_X9_isIn l D ca ad hI (s2 σ 0 0 0) τ w (0 : Int32) (2 : Int32)) ok_X9_isIn gw_1042 ⟨by decide, by decide⟩ rfl hl.1 rfl (Nat.le_of_ble_eq_true rfl) ⟨by decide, by decide⟩ dX9_amount_16 (fun v_ S_ T_ H locs hp4 hP hS => ?_)
    obtain ⟨rfl, rfl, rfl⟩ := hp4
    try dsimp only [Option.toList, List.cons_append, List.nil_append]
    refine br_ne (tgt := 28) hx hb dX9_amount_19 (by decide) (fun c5 => ?_) (fun c5 => ?_)
    · refine lv_iload_n hx hb dX9_amount_28 rfl (lv_at hl 2 rfl) ?_
      refine lv_if_ne (tgt := 40) hx hb dX9_amount_29 (by decide) (fun c6 => ?_) (fun c6 => ?_)
      · have dc6 := c6
        rw [i_eq] at dc6
        refine lv_iload_n hx hb dX9_amount_40 rfl (lv_at hl 2 rfl) ?_
        refine lv_iconst (v := 1) hx hb dX9_amount_41 (by decide) ?_
        refine lv_icmp_ne (tgt := 56) hx hb dX9_amount_42 (by decide) (fun c7 => ?_) (fun c7 => ?_)
        · have dc7 := c7
          rw [i_eq] at dc7
          refine lv_aload_n hx hb dX9_amount_56 rfl (lv_at hl 0 rfl) ?_
          refine lv_iload_n hx hb dX9_amount_57 rfl (lv_at hl 1 rfl) ?_
          refine callv (y := yX9_billed) ⟨hx, hb, hml, hown, ht⟩ hK hN hP hS (k := 0) (c_X9_billed l D ca ad hI (s2 σ 0 0 0) τ x rfl (by assumption)) (by decide) (sm_obj _ _) rfl ok_X9_billed gw_1207 ⟨by decide, by decide⟩ rfl hl.1 rfl (Nat.le_of_ble_eq_true rfl) ⟨by decide, by decide⟩ dX9_amount_58 (fun v_ S_ T_ H locs hp8 hP hS => ?_)
          obtain ⟨rfl, rfl, rfl⟩ := hp8
          try dsimp only [Option.toList, List.cons_append, List.nil_append]
          refine stk_l (v := (((σ 2) (610 + 9 * x.toNatClampNeg + 3)).toInt64 * ((σ 2) (610 + 9 * x.toNatClampNeg + 5)).toInt64)) (by first | (rw [(show (s2 σ 0 0 0) 2 = (σ 2) from (s2_nk _ _ _ (by omega)))]; done) | (rw [(show (s2 σ 0 0 0) 2 = (σ 2) from (s2_nk _ _ _ (by omega)))]; rfl)) ?_
          refine lv_aload_n hx hb dX9_amount_61 rfl (lv_at hl 0 rfl) ?_
          refine lv_iload_n hx hb dX9_amount_62 rfl (lv_at hl 1 rfl) ?_
          refine lv_bipush (v := 8) hx hb dX9_amount_63 (by decide) ?_
          refine callv (y := yX9_its) ⟨hx, hb, hml, hown, ht⟩ hK hN hP hS (k := 0) (c_X9_its l D ca ad hI (s2 σ 0 0 0) τ x (8 : Int32) rfl (by assumption) (show Int32.toNatClampNeg 8 = 8 from rfl) (by rw [vp_in_iff]; decide)) (by decide) (sm_obj _ _) rfl ok_X9_its gw_1097 ⟨by decide, by decide⟩ rfl hl.1 rfl (Nat.le_of_ble_eq_true rfl) ⟨by decide, by decide⟩ dX9_amount_65 (fun v_ S_ T_ H locs hp9 hP hS => ?_)
          obtain ⟨rfl, rfl, rfl⟩ := hp9
          try dsimp only [Option.toList, List.cons_append, List.nil_append]
          refine stk_i (v := ((σ 2) (610 + 9 * x.toNatClampNeg + 8))) (by first | (rw [(show (s2 σ 0 0 0) 2 = (σ 2) from (s2_nk _ _ _ (by omega)))]; done) | (rw [(show (s2 σ 0 0 0) 2 = (σ 2) from (s2_nk _ _ _ (by omega)))]; rfl)) ?_
          refine lv_i2l (v := ((σ 2) (610 + 9 * x.toNatClampNeg + 8)).toInt64) hx hb dX9_amount_68 rfl ?_
          refine lv_ladd hx hb dX9_amount_69 ?_
          exact ret_l hx hb hr hlk hP hS dX9_amount_70 (⟨by first | with_reducible rfl | (simp only [mAmR, mAmC, mBil, c2, c5, c6, c7, ↓reduceIte, Bool.false_eq_true]; done) | (simp only [mAmR, mAmC, mBil, c2, c5, c6, c7, ↓reduceIte, Bool.false_eq_true]; rfl) | rfl, by first | with_reducible rfl | (simp only [mAmR, mAmC, mBil, c2, c5, c6, c7, ↓reduceIte, Bool.false_eq_true]; done) | (simp only [mAmR, mAmC, mBil, c2, c5, c6, c7, ↓reduceIte, Bool.false_eq_true]; rfl) | rfl, rfl⟩)
        · have dc7 := c7
          rw [i_eq] at dc7
          refine lv_aload_n hx hb dX9_amount_45 rfl (lv_at hl 0 rfl) ?_
          refine lv_iload_n hx hb dX9_amount_46 rfl (lv_at hl 1 rfl) ?_
          refine lv_bipush (v := 8) hx hb dX9_amount_47 (by decide) ?_
          refine callv (y := yX9_its) ⟨hx, hb, hml, hown, ht⟩ hK hN hP hS (k := 0) (c_X9_its l D ca ad hI (s2 σ 0 0 0) τ x (8 : Int32) rfl (by assumption) (show Int32.toNatClampNeg 8 = 8 from rfl) (by rw [vp_in_iff]; decide)) (by decide) (sm_obj _ _) rfl ok_X9_its gw_1097 ⟨by decide, by decide⟩ rfl hl.1 rfl (Nat.le_of_ble_eq_true rfl) ⟨by decide, by decide⟩ dX9_amount_49 (fun v_ S_ T_ H locs hp10 hP hS => ?_)
          obtain ⟨rfl, rfl, rfl⟩ := hp10
          try dsimp only [Option.toList, List.cons_append, List.nil_append]
          refine stk_i (v := ((σ 2) (610 + 9 * x.toNatClampNeg + 8))) (by first | (rw [(show (s2 σ 0 0 0) 2 = (σ 2) from (s2_nk _ _ _ (by omega)))]; done) | (rw [(show (s2 σ 0 0 0) 2 = (σ 2) from (s2_nk _ _ _ (by omega)))]; rfl)) ?_
          refine lv_i2l (v := ((σ 2) (610 + 9 * x.toNatClampNeg + 8)).toInt64) hx hb dX9_amount_52 rfl ?_
          refine lv_goto (tgt := 70) hx hb dX9_amount_53 (by decide) ?_
          exact ret_l hx hb hr hlk hP hS dX9_amount_70 (⟨by first | with_reducible rfl | (simp only [mAmR, mAmC, mBil, c2, c5, c6, c7, ↓reduceIte, Bool.false_eq_true]; done) | (simp only [mAmR, mAmC, mBil, c2, c5, c6, c7, ↓reduceIte, Bool.false_eq_true]; rfl) | rfl, by first | with_reducible rfl | (simp only [mAmR, mAmC, mBil, c2, c5, c6, c7, ↓reduceIte, Bool.false_eq_true]; done) | (simp only [mAmR, mAmC, mBil, c2, c5, c6, c7, ↓reduceIte, Bool.false_eq_true]; rfl) | rfl, rfl⟩)
      · have dc6 := c6
        rw [i_eq] at dc6
        refine lv_aload_n hx hb dX9_amount_32 rfl (lv_at hl 0 rfl) ?_
        refine lv_iload_n hx hb dX9_amount_33 rfl (lv_at hl 1 rfl) ?_
        refine callv (y := yX9_billed) ⟨hx, hb, hml, hown, ht⟩ hK hN hP hS (k := 0) (c_X9_billed l D ca ad hI (s2 σ 0 0 0) τ x rfl (by assumption)) (by decide) (sm_obj _ _) rfl ok_X9_billed gw_1207 ⟨by decide, by decide⟩ rfl hl.1 rfl (Nat.le_of_ble_eq_true rfl) ⟨by decide, by decide⟩ dX9_amount_34 (fun v_ S_ T_ H locs hp11 hP hS => ?_)
        obtain ⟨rfl, rfl, rfl⟩ := hp11
        try dsimp only [Option.toList, List.cons_append, List.nil_append]
        refine stk_l (v := (((σ 2) (610 + 9 * x.toNatClampNeg + 3)).toInt64 * ((σ 2) (610 + 9 * x.toNatClampNeg + 5)).toInt64)) (by first | (rw [(show (s2 σ 0 0 0) 2 = (σ 2) from (s2_nk _ _ _ (by omega)))]; done) | (rw [(show (s2 σ 0 0 0) 2 = (σ 2) from (s2_nk _ _ _ (by omega)))]; rfl)) ?_
        refine lv_goto (tgt := 70) hx hb dX9_amount_37 (by decide) ?_
        exact ret_l hx hb hr hlk hP hS dX9_amount_70 (⟨by first | with_reducible rfl | (simp only [mAmR, mAmC, mBil, c2, c5, c6, ↓reduceIte, Bool.false_eq_true]; done) | (simp only [mAmR, mAmC, mBil, c2, c5, c6, ↓reduceIte, Bool.false_eq_true]; rfl) | rfl, by first | with_reducible rfl | (simp only [mAmR, mAmC, mBil, c2, c5, c6, ↓reduceIte, Bool.false_eq_true]; done) | (simp only [mAmR, mAmC, mBil, c2, c5, c6, ↓reduceIte, Bool.false_eq_true]; rfl) | rfl, rfl⟩)
    · refine lv_aload_n hx hb dX9_amount_22 rfl (lv_at hl 0 rfl) ?_
      refine callv (y := yX9_refuse) ⟨hx, hb, hml, hown, ht⟩ hK hN hP hS (k := 0) (c_X9_refuse l D ca ad hI (s2 σ 0 0 0) τ ) (by decide) (sm_obj _ _) rfl ok_X9_refuse gw_1136 ⟨by decide, by decide⟩ rfl hl.1 rfl (Nat.le_of_ble_eq_true rfl) ⟨by decide, by decide⟩ dX9_amount_23 (fun v_ S_ T_ H locs hp12 hP hS => ?_)
      obtain ⟨rfl, rfl, rfl⟩ := hp12
      try dsimp only [Option.toList, List.cons_append, List.nil_append]
      refine lv_i2l (v := (0 : Int32).toInt64) hx hb dX9_amount_26 rfl ?_
      exact ret_l hx hb hr hlk hP hS dX9_amount_27 (⟨by first | with_reducible rfl | (simp only [mAmR, mAmC, mBil, c2, c5, ↓reduceIte, Bool.false_eq_true]; done) | (simp only [mAmR, mAmC, mBil, c2, c5, ↓reduceIte, Bool.false_eq_true]; rfl) | rfl, by first | with_reducible rfl | (simp only [mAmR, mAmC, mBil, c2, c5, ↓reduceIte, Bool.false_eq_true]; done) | (simp only [mAmR, mAmC, mBil, c2, c5, ↓reduceIte, Bool.false_eq_true]; rfl) | rfl, rfl⟩)
set_option maxHeartbeats 4000000 in
set_option maxRecDepth 100000 in
theorem c_X9_priceBy (l : Launch) (D : va_G) (ca : Nat → ClassId) (ad : Nat → Nat) (hI : Inj 6 ad) (σ : MI) (τ : ML) (hR : RI (σ 2)) (q_ i_ vv : Int32) {a b_ : Nat} (ea : q_.toNatClampNeg = a) (va : vp_in q_ 6) (hC : (a : Int) < (σ 2 494).toInt) (eb : i_.toNatClampNeg = b_) (vb : vp_in i_ 6) (hv : rg vv 1 999) : CT l D (TY ca) 6 ad (mxf ca ad) yX9_priceBy cX9_priceBy 8 (some .int) 5 126 [.ref (ad 0), .int q_, .int i_, .int vv] σ τ (fun v_ S_ T_ => some (.int (mPby (σ 2) a b_ vv)) = v_ ∧ σ = S_ ∧ τ = T_) := by
  refine CT.of (by decide) (Nat.le_of_ble_eq_true rfl) ?_
  intro p e s m args below meth c hx hb hr ht hown hlk hml hP hK hN hS ls hl
  have hl : lv_has ls 8 [(0, .ref (ad 0)), (1, .int q_), (2, .int i_), (3, .int vv)] := hl
  have h0 := hR.1
  unfold rg at h0
  have vm : vp_in (σ 2 0) 36 := by rw [vp_in_iff]; omega
  have hm36 := clampN vm
  have hb6 := vpa vb eb
  refine lv_bipush (v := 36) hx hb dX9_priceBy_0 (by decide) ?_
  refine lv_iload_n hx hb dX9_priceBy_2 rfl (lv_at hl 2 rfl) ?_
  refine lv_imul hx hb dX9_priceBy_3 ?_
  refine lv_aload_n hx hb dX9_priceBy_4 rfl (lv_at hl 0 rfl) ?_
  refine callv (y := yX9_month) ⟨hx, hb, hml, hown, ht⟩ hK hN hP hS (k := 0) (c_X9_month l D ca ad hI σ τ ) (by decide) (sm_obj _ _) rfl ok_X9_month gw_1089 ⟨by decide, by decide⟩ rfl hl.1 rfl (Nat.le_of_ble_eq_true rfl) ⟨by decide, by decide⟩ dX9_priceBy_5 (fun v_ S_ T_ H locs hp1 hP hS => ?_)
  obtain ⟨rfl, rfl, rfl⟩ := hp1
  try dsimp only [Option.toList, List.cons_append, List.nil_append]
  refine lv_iadd hx hb dX9_priceBy_8 ?_
  refine lv_istore (lv' := [(4, .int ((36 * i_) + (σ 2 0))), (0, .ref (ad 0)), (1, .int q_), (2, .int i_), (3, .int vv)]) hx hb dX9_priceBy_9 hl (by decide) rfl (fun ls hl => ?_)
  refine lv_aload_n hx hb dX9_priceBy_11 rfl (lv_at hl 1 rfl) ?_
  refine fgetx hx hb ht inG9 hown hK hP (k := 0) (by decide) (x := (σ 0)) rfl (sm_obj _ _) rfl 12 (by decide) gw_951 (v := .ref (ad 2)) rfl dX9_priceBy_12 ?_
  refine lv_iconst (v := 2) hx hb dX9_priceBy_15 (by decide) ?_
  refine lv_iload hx hb dX9_priceBy_16 (lv_at hl 0 rfl) ?_
  refine lv_iadd hx hb dX9_priceBy_18 ?_
  refine aldj hx hb hK hP (k := 2) (by decide) (x := (σ 2)) rfl 0 (sm_now _ _) rfl (by rw [ixP (A := 2) 2 rfl eb vb rfl vm]; exact vp_in_nI (by omega) (by decide)) (j := 2 + 36 * b_ + (σ 2 0).toNatClampNeg) (by rw [ixP (A := 2) 2 rfl eb vb rfl vm]; exact nI_clamp (by omega)) dX9_priceBy_19 ?_
  refine lv_istore (lv' := [(5, .int ((σ 2) (2 + 36 * b_ + (σ 2 0).toNatClampNeg))), (4, .int ((36 * i_) + (σ 2 0))), (0, .ref (ad 0)), (1, .int q_), (2, .int i_), (3, .int vv)]) hx hb dX9_priceBy_20 hl (by decide) rfl (fun ls hl => ?_)
  refine lv_aload_n hx hb dX9_priceBy_22 rfl (lv_at hl 2 rfl) ?_
  refine fgetx hx hb ht inG9 hown hK hP (k := 0) (by decide) (x := (σ 0)) rfl (sm_obj _ _) rfl 12 (by decide) gw_951 (v := .ref (ad 2)) rfl dX9_priceBy_23 ?_
  refine lv_sipush (v := 218) hx hb dX9_priceBy_26 (by decide) ?_
  refine lv_iload hx hb dX9_priceBy_29 (lv_at hl 1 rfl) ?_
  refine lv_iadd hx hb dX9_priceBy_31 ?_
  refine aldj hx hb hK hP (k := 2) (by decide) (x := (σ 2)) rfl 0 (sm_now _ _) rfl (by rw [ixP (A := 218) 218 rfl eb vb rfl vm]; exact vp_in_nI (by omega) (by decide)) (j := 218 + 36 * b_ + (σ 2 0).toNatClampNeg) (by rw [ixP (A := 218) 218 rfl eb vb rfl vm]; exact nI_clamp (by omega)) dX9_priceBy_32 ?_
  refine lv_istore (lv' := [(6, .int ((σ 2) (218 + 36 * b_ + (σ 2 0).toNatClampNeg))), (5, .int ((σ 2) (2 + 36 * b_ + (σ 2 0).toNatClampNeg))), (4, .int ((36 * i_) + (σ 2 0))), (0, .ref (ad 0)), (1, .int q_), (2, .int i_), (3, .int vv)]) hx hb dX9_priceBy_33 hl (by decide) rfl (fun ls hl => ?_)
  refine lv_aload_n hx hb dX9_priceBy_35 rfl (lv_at hl 3 rfl) ?_
  refine fgetx hx hb ht inG9 hown hK hP (k := 0) (by decide) (x := (σ 0)) rfl (sm_obj _ _) rfl 12 (by decide) gw_951 (v := .ref (ad 2)) rfl dX9_priceBy_36 ?_
  refine lv_iconst (v := 2) hx hb dX9_priceBy_39 (by decide) ?_
  refine lv_iload hx hb dX9_priceBy_40 (lv_at hl 2 rfl) ?_
  refine lv_iadd hx hb dX9_priceBy_42 ?_
  refine lv_iload_n hx hb dX9_priceBy_43 rfl (lv_at hl 6 rfl) ?_
  refine astj hx hb hK hP hI hS (k := 2) (by decide) 0 (fun f => sm_now f _ ) rfl (by rw [ixP (A := 2) 2 rfl eb vb rfl vm]; exact vp_in_nI (by omega) (by decide)) (j := 2 + 36 * b_ + (σ 2 0).toNatClampNeg) (by rw [ixP (A := 2) 2 rfl eb vb rfl vm]; exact nI_clamp (by omega)) dX9_priceBy_44 (fun H locs hP hS => ?_)
  refine lv_aload_n hx hb dX9_priceBy_45 rfl (lv_at hl 3 rfl) ?_
  refine fgetx hx hb ht inG9 hown hK hP (k := 0) (by decide) (x := (σ 0)) (s2_nk _ _ _ (by omega)) (sm_obj _ _) rfl 12 (by decide) gw_951 (v := .ref (ad 2)) rfl dX9_priceBy_46 ?_
  refine lv_sipush (v := 218) hx hb dX9_priceBy_49 (by decide) ?_
  refine lv_iload hx hb dX9_priceBy_52 (lv_at hl 2 rfl) ?_
  refine lv_iadd hx hb dX9_priceBy_54 ?_
  refine lv_iconst (v := 2) hx hb dX9_priceBy_55 (by decide) ?_
  refine astj hx hb hK hP hI hS (k := 2) (by decide) 0 (fun f => sm_now f _ ) rfl (by rw [ixP (A := 218) 218 rfl eb vb rfl vm]; exact vp_in_nI (by omega) (by decide)) (j := 218 + 36 * b_ + (σ 2 0).toNatClampNeg) (by rw [ixP (A := 218) 218 rfl eb vb rfl vm]; exact nI_clamp (by omega)) dX9_priceBy_56 (fun H locs hP hS => ?_)
  have hrow : (s2 (s2 σ 2 (2 + 36 * b_ + (σ 2 0).toNatClampNeg) vv) 2 (218 + 36 * b_ + (σ 2 0).toNatClampNeg) 2) 2 = rowP (σ 2) b_ (σ 2 0).toNatClampNeg vv := by rw [s2_k, s2_k]; rfl
  have hR1 : RI ((s2 (s2 σ 2 (2 + 36 * b_ + (σ 2 0).toNatClampNeg) vv) 2 (218 + 36 * b_ + (σ 2 0).toNatClampNeg) 2) 2) := by rw [hrow]; exact RI_put hR hb6 hm36 hv
  have hC1 : (a : Int) < ((s2 (s2 σ 2 (2 + 36 * b_ + (σ 2 0).toNatClampNeg) vv) 2 (218 + 36 * b_ + (σ 2 0).toNatClampNeg) 2) 2 494).toInt := by rw [hrow, rowP_far _ _ hb6 hm36 (by omega)]; exact hC
  have hm1 : ((s2 (s2 σ 2 (2 + 36 * b_ + (σ 2 0).toNatClampNeg) vv) 2 (218 + 36 * b_ + (σ 2 0).toNatClampNeg) 2) 2 (495 + 19 * a + 2)).toInt < (((σ 2 0).toNatClampNeg + 1 : Nat) : Int) := by rw [hrow, rowP_far _ _ hb6 hm36 (by omega)]; have h1 := (hR.con hC).2.2.1; unfold rg at h1; have := clampI (σ 2 0); omega
  refine lv_aload_n hx hb dX9_priceBy_57 rfl (lv_at hl 3 rfl) ?_
  refine lv_iload_n hx hb dX9_priceBy_58 rfl (lv_at hl 4 rfl) ?_
  refine lv_aload_n hx hb dX9_priceBy_59 rfl (lv_at hl 3 rfl) ?_
  refine callv (y := yX9_month) ⟨hx, hb, hml, hown, ht⟩ hK hN hP hS (k := 0) (c_X9_month l D ca ad hI (s2 (s2 σ 2 (2 + 36 * b_ + (σ 2 0).toNatClampNeg) vv) 2 (218 + 36 * b_ + (σ 2 0).toNatClampNeg) 2) τ ) (by decide) (sm_obj _ _) rfl ok_X9_month gw_1089 ⟨by decide, by decide⟩ rfl hl.1 rfl (Nat.le_of_ble_eq_true rfl) ⟨by decide, by decide⟩ dX9_priceBy_60 (fun v_ S_ T_ H locs hp2 hP hS => ?_)
  obtain ⟨rfl, rfl, rfl⟩ := hp2
  try dsimp only [Option.toList, List.cons_append, List.nil_append]
  refine stk_i (v := σ 2 0) (by rw [hrow, rowP_far _ _ hb6 hm36 (by omega)]) ?_
  refine callv (y := yX9_priceOf) ⟨hx, hb, hml, hown, ht⟩ hK hN hP hS (k := 0) (c_X9_priceOf l D ca ad hI (s2 (s2 σ 2 (2 + 36 * b_ + (σ 2 0).toNatClampNeg) vv) 2 (218 + 36 * b_ + (σ 2 0).toNatClampNeg) 2) τ q_ (σ 2 0) ea va (vpI vm) (vpL vm) hR1 hC1 hm1) (by decide) (sm_obj _ _) rfl ok_X9_priceOf gw_1174 ⟨by decide, by decide⟩ rfl hl.1 rfl (Nat.le_of_ble_eq_true rfl) ⟨by decide, by decide⟩ dX9_priceBy_63 (fun v_ S_ T_ H locs hp3 hP hS => ?_)
  obtain ⟨rfl, rfl, rfl⟩ := hp3
  try dsimp only [Option.toList, List.cons_append, List.nil_append]
  refine stk_i (v := (mPri ((upd (upd (σ 2) (2 + 36 * b_ + (σ 2 0).toNatClampNeg) vv) (218 + 36 * b_ + (σ 2 0).toNatClampNeg) 2)) a ((σ 2 0).toNatClampNeg + 1))) (by first | (rw [(show (s2 (s2 σ 2 (2 + 36 * b_ + (σ 2 0).toNatClampNeg) vv) 2 (218 + 36 * b_ + (σ 2 0).toNatClampNeg) 2) 2 = (upd (upd (σ 2) (2 + 36 * b_ + (σ 2 0).toNatClampNeg) vv) (218 + 36 * b_ + (σ 2 0).toNatClampNeg) 2) from ((s2_k _ _ _ _).trans (congrArg (fun f => upd f (218 + 36 * b_ + (σ 2 0).toNatClampNeg) 2) (s2_k _ _ _ _))))]; done) | (rw [(show (s2 (s2 σ 2 (2 + 36 * b_ + (σ 2 0).toNatClampNeg) vv) 2 (218 + 36 * b_ + (σ 2 0).toNatClampNeg) 2) 2 = (upd (upd (σ 2) (2 + 36 * b_ + (σ 2 0).toNatClampNeg) vv) (218 + 36 * b_ + (σ 2 0).toNatClampNeg) 2) from ((s2_k _ _ _ _).trans (congrArg (fun f => upd f (218 + 36 * b_ + (σ 2 0).toNatClampNeg) 2) (s2_k _ _ _ _))))]; rfl)) ?_
  refine lv_istore (lv' := [(7, .int (mPri ((upd (upd (σ 2) (2 + 36 * b_ + (σ 2 0).toNatClampNeg) vv) (218 + 36 * b_ + (σ 2 0).toNatClampNeg) 2)) a ((σ 2 0).toNatClampNeg + 1))), (6, .int ((σ 2) (218 + 36 * b_ + (σ 2 0).toNatClampNeg))), (5, .int ((σ 2) (2 + 36 * b_ + (σ 2 0).toNatClampNeg))), (4, .int ((36 * i_) + (σ 2 0))), (0, .ref (ad 0)), (1, .int q_), (2, .int i_), (3, .int vv)]) hx hb dX9_priceBy_66 hl (by decide) rfl (fun ls hl => ?_)
  refine lv_aload_n hx hb dX9_priceBy_68 rfl (lv_at hl 4 rfl) ?_
  refine fgetx hx hb ht inG9 hown hK hP (k := 0) (by decide) (x := (σ 0)) ((s2_nk _ _ _ (by omega)).trans (s2_nk _ _ _ (by omega))) (sm_obj _ _) rfl 12 (by decide) gw_951 (v := .ref (ad 2)) rfl dX9_priceBy_69 ?_
  refine lv_iconst (v := 2) hx hb dX9_priceBy_72 (by decide) ?_
  refine lv_iload hx hb dX9_priceBy_73 (lv_at hl 3 rfl) ?_
  refine lv_iadd hx hb dX9_priceBy_75 ?_
  refine lv_iload hx hb dX9_priceBy_76 (lv_at hl 2 rfl) ?_
  refine astj hx hb hK hP hI hS (k := 2) (by decide) 0 (fun f => sm_now f _ ) rfl (by rw [ixP (A := 2) 2 rfl eb vb rfl vm]; exact vp_in_nI (by omega) (by decide)) (j := 2 + 36 * b_ + (σ 2 0).toNatClampNeg) (by rw [ixP (A := 2) 2 rfl eb vb rfl vm]; exact nI_clamp (by omega)) dX9_priceBy_78 (fun H locs hP hS => ?_)
  refine lv_aload_n hx hb dX9_priceBy_79 rfl (lv_at hl 4 rfl) ?_
  refine fgetx hx hb ht inG9 hown hK hP (k := 0) (by decide) (x := (σ 0)) ((s2_nk _ _ _ (by omega)).trans ((s2_nk _ _ _ (by omega)).trans (s2_nk _ _ _ (by omega)))) (sm_obj _ _) rfl 12 (by decide) gw_951 (v := .ref (ad 2)) rfl dX9_priceBy_80 ?_
  refine lv_sipush (v := 218) hx hb dX9_priceBy_83 (by decide) ?_
  refine lv_iload hx hb dX9_priceBy_86 (lv_at hl 3 rfl) ?_
  refine lv_iadd hx hb dX9_priceBy_88 ?_
  refine lv_iload hx hb dX9_priceBy_89 (lv_at hl 1 rfl) ?_
  refine astj hx hb hK hP hI hS (k := 2) (by decide) 0 (fun f => sm_now f _ ) rfl (by rw [ixP (A := 218) 218 rfl eb vb rfl vm]; exact vp_in_nI (by omega) (by decide)) (j := 218 + 36 * b_ + (σ 2 0).toNatClampNeg) (by rw [ixP (A := 218) 218 rfl eb vb rfl vm]; exact nI_clamp (by omega)) dX9_priceBy_91 (fun H locs hP hS => ?_)
  refine lv_iload hx hb dX9_priceBy_92 (lv_at hl 0 rfl) ?_
  exact ret_i hx hb hr hlk hP hS dX9_priceBy_94 (⟨rfl, (rest4 σ 2 (2 + 36 * b_ + (σ 2 0).toNatClampNeg) (218 + 36 * b_ + (σ 2 0).toNatClampNeg) vv 2 (by omega)).symm, rfl⟩)
set_option maxHeartbeats 4000000 in
set_option maxRecDepth 100000 in
theorem c_X9_were (l : Launch) (D : va_G) (ca : Nat → ClassId) (ad : Nat → Nat) (hI : Inj 6 ad) (σ : MI) (τ : ML) (hR : RI (σ 2)) (q x v : Int32) : CT l D (TY ca) 6 ad (mxf ca ad) yX9_were cX9_were 4 (some .int) 6 153 [.ref (ad 0), .int q, .int x, .int v] σ τ (fun v_ S_ T_ => some (.int (mWer (σ 2) q x v)) = v_ ∧ (s2 σ 0 0 0) = S_ ∧ τ = T_) := by
  refine CT.of (by decide) (Nat.le_of_ble_eq_true rfl) ?_
  intro p e s m args below meth c hx hb hr ht hown hlk hml hP hK hN hS ls hl
  have hl : lv_has ls 4 [(0, .ref (ad 0)), (1, .int q), (2, .int x), (3, .int v)] := hl
  refine lv_aload_n hx hb dX9_were_0 rfl (lv_at hl 0 rfl) ?_
  refine lv_iconst (v := 0) hx hb dX9_were_1 (by decide) ?_
  refine fputx (ref := "") (w := 0) hx hb ht inG9 tyX9 tyX9_ok nmX9 hown hK hP hI hS (k := 0) (by decide) (sm_obj _ _) rfl 0 (by decide) gw_939 rfl rfl rfl (Nat.le_of_ble_eq_true rfl) (sm_obj _ _) dX9_were_2 (fun H locs hP hS => ?_)
  refine lv_aload_n hx hb dX9_were_5 rfl (lv_at hl 0 rfl) ?_
  refine lv_iload_n hx hb dX9_were_6 rfl (lv_at hl 1 rfl) ?_
  refine callv (y := yX9_isContract) ⟨hx, hb, hml, hown, ht⟩ hK hN hP hS (k := 0) (c_X9_isContract l D ca ad hI (s2 σ 0 0 0) τ q) (by decide) (sm_obj _ _) rfl ok_X9_isContract gw_1151 ⟨by decide, by decide⟩ rfl hl.1 rfl (Nat.le_of_ble_eq_true rfl) ⟨by decide, by decide⟩ dX9_were_7 (fun v_ S_ T_ H locs hp1 hP hS => ?_)
  obtain ⟨rfl, rfl, rfl⟩ := hp1
  try dsimp only [Option.toList, List.cons_append, List.nil_append]
  refine stk_i (v := (b2i (mIn q 0 ((σ 2) 494 - 1)))) (by first | (rw [(show (s2 σ 0 0 0) 2 = (σ 2) from (s2_nk _ _ _ (by omega)))]; done) | (rw [(show (s2 σ 0 0 0) 2 = (σ 2) from (s2_nk _ _ _ (by omega)))]; rfl)) ?_
  refine br_eq (tgt := 42) hx hb dX9_were_10 (by decide) (fun c2 => ?_) (fun c2 => ?_)
  · refine lv_iconst (v := -1) hx hb dX9_were_42 (by decide) ?_
    exact ret_i hx hb hr hlk hP hS dX9_were_43 (⟨by first | with_reducible rfl | (simp only [mWer, c2, ↓reduceIte, Bool.false_eq_true]; done) | (simp only [mWer, c2, ↓reduceIte, Bool.false_eq_true]; rfl) | rfl, by first | with_reducible rfl | (simp only [mWer, c2, ↓reduceIte, Bool.false_eq_true]; done) | (simp only [mWer, c2, ↓reduceIte, Bool.false_eq_true]; rfl) | rfl, rfl⟩)
  · have vq := (mCx hR c2).1
    have hC := (mCx hR c2).2
    refine lv_aload_n hx hb dX9_were_13 rfl (lv_at hl 0 rfl) ?_
    refine lv_iload_n hx hb dX9_were_14 rfl (lv_at hl 2 rfl) ?_
    refine callv (y := yX9_isIndex) ⟨hx, hb, hml, hown, ht⟩ hK hN hP hS (k := 0) (c_X9_isIndex l D ca ad hI (s2 σ 0 0 0) τ x) (by decide) (sm_obj _ _) rfl ok_X9_isIndex gw_1105 ⟨by decide, by decide⟩ rfl hl.1 rfl (Nat.le_of_ble_eq_true rfl) ⟨by decide, by decide⟩ dX9_were_15 (fun v_ S_ T_ H locs hp3 hP hS => ?_)
    obtain ⟨rfl, rfl, rfl⟩ := hp3
    try dsimp only [Option.toList, List.cons_append, List.nil_append]
    refine stk_i (v := (b2i (mIn x 0 ((σ 2) 1 - 1)))) (by first | (rw [(show (s2 σ 0 0 0) 2 = (σ 2) from (s2_nk _ _ _ (by omega)))]; done) | (rw [(show (s2 σ 0 0 0) 2 = (σ 2) from (s2_nk _ _ _ (by omega)))]; rfl)) ?_
    refine br_eq (tgt := 42) hx hb dX9_were_18 (by decide) (fun c4 => ?_) (fun c4 => ?_)
    · refine lv_iconst (v := -1) hx hb dX9_were_42 (by decide) ?_
      exact ret_i hx hb hr hlk hP hS dX9_were_43 (⟨by first | with_reducible rfl | (simp only [mWer, c2, c4, ↓reduceIte, Bool.false_eq_true]; done) | (simp only [mWer, c2, c4, ↓reduceIte, Bool.false_eq_true]; rfl) | rfl, by first | with_reducible rfl | (simp only [mWer, c2, c4, ↓reduceIte, Bool.false_eq_true]; done) | (simp only [mWer, c2, c4, ↓reduceIte, Bool.false_eq_true]; rfl) | rfl, rfl⟩)
    · have vx := (mIx hR c4).1
      refine lv_iload_n hx hb dX9_were_21 rfl (lv_at hl 3 rfl) ?_
      refine lv_iconst (v := 1) hx hb dX9_were_22 (by decide) ?_
      refine lv_sipush (v := 999) hx hb dX9_were_23 (by decide) ?_
      refine calls (y := yX9_isIn) ⟨hx, hb, hml, hown, ht⟩ hK hN hP hS (c_X9_isIn l D ca ad hI (s2 σ 0 0 0) τ v (1 : Int32) (999 : Int32)) ok_X9_isIn gw_1042 ⟨by decide, by decide⟩ rfl hl.1 rfl (Nat.le_of_ble_eq_true rfl) ⟨by decide, by decide⟩ dX9_were_26 (fun v_ S_ T_ H locs hp5 hP hS => ?_)
      obtain ⟨rfl, rfl, rfl⟩ := hp5
      try dsimp only [Option.toList, List.cons_append, List.nil_append]
      refine br_eq (tgt := 42) hx hb dX9_were_29 (by decide) (fun c6 => ?_) (fun c6 => ?_)
      · refine lv_iconst (v := -1) hx hb dX9_were_42 (by decide) ?_
        exact ret_i hx hb hr hlk hP hS dX9_were_43 (⟨by first | with_reducible rfl | (simp only [mWer, c2, c4, c6, ↓reduceIte, Bool.false_eq_true]; done) | (simp only [mWer, c2, c4, c6, ↓reduceIte, Bool.false_eq_true]; rfl) | rfl, by first | with_reducible rfl | (simp only [mWer, c2, c4, c6, ↓reduceIte, Bool.false_eq_true]; done) | (simp only [mWer, c2, c4, c6, ↓reduceIte, Bool.false_eq_true]; rfl) | rfl, rfl⟩)
      · have hv := m999 c6
        refine lv_aload_n hx hb dX9_were_32 rfl (lv_at hl 0 rfl) ?_
        refine lv_iload_n hx hb dX9_were_33 rfl (lv_at hl 1 rfl) ?_
        refine lv_iload_n hx hb dX9_were_34 rfl (lv_at hl 2 rfl) ?_
        refine lv_iload_n hx hb dX9_were_35 rfl (lv_at hl 3 rfl) ?_
        refine callv (y := yX9_priceBy) ⟨hx, hb, hml, hown, ht⟩ hK hN hP hS (k := 0) (c_X9_priceBy l D ca ad hI (s2 σ 0 0 0) τ (by rw [show (s2 σ 0 0 0) 2 = (σ 2) from (s2_nk _ _ _ (by omega))]; exact hR) q x v rfl (by assumption) (by rw [s2_nk _ _ _ (by decide)]; exact hC) rfl (by assumption) hv) (by decide) (sm_obj _ _) rfl ok_X9_priceBy gw_1183 ⟨by decide, by decide⟩ rfl hl.1 rfl (Nat.le_of_ble_eq_true rfl) ⟨by decide, by decide⟩ dX9_were_36 (fun v_ S_ T_ H locs hp7 hP hS => ?_)
        obtain ⟨rfl, rfl, rfl⟩ := hp7
        try dsimp only [Option.toList, List.cons_append, List.nil_append]
        refine stk_i (v := (mPby ((σ 2)) q.toNatClampNeg x.toNatClampNeg v)) (by first | (rw [(show (s2 σ 0 0 0) 2 = (σ 2) from (s2_nk _ _ _ (by omega)))]; done) | (rw [(show (s2 σ 0 0 0) 2 = (σ 2) from (s2_nk _ _ _ (by omega)))]; rfl)) ?_
        refine lv_goto (tgt := 43) hx hb dX9_were_39 (by decide) ?_
        exact ret_i hx hb hr hlk hP hS dX9_were_43 (⟨by first | with_reducible rfl | (simp only [mWer, c2, c4, c6, ↓reduceIte, Bool.false_eq_true]; done) | (simp only [mWer, c2, c4, c6, ↓reduceIte, Bool.false_eq_true]; rfl) | rfl, by first | with_reducible rfl | (simp only [mWer, c2, c4, c6, ↓reduceIte, Bool.false_eq_true]; done) | (simp only [mWer, c2, c4, c6, ↓reduceIte, Bool.false_eq_true]; rfl) | rfl, rfl⟩)
set_option maxHeartbeats 4000000 in
set_option maxRecDepth 100000 in
theorem lp_X9_rises {l : Launch} {D : va_G} {ca : Nat → ClassId} {ad : Nat → Nat} (hI : Inj 6 ad) {σ : MI} {τ : ML} (hR : RI (σ 2)) (q x : Int32) {p : Program} {e : Env} {s : State} {m : MethodId} {args : Array Value} {below : List Frame} {meth : Method} {c : Code} (hx : p.tables.exec = Jvm.exec) (hb : c.code = cX9_rises) (hr : meth.sig.returnType = (some .int)) (ht : ∀ w ∈ GG, w.before args s = true) (hown : s.vm.findClass yX9_rises.cls = some m.cls) (hlk : meth.locks = false) (hml : c.maxLocals = 4) (hK : va_K D vwCl (TY ca) s) (hN : NW s) : ∀ (n : Nat) (r v : Nat) (hv1 : v + r = 1000) (hv0 : 1 ≤ v) (hn : r < n) (vq : vp_in q 6) (hC : (q.toNatClampNeg : Int) < (σ 2 494).toInt) (vx : vp_in x 6) (hR0 : mRis (σ 2) q x = mRsF (mRsP (σ 2) q.toNatClampNeg x.toNatClampNeg) 999 1) (hR2 : mRsF (mRsP (σ 2) q.toNatClampNeg x.toNatClampNeg) r v = mRsF (mRsP (σ 2) q.toNatClampNeg x.toNatClampNeg) 999 1) (H : Heap) (locs : List Loc) (hP : PW D 6 ad (mxf ca ad) (s2 σ 0 0 0) τ H) (hS : va_S (AA 6 ad) s.heap H locs) (ls : Array Slot) (hl : lv_has ls 4 [(3, .int (nI v)), (0, .ref (ad 0)), (1, .int q), (2, .int x)]), W p l e { frames := 6, cells := 0, slots := 0, locals := 153 } s m args below meth c H locs 0 0 (MQ below (QD D 6 ad (mxf ca ad) (fun v_ S_ T_ => some (.int (mRis (σ 2) q x)) = v_ ∧ (s2 σ 0 0 0) = S_ ∧ τ = T_)) args s 0 0 (AA 6 ad)) (F0 m 25 ls []) := by
  intro n
  induction n with
  | zero => intro r v hv1 hv0 hn vq hC vx hR0 hR2 H locs hP hS ls hl; exfalso; omega
  | succ n ih =>
    intro r v hv1 hv0 hn vq hC vx hR0 hR2 H locs hP hS ls hl
    have e9 : (999 : Int32).toInt = 999 := rfl
    have ev : (nI v).toInt = v := nI_toInt (by omega)
    refine lv_iload_n hx hb dX9_rises_25 rfl (lv_at hl 0 rfl) ?_
    refine lv_sipush (v := 999) hx hb dX9_rises_26 (by decide) ?_
    refine lv_icmp_gt (tgt := 56) hx hb dX9_rises_29 (by decide) (fun c1 => ?_) (fun c1 => ?_)
    · have dc1 := c1
      rw [i_lt] at dc1
      obtain rfl : r = 0 := by omega
      refine lv_bipush (v := -2) hx hb dX9_rises_56 (by decide) ?_
      exact ret_i hx hb hr hlk hP hS dX9_rises_58 (⟨by rw [hR0, ← hR2]; rfl, rfl, rfl⟩)
    · have dc1 := c1
      rw [i_lt] at dc1
      obtain ⟨r', rfl⟩ : ∃ r', r = r' + 1 := ⟨r - 1, by omega⟩
      have hv : rg (nI v) 1 999 := by unfold rg; omega
      refine lv_aload_n hx hb dX9_rises_32 rfl (lv_at hl 1 rfl) ?_
      refine lv_iload_n hx hb dX9_rises_33 rfl (lv_at hl 2 rfl) ?_
      refine lv_iload_n hx hb dX9_rises_34 rfl (lv_at hl 3 rfl) ?_
      refine lv_iload_n hx hb dX9_rises_35 rfl (lv_at hl 0 rfl) ?_
      refine callv (y := yX9_priceBy) ⟨hx, hb, hml, hown, ht⟩ hK hN hP hS (k := 0) (c_X9_priceBy l D ca ad hI (s2 σ 0 0 0) τ (by rw [show (s2 σ 0 0 0) 2 = (σ 2) from (s2_nk _ _ _ (by omega))]; exact hR) q x (nI v) rfl (by assumption) (by rw [s2_nk _ _ _ (by decide)]; exact hC) rfl (by assumption) hv) (by decide) (sm_obj _ _) rfl ok_X9_priceBy gw_1183 ⟨by decide, by decide⟩ rfl hl.1 rfl (Nat.le_of_ble_eq_true rfl) ⟨by decide, by decide⟩ dX9_rises_36 (fun v_ S_ T_ H locs hp2 hP hS => ?_)
      obtain ⟨rfl, rfl, rfl⟩ := hp2
      try dsimp only [Option.toList, List.cons_append, List.nil_append]
      refine stk_i (v := (mPby ((σ 2)) q.toNatClampNeg x.toNatClampNeg (nI v))) (by first | (rw [(show (s2 σ 0 0 0) 2 = (σ 2) from (s2_nk _ _ _ (by omega)))]; done) | (rw [(show (s2 σ 0 0 0) 2 = (σ 2) from (s2_nk _ _ _ (by omega)))]; rfl)) ?_
      refine lv_aload_n hx hb dX9_rises_39 rfl (lv_at hl 1 rfl) ?_
      refine lv_iload_n hx hb dX9_rises_40 rfl (lv_at hl 2 rfl) ?_
      refine lv_iconst (v := 0) hx hb dX9_rises_41 (by decide) ?_
      refine callv (y := yX9_toldBy) ⟨hx, hb, hml, hown, ht⟩ hK hN hP hS (k := 0) (c_X9_toldBy l D ca ad hI (s2 σ 0 0 0) τ q (0 : Int32) rfl (by assumption) (show Int32.toNatClampNeg 0 = 0 from rfl) (by rw [vp_in_iff]; decide)) (by decide) (sm_obj _ _) rfl ok_X9_toldBy gw_1155 ⟨by decide, by decide⟩ rfl hl.1 rfl (Nat.le_of_ble_eq_true rfl) ⟨by decide, by decide⟩ dX9_rises_42 (fun v_ S_ T_ H locs hp3 hP hS => ?_)
      obtain ⟨rfl, rfl, rfl⟩ := hp3
      try dsimp only [Option.toList, List.cons_append, List.nil_append]
      refine stk_i (v := ((σ 2) (495 + 19 * q.toNatClampNeg + 0))) (by first | (rw [(show (s2 σ 0 0 0) 2 = (σ 2) from (s2_nk _ _ _ (by omega)))]; done) | (rw [(show (s2 σ 0 0 0) 2 = (σ 2) from (s2_nk _ _ _ (by omega)))]; rfl)) ?_
      refine lv_icmp_le (tgt := 50) hx hb dX9_rises_45 (by decide) (fun c4 => ?_) (fun c4 => ?_)
      · have dc4 := c4
        rw [i_le] at dc4
        refine lv_iinc (v := (nI v) + 1) (lv' := [(3, .int ((nI v) + 1)), (0, .ref (ad 0)), (1, .int q), (2, .int x)]) hx hb dX9_rises_50 hl (k := 0) rfl rfl (by decide) rfl (fun ls hl => ?_)
        refine lv_goto (tgt := 25) hx hb dX9_rises_53 (by decide) ?_
        rw [nI_1] at hl
        exact ih r' (v + 1) (by omega) (by omega) (by omega) vq hC vx hR0 (by rw [← hR2, mRsF, if_neg (by simp only [mRsP, c4, ↓reduceIte, Bool.false_eq_true, not_false_eq_true])]) _ _ hP hS ls (lv_sub hl [0, 1, 2, 3] rfl)
      · have dc4 := c4
        rw [i_le] at dc4
        refine lv_iload_n hx hb dX9_rises_48 rfl (lv_at hl 0 rfl) ?_
        exact ret_i hx hb hr hlk hP hS dX9_rises_49 (⟨by rw [hR0, ← hR2, mRsF, if_pos (by simp only [mRsP, c4, ↓reduceIte])], rfl, rfl⟩)
set_option maxHeartbeats 4000000 in
set_option maxRecDepth 100000 in
theorem c_X9_rises (l : Launch) (D : va_G) (ca : Nat → ClassId) (ad : Nat → Nat) (hI : Inj 6 ad) (σ : MI) (τ : ML) (hR : RI (σ 2)) (q x : Int32) : CT l D (TY ca) 6 ad (mxf ca ad) yX9_rises cX9_rises 4 (some .int) 6 153 [.ref (ad 0), .int q, .int x] σ τ (fun v_ S_ T_ => some (.int (mRis (σ 2) q x)) = v_ ∧ (s2 σ 0 0 0) = S_ ∧ τ = T_) := by
  refine CT.of (by decide) (Nat.le_of_ble_eq_true rfl) ?_
  intro p e s m args below meth c hx hb hr ht hown hlk hml hP hK hN hS ls hl
  have hl : lv_has ls 4 [(0, .ref (ad 0)), (1, .int q), (2, .int x)] := hl
  refine lv_aload_n hx hb dX9_rises_0 rfl (lv_at hl 0 rfl) ?_
  refine lv_iconst (v := 0) hx hb dX9_rises_1 (by decide) ?_
  refine fputx (ref := "") (w := 0) hx hb ht inG9 tyX9 tyX9_ok nmX9 hown hK hP hI hS (k := 0) (by decide) (sm_obj _ _) rfl 0 (by decide) gw_939 rfl rfl rfl (Nat.le_of_ble_eq_true rfl) (sm_obj _ _) dX9_rises_2 (fun H locs hP hS => ?_)
  refine lv_aload_n hx hb dX9_rises_5 rfl (lv_at hl 0 rfl) ?_
  refine lv_iload_n hx hb dX9_rises_6 rfl (lv_at hl 1 rfl) ?_
  refine callv (y := yX9_isContract) ⟨hx, hb, hml, hown, ht⟩ hK hN hP hS (k := 0) (c_X9_isContract l D ca ad hI (s2 σ 0 0 0) τ q) (by decide) (sm_obj _ _) rfl ok_X9_isContract gw_1151 ⟨by decide, by decide⟩ rfl hl.1 rfl (Nat.le_of_ble_eq_true rfl) ⟨by decide, by decide⟩ dX9_rises_7 (fun v_ S_ T_ H locs hp1 hP hS => ?_)
  obtain ⟨rfl, rfl, rfl⟩ := hp1
  try dsimp only [Option.toList, List.cons_append, List.nil_append]
  refine stk_i (v := (b2i (mIn q 0 ((σ 2) 494 - 1)))) (by first | (rw [(show (s2 σ 0 0 0) 2 = (σ 2) from (s2_nk _ _ _ (by omega)))]; done) | (rw [(show (s2 σ 0 0 0) 2 = (σ 2) from (s2_nk _ _ _ (by omega)))]; rfl)) ?_
  refine br_eq (tgt := 21) hx hb dX9_rises_10 (by decide) (fun c2 => ?_) (fun c2 => ?_)
  · refine lv_iconst (v := -1) hx hb dX9_rises_21 (by decide) ?_
    exact ret_i hx hb hr hlk hP hS dX9_rises_22 (⟨by first | with_reducible rfl | (simp only [mRis, c2, ↓reduceIte, Bool.false_eq_true]; done) | (simp only [mRis, c2, ↓reduceIte, Bool.false_eq_true]; rfl) | rfl, by first | with_reducible rfl | (simp only [mRis, c2, ↓reduceIte, Bool.false_eq_true]; done) | (simp only [mRis, c2, ↓reduceIte, Bool.false_eq_true]; rfl) | rfl, rfl⟩)
  · have vq := (mCx hR c2).1
    have hC := (mCx hR c2).2
    refine lv_aload_n hx hb dX9_rises_13 rfl (lv_at hl 0 rfl) ?_
    refine lv_iload_n hx hb dX9_rises_14 rfl (lv_at hl 2 rfl) ?_
    refine callv (y := yX9_isIndex) ⟨hx, hb, hml, hown, ht⟩ hK hN hP hS (k := 0) (c_X9_isIndex l D ca ad hI (s2 σ 0 0 0) τ x) (by decide) (sm_obj _ _) rfl ok_X9_isIndex gw_1105 ⟨by decide, by decide⟩ rfl hl.1 rfl (Nat.le_of_ble_eq_true rfl) ⟨by decide, by decide⟩ dX9_rises_15 (fun v_ S_ T_ H locs hp3 hP hS => ?_)
    obtain ⟨rfl, rfl, rfl⟩ := hp3
    try dsimp only [Option.toList, List.cons_append, List.nil_append]
    refine stk_i (v := (b2i (mIn x 0 ((σ 2) 1 - 1)))) (by first | (rw [(show (s2 σ 0 0 0) 2 = (σ 2) from (s2_nk _ _ _ (by omega)))]; done) | (rw [(show (s2 σ 0 0 0) 2 = (σ 2) from (s2_nk _ _ _ (by omega)))]; rfl)) ?_
    refine br_ne (tgt := 23) hx hb dX9_rises_18 (by decide) (fun c4 => ?_) (fun c4 => ?_)
    · have vx := (mIx hR c4).1
      refine lv_iconst (v := 1) hx hb dX9_rises_23 (by decide) ?_
      refine lv_istore_n (lv' := [(3, .int 1), (0, .ref (ad 0)), (1, .int q), (2, .int x)]) hx hb dX9_rises_24 rfl hl (by decide) rfl (fun ls hl => ?_)
      exact lp_X9_rises hI hR q x hx hb hr ht hown hlk hml hK hN 1000 999 1 (by omega) (by omega) (by omega) vq hC vx (by simp only [mRis, c2, c4, ↓reduceIte]) rfl _ _ hP hS ls hl
    · refine lv_iconst (v := -1) hx hb dX9_rises_21 (by decide) ?_
      exact ret_i hx hb hr hlk hP hS dX9_rises_22 (⟨by first | with_reducible rfl | (simp only [mRis, c2, c4, ↓reduceIte, Bool.false_eq_true]; done) | (simp only [mRis, c2, c4, ↓reduceIte, Bool.false_eq_true]; rfl) | rfl, by first | with_reducible rfl | (simp only [mRis, c2, c4, ↓reduceIte, Bool.false_eq_true]; done) | (simp only [mRis, c2, c4, ↓reduceIte, Bool.false_eq_true]; rfl) | rfl, rfl⟩)
