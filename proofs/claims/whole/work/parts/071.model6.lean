set_option maxHeartbeats 4000000 in
set_option maxRecDepth 100000 in
theorem c_X9_rebase (l : Launch) (D : va_G) (ca : Nat → ClassId) (ad : Nat → Nat) (hI : Inj 6 ad) (σ : MI) (τ : ML) (hR : RI (σ 2)) (h8 : rg (σ 0 16) 0 8) (x mo v : Int32) : CT l D (TY ca) 6 ad (mxf ca ad) yX9_rebase cX9_rebase 5 (some .int) 2 45 [.ref (ad 0), .int x, .int mo, .int v] σ τ (fun v_ S_ T_ => some (.int (mRbR (σ 2) x mo v)) = v_ ∧ (mRbM σ x mo v) = S_ ∧ τ = T_) := by
  refine CT.of (by decide) (Nat.le_of_ble_eq_true rfl) ?_
  intro p e s m args below meth c hx hb hr ht hown hlk hml hP hK hN hS ls hl
  have hl : lv_has ls 5 [(0, .ref (ad 0)), (1, .int x), (2, .int mo), (3, .int v)] := hl
  refine lv_aload_n hx hb dX9_rebase_0 rfl (lv_at hl 0 rfl) ?_
  refine lv_iconst (v := 0) hx hb dX9_rebase_1 (by decide) ?_
  refine fputx (ref := "") (w := 0) hx hb ht inG9 tyX9 tyX9_ok nmX9 hown hK hP hI hS (k := 0) (by decide) (sm_obj _ _) rfl 0 (by decide) gw_939 rfl rfl rfl (Nat.le_of_ble_eq_true rfl) (sm_obj _ _) dX9_rebase_2 (fun H locs hP hS => ?_)
  refine lv_aload_n hx hb dX9_rebase_5 rfl (lv_at hl 0 rfl) ?_
  refine lv_iload_n hx hb dX9_rebase_6 rfl (lv_at hl 1 rfl) ?_
  refine callv (y := yX9_isIndex) ⟨hx, hb, hml, hown, ht⟩ hK hN hP hS (k := 0) (c_X9_isIndex l D ca ad hI (s2 σ 0 0 0) τ x) (by decide) (sm_obj _ _) rfl ok_X9_isIndex gw_1105 ⟨by decide, by decide⟩ rfl hl.1 rfl (Nat.le_of_ble_eq_true rfl) ⟨by decide, by decide⟩ dX9_rebase_7 (fun v_ S_ T_ H locs hp1 hP hS => ?_)
  obtain ⟨rfl, rfl, rfl⟩ := hp1
  try dsimp only [Option.toList, List.cons_append, List.nil_append]
  refine stk_i (v := (b2i (mIn x 0 ((σ 2) 1 - 1)))) (by first | (rw [(show (s2 σ 0 0 0) 2 = (σ 2) from (s2_nk _ _ _ (by omega)))]; done) | (rw [(show (s2 σ 0 0 0) 2 = (σ 2) from (s2_nk _ _ _ (by omega)))]; rfl)) ?_
  refine br_eq (tgt := 36) hx hb dX9_rebase_10 (by decide) (fun c2 => ?_) (fun c2 => ?_)
  · refine lv_iconst (v := -1) hx hb dX9_rebase_36 (by decide) ?_
    exact ret_i hx hb hr hlk hP hS dX9_rebase_37 (⟨by have hq : mRbC (σ 2) x mo v = (-1) := (by simp only [mRbC, c2, ↓reduceIte, Bool.false_eq_true]); rw [mRbR, hq, if_neg n11], by have hq : mRbC (σ 2) x mo v = (-1) := (by simp only [mRbC, c2, ↓reduceIte, Bool.false_eq_true]); rw [mRbM, hq, if_neg n11], rfl⟩)
  · have vx := (mIx hR c2).1
    have hx6 := clampN vx
    have hb5 := hR.base hx6
    unfold rg at hb5
    have vn4 : vp_in (σ 2 (434 + 10 * x.toNatClampNeg)) 4 := by rw [vp_in_iff]; omega
    have hn4 := clampI (σ 2 (434 + 10 * x.toNatClampNeg))
    refine lv_iload_n hx hb dX9_rebase_13 rfl (lv_at hl 2 rfl) ?_
    refine lv_iconst (v := 0) hx hb dX9_rebase_14 (by decide) ?_
    refine lv_aload_n hx hb dX9_rebase_15 rfl (lv_at hl 0 rfl) ?_
    refine callv (y := yX9_month) ⟨hx, hb, hml, hown, ht⟩ hK hN hP hS (k := 0) (c_X9_month l D ca ad hI (s2 σ 0 0 0) τ ) (by decide) (sm_obj _ _) rfl ok_X9_month gw_1089 ⟨by decide, by decide⟩ rfl hl.1 rfl (Nat.le_of_ble_eq_true rfl) ⟨by decide, by decide⟩ dX9_rebase_16 (fun v_ S_ T_ H locs hp3 hP hS => ?_)
    obtain ⟨rfl, rfl, rfl⟩ := hp3
    try dsimp only [Option.toList, List.cons_append, List.nil_append]
    refine stk_i (v := ((σ 2) 0)) (by first | (rw [(show (s2 σ 0 0 0) 2 = (σ 2) from (s2_nk _ _ _ (by omega)))]; done) | (rw [(show (s2 σ 0 0 0) 2 = (σ 2) from (s2_nk _ _ _ (by omega)))]; rfl)) ?_
    refine calls (y := yX9_isIn) ⟨hx, hb, hml, hown, ht⟩ hK hN hP hS (c_X9_isIn l D ca ad hI (s2 σ 0 0 0) τ mo (0 : Int32) ((σ 2) 0)) ok_X9_isIn gw_1042 ⟨by decide, by decide⟩ rfl hl.1 rfl (Nat.le_of_ble_eq_true rfl) ⟨by decide, by decide⟩ dX9_rebase_19 (fun v_ S_ T_ H locs hp4 hP hS => ?_)
    obtain ⟨rfl, rfl, rfl⟩ := hp4
    try dsimp only [Option.toList, List.cons_append, List.nil_append]
    refine br_eq (tgt := 36) hx hb dX9_rebase_22 (by decide) (fun c5 => ?_) (fun c5 => ?_)
    · refine lv_iconst (v := -1) hx hb dX9_rebase_36 (by decide) ?_
      exact ret_i hx hb hr hlk hP hS dX9_rebase_37 (⟨by have hq : mRbC (σ 2) x mo v = (-1) := (by simp only [mRbC, c2, c5, ↓reduceIte, Bool.false_eq_true]); rw [mRbR, hq, if_neg n11], by have hq : mRbC (σ 2) x mo v = (-1) := (by simp only [mRbC, c2, c5, ↓reduceIte, Bool.false_eq_true]); rw [mRbM, hq, if_neg n11], rfl⟩)
    · have vm := mNx hR c5
      refine lv_iload_n hx hb dX9_rebase_25 rfl (lv_at hl 3 rfl) ?_
      refine lv_iconst (v := 1) hx hb dX9_rebase_26 (by decide) ?_
      refine lv_sipush (v := 999) hx hb dX9_rebase_27 (by decide) ?_
      refine calls (y := yX9_isIn) ⟨hx, hb, hml, hown, ht⟩ hK hN hP hS (c_X9_isIn l D ca ad hI (s2 σ 0 0 0) τ v (1 : Int32) (999 : Int32)) ok_X9_isIn gw_1042 ⟨by decide, by decide⟩ rfl hl.1 rfl (Nat.le_of_ble_eq_true rfl) ⟨by decide, by decide⟩ dX9_rebase_30 (fun v_ S_ T_ H locs hp6 hP hS => ?_)
      obtain ⟨rfl, rfl, rfl⟩ := hp6
      try dsimp only [Option.toList, List.cons_append, List.nil_append]
      refine br_ne (tgt := 38) hx hb dX9_rebase_33 (by decide) (fun c7 => ?_) (fun c7 => ?_)
      · refine lv_aload_n hx hb dX9_rebase_38 rfl (lv_at hl 0 rfl) ?_
        refine lv_iload_n hx hb dX9_rebase_39 rfl (lv_at hl 1 rfl) ?_
        refine lv_iload_n hx hb dX9_rebase_40 rfl (lv_at hl 2 rfl) ?_
        refine callv (y := yX9_sureOf) ⟨hx, hb, hml, hown, ht⟩ hK hN hP hS (k := 0) (c_X9_sureOf l D ca ad hI (s2 σ 0 0 0) τ x mo rfl (by assumption) rfl (by assumption)) (by decide) (sm_obj _ _) rfl ok_X9_sureOf gw_1116 ⟨by decide, by decide⟩ rfl hl.1 rfl (Nat.le_of_ble_eq_true rfl) ⟨by decide, by decide⟩ dX9_rebase_41 (fun v_ S_ T_ H locs hp8 hP hS => ?_)
        obtain ⟨rfl, rfl, rfl⟩ := hp8
        try dsimp only [Option.toList, List.cons_append, List.nil_append]
        refine stk_i (v := ((σ 2) (218 + 36 * x.toNatClampNeg + mo.toNatClampNeg))) (by first | (rw [(show (s2 σ 0 0 0) 2 = (σ 2) from (s2_nk _ _ _ (by omega)))]; done) | (rw [(show (s2 σ 0 0 0) 2 = (σ 2) from (s2_nk _ _ _ (by omega)))]; rfl)) ?_
        refine lv_iconst (v := 2) hx hb dX9_rebase_44 (by decide) ?_
        refine lv_icmp_eq (tgt := 51) hx hb dX9_rebase_45 (by decide) (fun c9 => ?_) (fun c9 => ?_)
        · have dc9 := c9
          rw [i_eq] at dc9
          refine lv_iload_n hx hb dX9_rebase_51 rfl (lv_at hl 2 rfl) ?_
          refine lv_aload_n hx hb dX9_rebase_52 rfl (lv_at hl 0 rfl) ?_
          refine lv_iload_n hx hb dX9_rebase_53 rfl (lv_at hl 1 rfl) ?_
          refine callv (y := yX9_lastBase) ⟨hx, hb, hml, hown, ht⟩ hK hN hP hS (k := 0) (c_X9_lastBase l D ca ad hI (s2 σ 0 0 0) τ (by rw [show (s2 σ 0 0 0) 2 = (σ 2) from (s2_nk _ _ _ (by omega))]; exact hR) x rfl (by assumption)) (by decide) (sm_obj _ _) rfl ok_X9_lastBase gw_1219 ⟨by decide, by decide⟩ rfl hl.1 rfl (Nat.le_of_ble_eq_true rfl) ⟨by decide, by decide⟩ dX9_rebase_54 (fun v_ S_ T_ H locs hp10 hP hS => ?_)
          obtain ⟨rfl, rfl, rfl⟩ := hp10
          try dsimp only [Option.toList, List.cons_append, List.nil_append]
          refine stk_i (v := (mLate ((σ 2)) x.toNatClampNeg)) (by first | (rw [(show (s2 σ 0 0 0) 2 = (σ 2) from (s2_nk _ _ _ (by omega)))]; done) | (rw [(show (s2 σ 0 0 0) 2 = (σ 2) from (s2_nk _ _ _ (by omega)))]; rfl)) ?_
          refine lv_icmp_le (tgt := 71) hx hb dX9_rebase_57 (by decide) (fun c11 => ?_) (fun c11 => ?_)
          · have dc11 := c11
            rw [i_le] at dc11
            refine lv_bipush (v := -3) hx hb dX9_rebase_71 (by decide) ?_
            exact ret_i hx hb hr hlk hP hS dX9_rebase_73 (⟨by have hq : mRbC (σ 2) x mo v = (-3) := (by simp only [mRbC, c2, c5, c7, (eq_true c9), c11, ↓reduceIte, Bool.false_eq_true]); rw [mRbR, hq, if_neg n31], by have hq : mRbC (σ 2) x mo v = (-3) := (by simp only [mRbC, c2, c5, c7, (eq_true c9), c11, ↓reduceIte, Bool.false_eq_true]); rw [mRbM, hq, if_neg n31], rfl⟩)
          · have dc11 := c11
            rw [i_le] at dc11
            refine lv_aload_n hx hb dX9_rebase_60 rfl (lv_at hl 0 rfl) ?_
            refine lv_iload_n hx hb dX9_rebase_61 rfl (lv_at hl 1 rfl) ?_
            refine lv_bipush (v := 35) hx hb dX9_rebase_62 (by decide) ?_
            refine callv (y := yX9_knownAt) ⟨hx, hb, hml, hown, ht⟩ hK hN hP hS (k := 0) (c_X9_knownAt l D ca ad hI (s2 σ 0 0 0) τ x (35 : Int32) rfl (by assumption) (show (35 : Int32).toInt = ((36 : Nat) : Int) - 1 from rfl) (Nat.le_refl 36)) (by decide) (sm_obj _ _) rfl ok_X9_knownAt gw_1112 ⟨by decide, by decide⟩ rfl hl.1 rfl (Nat.le_of_ble_eq_true rfl) ⟨by decide, by decide⟩ dX9_rebase_64 (fun v_ S_ T_ H locs hp12 hP hS => ?_)
            obtain ⟨rfl, rfl, rfl⟩ := hp12
            try dsimp only [Option.toList, List.cons_append, List.nil_append]
            refine stk_i (v := (mKn ((σ 2)) x.toNatClampNeg 36)) (by first | (rw [(show (s2 σ 0 0 0) 2 = (σ 2) from (s2_nk _ _ _ (by omega)))]; done) | (rw [(show (s2 σ 0 0 0) 2 = (σ 2) from (s2_nk _ _ _ (by omega)))]; rfl)) ?_
            refine lv_iload_n hx hb dX9_rebase_67 rfl (lv_at hl 2 rfl) ?_
            refine lv_icmp_le (tgt := 74) hx hb dX9_rebase_68 (by decide) (fun c13 => ?_) (fun c13 => ?_)
            · have dc13 := c13
              rw [i_le] at dc13
              refine lv_sipush (v := 434) hx hb dX9_rebase_74 (by decide) ?_
              refine lv_bipush (v := 10) hx hb dX9_rebase_77 (by decide) ?_
              refine lv_iload_n hx hb dX9_rebase_79 rfl (lv_at hl 1 rfl) ?_
              refine lv_imul hx hb dX9_rebase_80 ?_
              refine lv_iadd hx hb dX9_rebase_81 ?_
              refine lv_istore (lv' := [(4, .int (434 + (10 * x))), (0, .ref (ad 0)), (1, .int x), (2, .int mo), (3, .int v)]) hx hb dX9_rebase_82 hl (by decide) rfl (fun ls hl => ?_)
              refine lv_aload_n hx hb dX9_rebase_84 rfl (lv_at hl 1 rfl) ?_
              refine fgetx hx hb ht inG9 hown hK hP (k := 0) (by decide) (x := (upd (σ 0) 0 0)) (s2_k _ _ _ _) (sm_obj _ _) rfl 12 (by decide) gw_951 (v := .ref (ad 2)) rfl dX9_rebase_85 ?_
              refine lv_iload hx hb dX9_rebase_88 (lv_at hl 0 rfl) ?_
              refine aldj hx hb hK hP (k := 2) (by decide) (x := (σ 2)) (s2_nk _ _ _ (by omega)) 0 (sm_now _ _) rfl (ix1v 434 10 880 rfl rfl rfl vx (by omega) (by decide)) (j := (434 + 10 * x.toNatClampNeg)) (ix1c 434 10 880 rfl rfl rfl vx (by omega) (by decide)) dX9_rebase_90 ?_
              refine lv_iconst (v := 3) hx hb dX9_rebase_91 (by decide) ?_
              refine lv_icmp_ne (tgt := 98) hx hb dX9_rebase_92 (by decide) (fun c14 => ?_) (fun c14 => ?_)
              · have dc14 := c14
                rw [i_eq] at dc14
                have hn3 : (σ 2 (434 + 10 * x.toNatClampNeg)).toNatClampNeg < 3 := by have q := c14; rw [i_eq] at q; have e3 : (3 : Int32).toInt = 3 := rfl; omega
                refine lv_aload_n hx hb dX9_rebase_98 rfl (lv_at hl 1 rfl) ?_
                refine callv (y := yX9_snap) ⟨hx, hb, hml, hown, ht⟩ hK hN hP hS (k := 0) (c_X9_snap l D ca ad hI (s2 σ 0 0 0) τ (by rw [s2_nj _ _ _ (by decide)]; exact h8)) (by decide) (sm_obj _ _) rfl ok_X9_snap gw_1223 ⟨by decide, by decide⟩ rfl hl.1 rfl (Nat.le_of_ble_eq_true rfl) ⟨by decide, by decide⟩ dX9_rebase_99 (fun v_ S_ T_ H locs hp15 hP hS => ?_)
                obtain ⟨rfl, rfl, rfl⟩ := hp15
                try dsimp only [Option.toList, List.cons_append, List.nil_append]
                refine lv_aload_n hx hb dX9_rebase_102 rfl (lv_at hl 1 rfl) ?_
                refine fgetx hx hb ht inG9 hown hK hP (k := 0) (by decide) (x := ((snS (s2 σ 0 0 0)) 0)) rfl (sm_obj _ _) rfl 12 (by decide) gw_951 (v := .ref (ad 2)) rfl dX9_rebase_103 ?_
                refine lv_iload hx hb dX9_rebase_106 (lv_at hl 0 rfl) ?_
                refine lv_iconst (v := 1) hx hb dX9_rebase_108 (by decide) ?_
                refine lv_iadd hx hb dX9_rebase_109 ?_
                refine lv_iconst (v := 3) hx hb dX9_rebase_110 (by decide) ?_
                refine lv_aload_n hx hb dX9_rebase_111 rfl (lv_at hl 1 rfl) ?_
                refine fgetx hx hb ht inG9 hown hK hP (k := 0) (by decide) (x := ((snS (s2 σ 0 0 0)) 0)) rfl (sm_obj _ _) rfl 12 (by decide) gw_951 (v := .ref (ad 2)) rfl dX9_rebase_112 ?_
                refine lv_iload hx hb dX9_rebase_115 (lv_at hl 0 rfl) ?_
                refine aldj hx hb hK hP (k := 2) (by decide) (x := (σ 2)) ((snS_ne _ (by decide) (by decide)).trans (s2_nk _ _ _ (by omega))) 0 (sm_now _ _) rfl (ix1v 434 10 880 rfl rfl rfl vx (by omega) (by decide)) (j := (434 + 10 * x.toNatClampNeg)) (ix1c 434 10 880 rfl rfl rfl vx (by omega) (by decide)) dX9_rebase_117 ?_
                refine lv_imul hx hb dX9_rebase_118 ?_
                refine lv_iadd hx hb dX9_rebase_119 ?_
                refine lv_iload_n hx hb dX9_rebase_120 rfl (lv_at hl 3 rfl) ?_
                refine astj hx hb hK hP hI hS (k := 2) (by decide) 0 (fun f => sm_now f _ ) rfl (by rw [ixR (J := 1) 1 rfl rfl vx rfl vn4]; exact vp_in_nI (by omega) (by decide)) (j := (434 + 10 * x.toNatClampNeg + 1 + 3 * (σ 2 (434 + 10 * x.toNatClampNeg)).toNatClampNeg + 0)) (by rw [ixR (J := 1) 1 rfl rfl vx rfl vn4, nI_clamp (by omega)]; omega) dX9_rebase_121 (fun H locs hP hS => ?_)
                refine lv_aload_n hx hb dX9_rebase_122 rfl (lv_at hl 1 rfl) ?_
                refine fgetx hx hb ht inG9 hown hK hP (k := 0) (by decide) (x := ((snS (s2 σ 0 0 0)) 0)) (s2_nk _ _ _ (by omega)) (sm_obj _ _) rfl 12 (by decide) gw_951 (v := .ref (ad 2)) rfl dX9_rebase_123 ?_
                refine lv_iload hx hb dX9_rebase_126 (lv_at hl 0 rfl) ?_
                refine lv_iconst (v := 2) hx hb dX9_rebase_128 (by decide) ?_
                refine lv_iadd hx hb dX9_rebase_129 ?_
                refine lv_iconst (v := 3) hx hb dX9_rebase_130 (by decide) ?_
                refine lv_aload_n hx hb dX9_rebase_131 rfl (lv_at hl 1 rfl) ?_
                refine fgetx hx hb ht inG9 hown hK hP (k := 0) (by decide) (x := ((snS (s2 σ 0 0 0)) 0)) (s2_nk _ _ _ (by omega)) (sm_obj _ _) rfl 12 (by decide) gw_951 (v := .ref (ad 2)) rfl dX9_rebase_132 ?_
                refine lv_iload hx hb dX9_rebase_135 (lv_at hl 0 rfl) ?_
                refine aldj hx hb hK hP (k := 2) (by decide) (x := (upd (σ 2) (434 + 10 * x.toNatClampNeg + 1 + 3 * (σ 2 (434 + 10 * x.toNatClampNeg)).toNatClampNeg + 0) mo)) ((s2_k _ _ _ _).trans (congrArg (fun f => upd f (434 + 10 * x.toNatClampNeg + 1 + 3 * (σ 2 (434 + 10 * x.toNatClampNeg)).toNatClampNeg + 0) mo) ((snS_ne _ (by decide) (by decide)).trans (s2_nk _ _ _ (by omega))))) 0 (sm_now _ _) rfl (ix1v 434 10 880 rfl rfl rfl vx (by omega) (by decide)) (j := (434 + 10 * x.toNatClampNeg)) (ix1c 434 10 880 rfl rfl rfl vx (by omega) (by decide)) dX9_rebase_137 ?_
                refine stk_i (v := σ 2 (434 + 10 * x.toNatClampNeg)) (by first | rfl | (simp only [upd]; rw [if_neg (by omega)])) ?_
                refine lv_imul hx hb dX9_rebase_138 ?_
                refine lv_iadd hx hb dX9_rebase_139 ?_
                refine lv_aload_n hx hb dX9_rebase_140 rfl (lv_at hl 1 rfl) ?_
                refine lv_iload_n hx hb dX9_rebase_141 rfl (lv_at hl 2 rfl) ?_
                refine lv_iload_n hx hb dX9_rebase_142 rfl (lv_at hl 3 rfl) ?_
                refine callv (y := yX9_valueOf) ⟨hx, hb, hml, hown, ht⟩ hK hN hP hS (k := 0) (c_X9_valueOf l D ca ad hI (s2 (snS (s2 σ 0 0 0)) 2 (434 + 10 * x.toNatClampNeg + 1 + 3 * (σ 2 (434 + 10 * x.toNatClampNeg)).toNatClampNeg + 0) mo) τ x mo rfl (by assumption) rfl (by assumption)) (by decide) (sm_obj _ _) rfl ok_X9_valueOf gw_1120 ⟨by decide, by decide⟩ rfl hl.1 rfl (Nat.le_of_ble_eq_true rfl) ⟨by decide, by decide⟩ dX9_rebase_143 (fun v_ S_ T_ H locs hp16 hP hS => ?_)
                obtain ⟨rfl, rfl, rfl⟩ := hp16
                try dsimp only [Option.toList, List.cons_append, List.nil_append]
                refine stk_i (v := σ 2 (2 + 36 * x.toNatClampNeg + mo.toNatClampNeg)) (by have := clampN vm; rw [s2_nj _ _ _ (by omega), snS_ne _ (by decide) (by decide), s2_nk _ _ _ (by decide)]) ?_
                refine astj hx hb hK hP hI hS (k := 2) (by decide) 0 (fun f => sm_now f _ ) rfl (by rw [ixR (J := 2) 2 rfl rfl vx rfl vn4]; exact vp_in_nI (by omega) (by decide)) (j := (434 + 10 * x.toNatClampNeg + 1 + 3 * (σ 2 (434 + 10 * x.toNatClampNeg)).toNatClampNeg + 1)) (by rw [ixR (J := 2) 2 rfl rfl vx rfl vn4, nI_clamp (by omega)]; omega) dX9_rebase_146 (fun H locs hP hS => ?_)
                refine lv_aload_n hx hb dX9_rebase_147 rfl (lv_at hl 1 rfl) ?_
                refine fgetx hx hb ht inG9 hown hK hP (k := 0) (by decide) (x := ((snS (s2 σ 0 0 0)) 0)) ((s2_nk _ _ _ (by omega)).trans (s2_nk _ _ _ (by omega))) (sm_obj _ _) rfl 12 (by decide) gw_951 (v := .ref (ad 2)) rfl dX9_rebase_148 ?_
                refine lv_iload hx hb dX9_rebase_151 (lv_at hl 0 rfl) ?_
                refine lv_iconst (v := 3) hx hb dX9_rebase_153 (by decide) ?_
                refine lv_iadd hx hb dX9_rebase_154 ?_
                refine lv_iconst (v := 3) hx hb dX9_rebase_155 (by decide) ?_
                refine lv_aload_n hx hb dX9_rebase_156 rfl (lv_at hl 1 rfl) ?_
                refine fgetx hx hb ht inG9 hown hK hP (k := 0) (by decide) (x := ((snS (s2 σ 0 0 0)) 0)) ((s2_nk _ _ _ (by omega)).trans (s2_nk _ _ _ (by omega))) (sm_obj _ _) rfl 12 (by decide) gw_951 (v := .ref (ad 2)) rfl dX9_rebase_157 ?_
                refine lv_iload hx hb dX9_rebase_160 (lv_at hl 0 rfl) ?_
                refine aldj hx hb hK hP (k := 2) (by decide) (x := (upd (upd (σ 2) (434 + 10 * x.toNatClampNeg + 1 + 3 * (σ 2 (434 + 10 * x.toNatClampNeg)).toNatClampNeg + 0) mo) (434 + 10 * x.toNatClampNeg + 1 + 3 * (σ 2 (434 + 10 * x.toNatClampNeg)).toNatClampNeg + 1) (σ 2 (2 + 36 * x.toNatClampNeg + mo.toNatClampNeg)))) ((s2_k _ _ _ _).trans (congrArg (fun f => upd f (434 + 10 * x.toNatClampNeg + 1 + 3 * (σ 2 (434 + 10 * x.toNatClampNeg)).toNatClampNeg + 1) (σ 2 (2 + 36 * x.toNatClampNeg + mo.toNatClampNeg))) ((s2_k _ _ _ _).trans (congrArg (fun f => upd f (434 + 10 * x.toNatClampNeg + 1 + 3 * (σ 2 (434 + 10 * x.toNatClampNeg)).toNatClampNeg + 0) mo) ((snS_ne _ (by decide) (by decide)).trans (s2_nk _ _ _ (by omega))))))) 0 (sm_now _ _) rfl (ix1v 434 10 880 rfl rfl rfl vx (by omega) (by decide)) (j := (434 + 10 * x.toNatClampNeg)) (ix1c 434 10 880 rfl rfl rfl vx (by omega) (by decide)) dX9_rebase_162 ?_
                refine stk_i (v := σ 2 (434 + 10 * x.toNatClampNeg)) (by first | rfl | (simp only [upd]; rw [if_neg (by omega)]; rw [if_neg (by omega)])) ?_
                refine lv_imul hx hb dX9_rebase_163 ?_
                refine lv_iadd hx hb dX9_rebase_164 ?_
                refine lv_iload_n hx hb dX9_rebase_165 rfl (lv_at hl 4 rfl) ?_
                refine astj hx hb hK hP hI hS (k := 2) (by decide) 0 (fun f => sm_now f _ ) rfl (by rw [ixR (J := 3) 3 rfl rfl vx rfl vn4]; exact vp_in_nI (by omega) (by decide)) (j := (434 + 10 * x.toNatClampNeg + 1 + 3 * (σ 2 (434 + 10 * x.toNatClampNeg)).toNatClampNeg + 2)) (by rw [ixR (J := 3) 3 rfl rfl vx rfl vn4, nI_clamp (by omega)]; omega) dX9_rebase_166 (fun H locs hP hS => ?_)
                refine lv_aload_n hx hb dX9_rebase_167 rfl (lv_at hl 1 rfl) ?_
                refine fgetx hx hb ht inG9 hown hK hP (k := 0) (by decide) (x := ((snS (s2 σ 0 0 0)) 0)) ((s2_nk _ _ _ (by omega)).trans ((s2_nk _ _ _ (by omega)).trans (s2_nk _ _ _ (by omega)))) (sm_obj _ _) rfl 12 (by decide) gw_951 (v := .ref (ad 2)) rfl dX9_rebase_168 ?_
                refine lv_iload hx hb dX9_rebase_171 (lv_at hl 0 rfl) ?_
                refine lv_dup2_11 hx hb dX9_rebase_173 rfl rfl ?_
                refine aldj hx hb hK hP (k := 2) (by decide) (x := (upd (upd (upd (σ 2) (434 + 10 * x.toNatClampNeg + 1 + 3 * (σ 2 (434 + 10 * x.toNatClampNeg)).toNatClampNeg + 0) mo) (434 + 10 * x.toNatClampNeg + 1 + 3 * (σ 2 (434 + 10 * x.toNatClampNeg)).toNatClampNeg + 1) (σ 2 (2 + 36 * x.toNatClampNeg + mo.toNatClampNeg))) (434 + 10 * x.toNatClampNeg + 1 + 3 * (σ 2 (434 + 10 * x.toNatClampNeg)).toNatClampNeg + 2) v)) ((s2_k _ _ _ _).trans (congrArg (fun f => upd f (434 + 10 * x.toNatClampNeg + 1 + 3 * (σ 2 (434 + 10 * x.toNatClampNeg)).toNatClampNeg + 2) v) ((s2_k _ _ _ _).trans (congrArg (fun f => upd f (434 + 10 * x.toNatClampNeg + 1 + 3 * (σ 2 (434 + 10 * x.toNatClampNeg)).toNatClampNeg + 1) (σ 2 (2 + 36 * x.toNatClampNeg + mo.toNatClampNeg))) ((s2_k _ _ _ _).trans (congrArg (fun f => upd f (434 + 10 * x.toNatClampNeg + 1 + 3 * (σ 2 (434 + 10 * x.toNatClampNeg)).toNatClampNeg + 0) mo) ((snS_ne _ (by decide) (by decide)).trans (s2_nk _ _ _ (by omega))))))))) 0 (sm_now _ _) rfl (ix1v 434 10 880 rfl rfl rfl vx (by omega) (by decide)) (j := (434 + 10 * x.toNatClampNeg)) (ix1c 434 10 880 rfl rfl rfl vx (by omega) (by decide)) dX9_rebase_174 ?_
                refine stk_i (v := σ 2 (434 + 10 * x.toNatClampNeg)) (by first | rfl | (simp only [upd]; rw [if_neg (by omega)]; rw [if_neg (by omega)]; rw [if_neg (by omega)])) ?_
                refine lv_iconst (v := 1) hx hb dX9_rebase_175 (by decide) ?_
                refine lv_iadd hx hb dX9_rebase_176 ?_
                refine astj hx hb hK hP hI hS (k := 2) (by decide) 0 (fun f => sm_now f _ ) rfl (ix1v 434 10 880 rfl rfl rfl vx (by omega) (by decide)) (j := (434 + 10 * x.toNatClampNeg)) (ix1c 434 10 880 rfl rfl rfl vx (by omega) (by decide)) dX9_rebase_177 (fun H locs hP hS => ?_)
                refine lv_aload_n hx hb dX9_rebase_178 rfl (lv_at hl 1 rfl) ?_
                refine fgetx hx hb ht inG9 hown hK hP (k := 0) (by decide) (x := ((snS (s2 σ 0 0 0)) 0)) ((s2_nk _ _ _ (by omega)).trans ((s2_nk _ _ _ (by omega)).trans ((s2_nk _ _ _ (by omega)).trans (s2_nk _ _ _ (by omega))))) (sm_obj _ _) rfl 12 (by decide) gw_951 (v := .ref (ad 2)) rfl dX9_rebase_179 ?_
                refine lv_iload hx hb dX9_rebase_182 (lv_at hl 0 rfl) ?_
                refine aldj hx hb hK hP (k := 2) (by decide) (x := (upd (upd (upd (upd (σ 2) (434 + 10 * x.toNatClampNeg + 1 + 3 * (σ 2 (434 + 10 * x.toNatClampNeg)).toNatClampNeg + 0) mo) (434 + 10 * x.toNatClampNeg + 1 + 3 * (σ 2 (434 + 10 * x.toNatClampNeg)).toNatClampNeg + 1) (σ 2 (2 + 36 * x.toNatClampNeg + mo.toNatClampNeg))) (434 + 10 * x.toNatClampNeg + 1 + 3 * (σ 2 (434 + 10 * x.toNatClampNeg)).toNatClampNeg + 2) v) (434 + 10 * x.toNatClampNeg) ((σ 2 (434 + 10 * x.toNatClampNeg)) + 1))) ((s2_k _ _ _ _).trans (congrArg (fun f => upd f (434 + 10 * x.toNatClampNeg) ((σ 2 (434 + 10 * x.toNatClampNeg)) + 1)) ((s2_k _ _ _ _).trans (congrArg (fun f => upd f (434 + 10 * x.toNatClampNeg + 1 + 3 * (σ 2 (434 + 10 * x.toNatClampNeg)).toNatClampNeg + 2) v) ((s2_k _ _ _ _).trans (congrArg (fun f => upd f (434 + 10 * x.toNatClampNeg + 1 + 3 * (σ 2 (434 + 10 * x.toNatClampNeg)).toNatClampNeg + 1) (σ 2 (2 + 36 * x.toNatClampNeg + mo.toNatClampNeg))) ((s2_k _ _ _ _).trans (congrArg (fun f => upd f (434 + 10 * x.toNatClampNeg + 1 + 3 * (σ 2 (434 + 10 * x.toNatClampNeg)).toNatClampNeg + 0) mo) ((snS_ne _ (by decide) (by decide)).trans (s2_nk _ _ _ (by omega))))))))))) 0 (sm_now _ _) rfl (ix1v 434 10 880 rfl rfl rfl vx (by omega) (by decide)) (j := (434 + 10 * x.toNatClampNeg)) (ix1c 434 10 880 rfl rfl rfl vx (by omega) (by decide)) dX9_rebase_184 ?_
                refine stk_i (v := σ 2 (434 + 10 * x.toNatClampNeg) + 1) (by simp only [upd, ↓reduceIte]) ?_
                exact ret_i hx hb hr hlk hP hS dX9_rebase_185 (⟨by have hq : mRbC (σ 2) x mo v = 1 := (by simp only [mRbC, c2, c5, c7, (eq_true c9), c11, c13, c14, ↓reduceIte, Bool.false_eq_true]); rw [mRbR, hq, if_pos rfl], by have hq : mRbC (σ 2) x mo v = 1 := (by simp only [mRbC, c2, c5, c7, (eq_true c9), c11, c13, c14, ↓reduceIte, Bool.false_eq_true]); rw [mRbM, hq, if_pos rfl], rfl⟩)
              · have dc14 := c14
                rw [i_eq] at dc14
                refine lv_bipush (v := -4) hx hb dX9_rebase_95 (by decide) ?_
                exact ret_i hx hb hr hlk hP hS dX9_rebase_97 (⟨by have hq : mRbC (σ 2) x mo v = (-4) := (by simp only [mRbC, c2, c5, c7, (eq_true c9), c11, c13, (eq_true c14), ↓reduceIte, Bool.false_eq_true]); rw [mRbR, hq, if_neg n41], by have hq : mRbC (σ 2) x mo v = (-4) := (by simp only [mRbC, c2, c5, c7, (eq_true c9), c11, c13, (eq_true c14), ↓reduceIte, Bool.false_eq_true]); rw [mRbM, hq, if_neg n41], rfl⟩)
            · have dc13 := c13
              rw [i_le] at dc13
              refine lv_bipush (v := -3) hx hb dX9_rebase_71 (by decide) ?_
              exact ret_i hx hb hr hlk hP hS dX9_rebase_73 (⟨by have hq : mRbC (σ 2) x mo v = (-3) := (by simp only [mRbC, c2, c5, c7, (eq_true c9), c11, c13, ↓reduceIte, Bool.false_eq_true]); rw [mRbR, hq, if_neg n31], by have hq : mRbC (σ 2) x mo v = (-3) := (by simp only [mRbC, c2, c5, c7, (eq_true c9), c11, c13, ↓reduceIte, Bool.false_eq_true]); rw [mRbM, hq, if_neg n31], rfl⟩)
        · have dc9 := c9
          rw [i_eq] at dc9
          refine lv_bipush (v := -2) hx hb dX9_rebase_48 (by decide) ?_
          exact ret_i hx hb hr hlk hP hS dX9_rebase_50 (⟨by have hq : mRbC (σ 2) x mo v = (-2) := (by simp only [mRbC, c2, c5, c7, c9, ↓reduceIte, Bool.false_eq_true]); rw [mRbR, hq, if_neg n21], by have hq : mRbC (σ 2) x mo v = (-2) := (by simp only [mRbC, c2, c5, c7, c9, ↓reduceIte, Bool.false_eq_true]); rw [mRbM, hq, if_neg n21], rfl⟩)
      · refine lv_iconst (v := -1) hx hb dX9_rebase_36 (by decide) ?_
        exact ret_i hx hb hr hlk hP hS dX9_rebase_37 (⟨by have hq : mRbC (σ 2) x mo v = (-1) := (by simp only [mRbC, c2, c5, c7, ↓reduceIte, Bool.false_eq_true]); rw [mRbR, hq, if_neg n11], by have hq : mRbC (σ 2) x mo v = (-1) := (by simp only [mRbC, c2, c5, c7, ↓reduceIte, Bool.false_eq_true]); rw [mRbM, hq, if_neg n11], rfl⟩)
set_option maxHeartbeats 4000000 in
set_option maxRecDepth 100000 in
theorem c_X9_deliver (l : Launch) (D : va_G) (ca : Nat → ClassId) (ad : Nat → Nat) (hI : Inj 6 ad) (σ : MI) (τ : ML) (hR : RI (σ 2)) (h8 : rg (σ 0 16) 0 8) (q du n : Int32) : CT l D (TY ca) 6 ad (mxf ca ad) yX9_deliver cX9_deliver 7 (some .int) 5 126 [.ref (ad 0), .int q, .int du, .int n] σ τ (fun v_ S_ T_ => some (.int (mDvR (σ 2) q du n)) = v_ ∧ (mDvM σ q du n) = S_ ∧ τ = T_) := by
  refine CT.of (by decide) (Nat.le_of_ble_eq_true rfl) ?_
  intro p e s m args below meth c hx hb hr ht hown hlk hml hP hK hN hS ls hl
  have hl : lv_has ls 7 [(0, .ref (ad 0)), (1, .int q), (2, .int du), (3, .int n)] := hl
  refine lv_aload_n hx hb dX9_deliver_0 rfl (lv_at hl 0 rfl) ?_
  refine lv_iconst (v := 0) hx hb dX9_deliver_1 (by decide) ?_
  refine fputx (ref := "") (w := 0) hx hb ht inG9 tyX9 tyX9_ok nmX9 hown hK hP hI hS (k := 0) (by decide) (sm_obj _ _) rfl 0 (by decide) gw_939 rfl rfl rfl (Nat.le_of_ble_eq_true rfl) (sm_obj _ _) dX9_deliver_2 (fun H locs hP hS => ?_)
  refine lv_aload_n hx hb dX9_deliver_5 rfl (lv_at hl 0 rfl) ?_
  refine lv_iload_n hx hb dX9_deliver_6 rfl (lv_at hl 1 rfl) ?_
  refine callv (y := yX9_isContract) ⟨hx, hb, hml, hown, ht⟩ hK hN hP hS (k := 0) (c_X9_isContract l D ca ad hI (s2 σ 0 0 0) τ q) (by decide) (sm_obj _ _) rfl ok_X9_isContract gw_1151 ⟨by decide, by decide⟩ rfl hl.1 rfl (Nat.le_of_ble_eq_true rfl) ⟨by decide, by decide⟩ dX9_deliver_7 (fun v_ S_ T_ H locs hp1 hP hS => ?_)
  obtain ⟨rfl, rfl, rfl⟩ := hp1
  try dsimp only [Option.toList, List.cons_append, List.nil_append]
  refine stk_i (v := (b2i (mIn q 0 ((σ 2) 494 - 1)))) (by first | (rw [(show (s2 σ 0 0 0) 2 = (σ 2) from (s2_nk _ _ _ (by omega)))]; done) | (rw [(show (s2 σ 0 0 0) 2 = (σ 2) from (s2_nk _ _ _ (by omega)))]; rfl)) ?_
  refine br_eq (tgt := 41) hx hb dX9_deliver_10 (by decide) (fun c2 => ?_) (fun c2 => ?_)
  · refine lv_iconst (v := -1) hx hb dX9_deliver_41 (by decide) ?_
    exact ret_i hx hb hr hlk hP hS dX9_deliver_42 (⟨by simp only [mDvR, mDvC, c2, ↓reduceIte, Bool.false_eq_true], by simp only [mDvM, mDvC, c2, ↓reduceIte, Bool.false_eq_true], rfl⟩)
  · have vq := (mCx hR c2).1
    have hC := (mCx hR c2).2
    refine lv_iload_n hx hb dX9_deliver_13 rfl (lv_at hl 2 rfl) ?_
    refine lv_aload_n hx hb dX9_deliver_14 rfl (lv_at hl 0 rfl) ?_
    refine lv_iload_n hx hb dX9_deliver_15 rfl (lv_at hl 1 rfl) ?_
    refine lv_iconst (v := 2) hx hb dX9_deliver_16 (by decide) ?_
    refine callv (y := yX9_toldBy) ⟨hx, hb, hml, hown, ht⟩ hK hN hP hS (k := 0) (c_X9_toldBy l D ca ad hI (s2 σ 0 0 0) τ q (2 : Int32) rfl (by assumption) (show Int32.toNatClampNeg 2 = 2 from rfl) (by rw [vp_in_iff]; decide)) (by decide) (sm_obj _ _) rfl ok_X9_toldBy gw_1155 ⟨by decide, by decide⟩ rfl hl.1 rfl (Nat.le_of_ble_eq_true rfl) ⟨by decide, by decide⟩ dX9_deliver_17 (fun v_ S_ T_ H locs hp3 hP hS => ?_)
    obtain ⟨rfl, rfl, rfl⟩ := hp3
    try dsimp only [Option.toList, List.cons_append, List.nil_append]
    refine stk_i (v := ((σ 2) (495 + 19 * q.toNatClampNeg + 2))) (by first | (rw [(show (s2 σ 0 0 0) 2 = (σ 2) from (s2_nk _ _ _ (by omega)))]; done) | (rw [(show (s2 σ 0 0 0) 2 = (σ 2) from (s2_nk _ _ _ (by omega)))]; rfl)) ?_
    refine lv_aload_n hx hb dX9_deliver_20 rfl (lv_at hl 0 rfl) ?_
    refine callv (y := yX9_month) ⟨hx, hb, hml, hown, ht⟩ hK hN hP hS (k := 0) (c_X9_month l D ca ad hI (s2 σ 0 0 0) τ ) (by decide) (sm_obj _ _) rfl ok_X9_month gw_1089 ⟨by decide, by decide⟩ rfl hl.1 rfl (Nat.le_of_ble_eq_true rfl) ⟨by decide, by decide⟩ dX9_deliver_21 (fun v_ S_ T_ H locs hp4 hP hS => ?_)
    obtain ⟨rfl, rfl, rfl⟩ := hp4
    try dsimp only [Option.toList, List.cons_append, List.nil_append]
    refine stk_i (v := ((σ 2) 0)) (by first | (rw [(show (s2 σ 0 0 0) 2 = (σ 2) from (s2_nk _ _ _ (by omega)))]; done) | (rw [(show (s2 σ 0 0 0) 2 = (σ 2) from (s2_nk _ _ _ (by omega)))]; rfl)) ?_
    refine calls (y := yX9_isIn) ⟨hx, hb, hml, hown, ht⟩ hK hN hP hS (c_X9_isIn l D ca ad hI (s2 σ 0 0 0) τ du ((σ 2) (495 + 19 * q.toNatClampNeg + 2)) ((σ 2) 0)) ok_X9_isIn gw_1042 ⟨by decide, by decide⟩ rfl hl.1 rfl (Nat.le_of_ble_eq_true rfl) ⟨by decide, by decide⟩ dX9_deliver_24 (fun v_ S_ T_ H locs hp5 hP hS => ?_)
    obtain ⟨rfl, rfl, rfl⟩ := hp5
    try dsimp only [Option.toList, List.cons_append, List.nil_append]
    refine br_eq (tgt := 41) hx hb dX9_deliver_27 (by decide) (fun c6 => ?_) (fun c6 => ?_)
    · refine lv_iconst (v := -1) hx hb dX9_deliver_41 (by decide) ?_
      exact ret_i hx hb hr hlk hP hS dX9_deliver_42 (⟨by simp only [mDvR, mDvC, c2, c6, ↓reduceIte, Bool.false_eq_true], by simp only [mDvM, mDvC, c2, c6, ↓reduceIte, Bool.false_eq_true], rfl⟩)
    · have vd := (mPx hR hC c6).1
      have hd9 := (mPx hR hC c6).2
      refine lv_iload_n hx hb dX9_deliver_30 rfl (lv_at hl 3 rfl) ?_
      refine lv_iconst (v := 1) hx hb dX9_deliver_31 (by decide) ?_
      refine lv_sipush (v := 999) hx hb dX9_deliver_32 (by decide) ?_
      refine calls (y := yX9_isIn) ⟨hx, hb, hml, hown, ht⟩ hK hN hP hS (c_X9_isIn l D ca ad hI (s2 σ 0 0 0) τ n (1 : Int32) (999 : Int32)) ok_X9_isIn gw_1042 ⟨by decide, by decide⟩ rfl hl.1 rfl (Nat.le_of_ble_eq_true rfl) ⟨by decide, by decide⟩ dX9_deliver_35 (fun v_ S_ T_ H locs hp7 hP hS => ?_)
      obtain ⟨rfl, rfl, rfl⟩ := hp7
      try dsimp only [Option.toList, List.cons_append, List.nil_append]
      refine br_ne (tgt := 43) hx hb dX9_deliver_38 (by decide) (fun c8 => ?_) (fun c8 => ?_)
      · refine lv_aload_n hx hb dX9_deliver_43 rfl (lv_at hl 0 rfl) ?_
        refine fgetx hx hb ht inG9 hown hK hP (k := 0) (by decide) (x := (upd (σ 0) 0 0)) (s2_k _ _ _ _) (sm_obj _ _) rfl 12 (by decide) gw_951 (v := .ref (ad 2)) rfl dX9_deliver_44 ?_
        refine lv_sipush (v := 609) hx hb dX9_deliver_47 (by decide) ?_
        refine aldj hx hb hK hP (k := 2) (by decide) (x := (σ 2)) (s2_nk _ _ _ (by omega)) 0 (sm_now _ _) rfl (by rw [vp_in_iff]; decide) (j := 609) rfl dX9_deliver_50 ?_
        refine lv_bipush (v := 30) hx hb dX9_deliver_51 (by decide) ?_
        refine lv_icmp_ne (tgt := 59) hx hb dX9_deliver_53 (by decide) (fun c9 => ?_) (fun c9 => ?_)
        · have dc9 := c9
          rw [i_eq] at dc9
          have h609 := hR.2.2.2.1
          have h00 := hR.1
          have hcb := (hR.con hC).2.2.1
          unfold rg at h609 h00 hcb
          have v30 : vp_in (σ 2 609) 30 := by rw [vp_in_iff]; have z := c9; rw [i_eq] at z; have e30 : (30 : Int32).toInt = 30 := rfl; omega
          have h30 := clampN v30
          have v0 : vp_in (σ 2 0) 36 := by rw [vp_in_iff]; omega
          have hcl0 := clampI (σ 2 0)
          have hn9 : (σ 2 (495 + 19 * q.toNatClampNeg + 2)).toInt < (((σ 2 0).toNatClampNeg + 1 : Nat) : Int) := by omega
          have hq6 := clampN vq
          refine lv_aload_n hx hb dX9_deliver_59 rfl (lv_at hl 0 rfl) ?_
          refine callv (y := yX9_snap) ⟨hx, hb, hml, hown, ht⟩ hK hN hP hS (k := 0) (c_X9_snap l D ca ad hI (s2 σ 0 0 0) τ (by rw [s2_nj _ _ _ (by decide)]; exact h8)) (by decide) (sm_obj _ _) rfl ok_X9_snap gw_1223 ⟨by decide, by decide⟩ rfl hl.1 rfl (Nat.le_of_ble_eq_true rfl) ⟨by decide, by decide⟩ dX9_deliver_60 (fun v_ S_ T_ H locs hp10 hP hS => ?_)
          obtain ⟨rfl, rfl, rfl⟩ := hp10
          try dsimp only [Option.toList, List.cons_append, List.nil_append]
          refine lv_aload_n hx hb dX9_deliver_63 rfl (lv_at hl 0 rfl) ?_
          refine fgetx hx hb ht inG9 hown hK hP (k := 0) (by decide) (x := ((snS (s2 σ 0 0 0)) 0)) rfl (sm_obj _ _) rfl 12 (by decide) gw_951 (v := .ref (ad 2)) rfl dX9_deliver_64 ?_
          refine lv_sipush (v := 609) hx hb dX9_deliver_67 (by decide) ?_
          refine aldj hx hb hK hP (k := 2) (by decide) (x := (σ 2)) ((snS_ne _ (by decide) (by decide)).trans (s2_nk _ _ _ (by omega))) 0 (sm_now _ _) rfl (by rw [vp_in_iff]; decide) (j := 609) rfl dX9_deliver_70 ?_
          refine lv_istore (lv' := [(4, .int ((σ 2) 609)), (0, .ref (ad 0)), (1, .int q), (2, .int du), (3, .int n)]) hx hb dX9_deliver_71 hl (by decide) rfl (fun ls hl => ?_)
          refine lv_sipush (v := 610) hx hb dX9_deliver_73 (by decide) ?_
          refine lv_bipush (v := 9) hx hb dX9_deliver_76 (by decide) ?_
          refine lv_iload hx hb dX9_deliver_78 (lv_at hl 0 rfl) ?_
          refine lv_imul hx hb dX9_deliver_80 ?_
          refine lv_iadd hx hb dX9_deliver_81 ?_
          refine lv_istore (lv' := [(5, .int (610 + (9 * ((σ 2) 609)))), (4, .int ((σ 2) 609)), (0, .ref (ad 0)), (1, .int q), (2, .int du), (3, .int n)]) hx hb dX9_deliver_82 hl (by decide) rfl (fun ls hl => ?_)
          refine lv_aload_n hx hb dX9_deliver_84 rfl (lv_at hl 2 rfl) ?_
          refine lv_iload_n hx hb dX9_deliver_85 rfl (lv_at hl 3 rfl) ?_
          refine lv_iload_n hx hb dX9_deliver_86 rfl (lv_at hl 4 rfl) ?_
          refine callv (y := yX9_priceOf) ⟨hx, hb, hml, hown, ht⟩ hK hN hP hS (k := 0) (c_X9_priceOf l D ca ad hI (snS (s2 σ 0 0 0)) τ q du rfl vq (vpI vd) (vpL vd) (by rw [show (snS (s2 σ 0 0 0)) 2 = σ 2 from ((snS_ne _ (by decide) (by decide)).trans (s2_nk _ _ _ (by omega)))]; exact hR) (by rw [show (snS (s2 σ 0 0 0)) 2 = σ 2 from ((snS_ne _ (by decide) (by decide)).trans (s2_nk _ _ _ (by omega)))]; exact hC) (by rw [show (snS (s2 σ 0 0 0)) 2 = σ 2 from ((snS_ne _ (by decide) (by decide)).trans (s2_nk _ _ _ (by omega)))]; exact hd9)) (by decide) (sm_obj _ _) rfl ok_X9_priceOf gw_1174 ⟨by decide, by decide⟩ rfl hl.1 rfl (Nat.le_of_ble_eq_true rfl) ⟨by decide, by decide⟩ dX9_deliver_87 (fun v_ S_ T_ H locs hp11 hP hS => ?_)
          obtain ⟨rfl, rfl, rfl⟩ := hp11
          try dsimp only [Option.toList, List.cons_append, List.nil_append]
          refine stk_i (v := (mPri ((σ 2)) q.toNatClampNeg (du.toNatClampNeg + 1))) (by first | (rw [(show (snS (s2 σ 0 0 0)) 2 = (σ 2) from ((snS_ne _ (by decide) (by decide)).trans (s2_nk _ _ _ (by omega))))]; done) | (rw [(show (snS (s2 σ 0 0 0)) 2 = (σ 2) from ((snS_ne _ (by decide) (by decide)).trans (s2_nk _ _ _ (by omega))))]; rfl)) ?_
          refine lv_aload_n hx hb dX9_deliver_90 rfl (lv_at hl 2 rfl) ?_
          refine lv_iload_n hx hb dX9_deliver_91 rfl (lv_at hl 3 rfl) ?_
          refine lv_aload_n hx hb dX9_deliver_92 rfl (lv_at hl 2 rfl) ?_
          refine callv (y := yX9_month) ⟨hx, hb, hml, hown, ht⟩ hK hN hP hS (k := 0) (c_X9_month l D ca ad hI (snS (s2 σ 0 0 0)) τ ) (by decide) (sm_obj _ _) rfl ok_X9_month gw_1089 ⟨by decide, by decide⟩ rfl hl.1 rfl (Nat.le_of_ble_eq_true rfl) ⟨by decide, by decide⟩ dX9_deliver_93 (fun v_ S_ T_ H locs hp12 hP hS => ?_)
          obtain ⟨rfl, rfl, rfl⟩ := hp12
          try dsimp only [Option.toList, List.cons_append, List.nil_append]
          refine stk_i (v := ((σ 2) 0)) (by first | (rw [(show (snS (s2 σ 0 0 0)) 2 = (σ 2) from ((snS_ne _ (by decide) (by decide)).trans (s2_nk _ _ _ (by omega))))]; done) | (rw [(show (snS (s2 σ 0 0 0)) 2 = (σ 2) from ((snS_ne _ (by decide) (by decide)).trans (s2_nk _ _ _ (by omega))))]; rfl)) ?_
          refine callv (y := yX9_priceOf) ⟨hx, hb, hml, hown, ht⟩ hK hN hP hS (k := 0) (c_X9_priceOf l D ca ad hI (snS (s2 σ 0 0 0)) τ q ((σ 2) 0) rfl vq (vpI v0) (vpL v0) (by rw [show (snS (s2 σ 0 0 0)) 2 = σ 2 from ((snS_ne _ (by decide) (by decide)).trans (s2_nk _ _ _ (by omega)))]; exact hR) (by rw [show (snS (s2 σ 0 0 0)) 2 = σ 2 from ((snS_ne _ (by decide) (by decide)).trans (s2_nk _ _ _ (by omega)))]; exact hC) (by rw [show (snS (s2 σ 0 0 0)) 2 = σ 2 from ((snS_ne _ (by decide) (by decide)).trans (s2_nk _ _ _ (by omega)))]; exact hn9)) (by decide) (sm_obj _ _) rfl ok_X9_priceOf gw_1174 ⟨by decide, by decide⟩ rfl hl.1 rfl (Nat.le_of_ble_eq_true rfl) ⟨by decide, by decide⟩ dX9_deliver_96 (fun v_ S_ T_ H locs hp13 hP hS => ?_)
          obtain ⟨rfl, rfl, rfl⟩ := hp13
          try dsimp only [Option.toList, List.cons_append, List.nil_append]
          refine stk_i (v := (mPri ((σ 2)) q.toNatClampNeg ((σ 2 0).toNatClampNeg + 1))) (by first | (rw [(show (snS (s2 σ 0 0 0)) 2 = (σ 2) from ((snS_ne _ (by decide) (by decide)).trans (s2_nk _ _ _ (by omega))))]; done) | (rw [(show (snS (s2 σ 0 0 0)) 2 = (σ 2) from ((snS_ne _ (by decide) (by decide)).trans (s2_nk _ _ _ (by omega))))]; rfl)) ?_
          refine lv_icmp_gt (tgt := 106) hx hb dX9_deliver_99 (by decide) (fun c14 => ?_) (fun c14 => ?_)
          · have dc14 := c14
            rw [i_lt] at dc14
            refine lv_aload_n hx hb dX9_deliver_106 rfl (lv_at hl 2 rfl) ?_
            refine callv (y := yX9_month) ⟨hx, hb, hml, hown, ht⟩ hK hN hP hS (k := 0) (c_X9_month l D ca ad hI (snS (s2 σ 0 0 0)) τ ) (by decide) (sm_obj _ _) rfl ok_X9_month gw_1089 ⟨by decide, by decide⟩ rfl hl.1 rfl (Nat.le_of_ble_eq_true rfl) ⟨by decide, by decide⟩ dX9_deliver_107 (fun v_ S_ T_ H locs hp15 hP hS => ?_)
            obtain ⟨rfl, rfl, rfl⟩ := hp15
            try dsimp only [Option.toList, List.cons_append, List.nil_append]
            refine stk_i (v := ((σ 2) 0)) (by first | (rw [(show (snS (s2 σ 0 0 0)) 2 = (σ 2) from ((snS_ne _ (by decide) (by decide)).trans (s2_nk _ _ _ (by omega))))]; done) | (rw [(show (snS (s2 σ 0 0 0)) 2 = (σ 2) from ((snS_ne _ (by decide) (by decide)).trans (s2_nk _ _ _ (by omega))))]; rfl)) ?_
            refine lv_istore (lv' := [(6, .int ((σ 2) 0)), (5, .int (610 + (9 * ((σ 2) 609)))), (4, .int ((σ 2) 609)), (0, .ref (ad 0)), (1, .int q), (2, .int du), (3, .int n)]) hx hb dX9_deliver_110 hl (by decide) rfl (fun ls hl => ?_)
            refine lv_aload_n hx hb dX9_deliver_112 rfl (lv_at hl 3 rfl) ?_
            refine fgetx hx hb ht inG9 hown hK hP (k := 0) (by decide) (x := ((snS (s2 σ 0 0 0)) 0)) rfl (sm_obj _ _) rfl 12 (by decide) gw_951 (v := .ref (ad 2)) rfl dX9_deliver_113 ?_
            refine lv_iload hx hb dX9_deliver_116 (lv_at hl 1 rfl) ?_
            refine lv_iconst (v := 0) hx hb dX9_deliver_118 (by decide) ?_
            refine lv_iadd hx hb dX9_deliver_119 ?_
            refine lv_iload_n hx hb dX9_deliver_120 rfl (lv_at hl 4 rfl) ?_
            refine astj hx hb hK hP hI hS (k := 2) (by decide) 0 (fun f => sm_now f _ ) rfl (by rw [ixD (J := 0) 0 rfl rfl v30]; exact vp_in_nI (by omega) (by decide)) (j := (610 + 9 * (σ 2 609).toNatClampNeg + 0)) (by rw [ixD (J := 0) 0 rfl rfl v30]; exact nI_clamp (by omega)) dX9_deliver_121 (fun H locs hP hS => ?_)
            refine lv_aload_n hx hb dX9_deliver_122 rfl (lv_at hl 3 rfl) ?_
            refine fgetx hx hb ht inG9 hown hK hP (k := 0) (by decide) (x := ((snS (s2 σ 0 0 0)) 0)) (s2_nk _ _ _ (by omega)) (sm_obj _ _) rfl 12 (by decide) gw_951 (v := .ref (ad 2)) rfl dX9_deliver_123 ?_
            refine lv_iload hx hb dX9_deliver_126 (lv_at hl 1 rfl) ?_
            refine lv_iconst (v := 1) hx hb dX9_deliver_128 (by decide) ?_
            refine lv_iadd hx hb dX9_deliver_129 ?_
            refine lv_iload_n hx hb dX9_deliver_130 rfl (lv_at hl 5 rfl) ?_
            refine astj hx hb hK hP hI hS (k := 2) (by decide) 0 (fun f => sm_now f _ ) rfl (by rw [ixD (J := 1) 1 rfl rfl v30]; exact vp_in_nI (by omega) (by decide)) (j := (610 + 9 * (σ 2 609).toNatClampNeg + 1)) (by rw [ixD (J := 1) 1 rfl rfl v30]; exact nI_clamp (by omega)) dX9_deliver_131 (fun H locs hP hS => ?_)
            refine lv_aload_n hx hb dX9_deliver_132 rfl (lv_at hl 3 rfl) ?_
            refine fgetx hx hb ht inG9 hown hK hP (k := 0) (by decide) (x := ((snS (s2 σ 0 0 0)) 0)) ((s2_nk _ _ _ (by omega)).trans (s2_nk _ _ _ (by omega))) (sm_obj _ _) rfl 12 (by decide) gw_951 (v := .ref (ad 2)) rfl dX9_deliver_133 ?_
            refine lv_iload hx hb dX9_deliver_136 (lv_at hl 1 rfl) ?_
            refine lv_iconst (v := 2) hx hb dX9_deliver_138 (by decide) ?_
            refine lv_iadd hx hb dX9_deliver_139 ?_
            refine lv_aload_n hx hb dX9_deliver_140 rfl (lv_at hl 3 rfl) ?_
            refine callv (y := yX9_month) ⟨hx, hb, hml, hown, ht⟩ hK hN hP hS (k := 0) (c_X9_month l D ca ad hI (s2 (s2 (snS (s2 σ 0 0 0)) 2 (610 + 9 * (σ 2 609).toNatClampNeg + 0) q) 2 (610 + 9 * (σ 2 609).toNatClampNeg + 1) du) τ ) (by decide) (sm_obj _ _) rfl ok_X9_month gw_1089 ⟨by decide, by decide⟩ rfl hl.1 rfl (Nat.le_of_ble_eq_true rfl) ⟨by decide, by decide⟩ dX9_deliver_141 (fun v_ S_ T_ H locs hp16 hP hS => ?_)
            obtain ⟨rfl, rfl, rfl⟩ := hp16
            try dsimp only [Option.toList, List.cons_append, List.nil_append]
            refine stk_i (v := σ 2 0) (by rw [s2_nj _ _ _ (by omega), s2_nj _ _ _ (by omega), snS_ne _ (by decide) (by decide), s2_nk _ _ _ (by decide)]) ?_
            refine astj hx hb hK hP hI hS (k := 2) (by decide) 0 (fun f => sm_now f _ ) rfl (by rw [ixD (J := 2) 2 rfl rfl v30]; exact vp_in_nI (by omega) (by decide)) (j := (610 + 9 * (σ 2 609).toNatClampNeg + 2)) (by rw [ixD (J := 2) 2 rfl rfl v30]; exact nI_clamp (by omega)) dX9_deliver_144 (fun H locs hP hS => ?_)
            refine lv_aload_n hx hb dX9_deliver_145 rfl (lv_at hl 3 rfl) ?_
            refine fgetx hx hb ht inG9 hown hK hP (k := 0) (by decide) (x := ((snS (s2 σ 0 0 0)) 0)) ((s2_nk _ _ _ (by omega)).trans ((s2_nk _ _ _ (by omega)).trans (s2_nk _ _ _ (by omega)))) (sm_obj _ _) rfl 12 (by decide) gw_951 (v := .ref (ad 2)) rfl dX9_deliver_146 ?_
            refine lv_iload hx hb dX9_deliver_149 (lv_at hl 1 rfl) ?_
            refine lv_iconst (v := 3) hx hb dX9_deliver_151 (by decide) ?_
            refine lv_iadd hx hb dX9_deliver_152 ?_
            refine lv_iload_n hx hb dX9_deliver_153 rfl (lv_at hl 6 rfl) ?_
            refine astj hx hb hK hP hI hS (k := 2) (by decide) 0 (fun f => sm_now f _ ) rfl (by rw [ixD (J := 3) 3 rfl rfl v30]; exact vp_in_nI (by omega) (by decide)) (j := (610 + 9 * (σ 2 609).toNatClampNeg + 3)) (by rw [ixD (J := 3) 3 rfl rfl v30]; exact nI_clamp (by omega)) dX9_deliver_154 (fun H locs hP hS => ?_)
            refine lv_aload_n hx hb dX9_deliver_155 rfl (lv_at hl 3 rfl) ?_
            refine fgetx hx hb ht inG9 hown hK hP (k := 0) (by decide) (x := ((snS (s2 σ 0 0 0)) 0)) ((s2_nk _ _ _ (by omega)).trans ((s2_nk _ _ _ (by omega)).trans ((s2_nk _ _ _ (by omega)).trans (s2_nk _ _ _ (by omega))))) (sm_obj _ _) rfl 12 (by decide) gw_951 (v := .ref (ad 2)) rfl dX9_deliver_156 ?_
            refine lv_iload hx hb dX9_deliver_159 (lv_at hl 1 rfl) ?_
            refine lv_iconst (v := 4) hx hb dX9_deliver_161 (by decide) ?_
            refine lv_iadd hx hb dX9_deliver_162 ?_
            refine lv_iload hx hb dX9_deliver_163 (lv_at hl 0 rfl) ?_
            refine astj hx hb hK hP hI hS (k := 2) (by decide) 0 (fun f => sm_now f _ ) rfl (by rw [ixD (J := 4) 4 rfl rfl v30]; exact vp_in_nI (by omega) (by decide)) (j := (610 + 9 * (σ 2 609).toNatClampNeg + 4)) (by rw [ixD (J := 4) 4 rfl rfl v30]; exact nI_clamp (by omega)) dX9_deliver_165 (fun H locs hP hS => ?_)
            refine lv_aload_n hx hb dX9_deliver_166 rfl (lv_at hl 3 rfl) ?_
            refine fgetx hx hb ht inG9 hown hK hP (k := 0) (by decide) (x := ((snS (s2 σ 0 0 0)) 0)) ((s2_nk _ _ _ (by omega)).trans ((s2_nk _ _ _ (by omega)).trans ((s2_nk _ _ _ (by omega)).trans ((s2_nk _ _ _ (by omega)).trans (s2_nk _ _ _ (by omega)))))) (sm_obj _ _) rfl 12 (by decide) gw_951 (v := .ref (ad 2)) rfl dX9_deliver_167 ?_
            refine lv_iload hx hb dX9_deliver_170 (lv_at hl 1 rfl) ?_
            refine lv_iconst (v := 5) hx hb dX9_deliver_172 (by decide) ?_
            refine lv_iadd hx hb dX9_deliver_173 ?_
            have hag : ∀ j, j < 610 + 9 * (σ 2 609).toNatClampNeg → (s2 (s2 (s2 (s2 (s2 (snS (s2 σ 0 0 0)) 2 (610 + 9 * (σ 2 609).toNatClampNeg + 0) q) 2 (610 + 9 * (σ 2 609).toNatClampNeg + 1) du) 2 (610 + 9 * (σ 2 609).toNatClampNeg + 2) (σ 2 0)) 2 (610 + 9 * (σ 2 609).toNatClampNeg + 3) n) 2 (610 + 9 * (σ 2 609).toNatClampNeg + 4) ((σ 2) 0)) 2 j = σ 2 j := fun j hj => by rw [s2_nj _ _ _ (by omega), s2_nj _ _ _ (by omega), s2_nj _ _ _ (by omega), s2_nj _ _ _ (by omega), s2_nj _ _ _ (by omega), snS_ne _ (by decide) (by decide), s2_nk _ _ _ (by decide)]
            have hA : mDvA (σ 2) q du = ((σ 2) 0) := by simp only [mDvA, c14, ↓reduceIte]
            refine lv_aload_n hx hb dX9_deliver_174 rfl (lv_at hl 3 rfl) ?_
            refine lv_iload_n hx hb dX9_deliver_175 rfl (lv_at hl 4 rfl) ?_
            refine lv_iload hx hb dX9_deliver_176 (lv_at hl 0 rfl) ?_
            refine callv (y := yX9_priceOf) ⟨hx, hb, hml, hown, ht⟩ hK hN hP hS (k := 0) (c_X9_priceOf l D ca ad hI (s2 (s2 (s2 (s2 (s2 (snS (s2 σ 0 0 0)) 2 (610 + 9 * (σ 2 609).toNatClampNeg + 0) q) 2 (610 + 9 * (σ 2 609).toNatClampNeg + 1) du) 2 (610 + 9 * (σ 2 609).toNatClampNeg + 2) (σ 2 0)) 2 (610 + 9 * (σ 2 609).toNatClampNeg + 3) n) 2 (610 + 9 * (σ 2 609).toNatClampNeg + 4) ((σ 2) 0)) τ q ((σ 2) 0) rfl vq (vpI v0) (vpL v0) (RI_agree hR hag) (by rw [hag _ (by omega)]; exact hC) (by rw [hag _ (by omega)]; exact hn9)) (by decide) (sm_obj _ _) rfl ok_X9_priceOf gw_1174 ⟨by decide, by decide⟩ rfl hl.1 rfl (Nat.le_of_ble_eq_true rfl) ⟨by decide, by decide⟩ dX9_deliver_178 (fun v_ S_ T_ H locs hp17 hP hS => ?_)
            obtain ⟨rfl, rfl, rfl⟩ := hp17
            try dsimp only [Option.toList, List.cons_append, List.nil_append]
            refine stk_i (v := mPri (σ 2) q.toNatClampNeg ((σ 2 0).toNatClampNeg + 1)) (mPri_agree hR hC (vpL v0) hn9 (fun j hj => hag j (by omega))).1 ?_
            refine astj hx hb hK hP hI hS (k := 2) (by decide) 0 (fun f => sm_now f _ ) rfl (by rw [ixD (J := 5) 5 rfl rfl v30]; exact vp_in_nI (by omega) (by decide)) (j := (610 + 9 * (σ 2 609).toNatClampNeg + 5)) (by rw [ixD (J := 5) 5 rfl rfl v30]; exact nI_clamp (by omega)) dX9_deliver_181 (fun H locs hP hS => ?_)
            refine lv_aload_n hx hb dX9_deliver_182 rfl (lv_at hl 3 rfl) ?_
            refine fgetx hx hb ht inG9 hown hK hP (k := 0) (by decide) (x := ((snS (s2 σ 0 0 0)) 0)) ((s2_nk _ _ _ (by omega)).trans ((s2_nk _ _ _ (by omega)).trans ((s2_nk _ _ _ (by omega)).trans ((s2_nk _ _ _ (by omega)).trans ((s2_nk _ _ _ (by omega)).trans (s2_nk _ _ _ (by omega))))))) (sm_obj _ _) rfl 12 (by decide) gw_951 (v := .ref (ad 2)) rfl dX9_deliver_183 ?_
            refine lv_iload hx hb dX9_deliver_186 (lv_at hl 1 rfl) ?_
            refine lv_bipush (v := 6) hx hb dX9_deliver_188 (by decide) ?_
            refine lv_iadd hx hb dX9_deliver_190 ?_
            refine lv_iconst (v := 0) hx hb dX9_deliver_191 (by decide) ?_
            refine astj hx hb hK hP hI hS (k := 2) (by decide) 0 (fun f => sm_now f _ ) rfl (by rw [ixD (J := 6) 6 rfl rfl v30]; exact vp_in_nI (by omega) (by decide)) (j := (610 + 9 * (σ 2 609).toNatClampNeg + 6)) (by rw [ixD (J := 6) 6 rfl rfl v30]; exact nI_clamp (by omega)) dX9_deliver_192 (fun H locs hP hS => ?_)
            refine lv_aload_n hx hb dX9_deliver_193 rfl (lv_at hl 3 rfl) ?_
            refine fgetx hx hb ht inG9 hown hK hP (k := 0) (by decide) (x := ((snS (s2 σ 0 0 0)) 0)) ((s2_nk _ _ _ (by omega)).trans ((s2_nk _ _ _ (by omega)).trans ((s2_nk _ _ _ (by omega)).trans ((s2_nk _ _ _ (by omega)).trans ((s2_nk _ _ _ (by omega)).trans ((s2_nk _ _ _ (by omega)).trans (s2_nk _ _ _ (by omega)))))))) (sm_obj _ _) rfl 12 (by decide) gw_951 (v := .ref (ad 2)) rfl dX9_deliver_194 ?_
            refine lv_iload hx hb dX9_deliver_197 (lv_at hl 1 rfl) ?_
            refine lv_bipush (v := 7) hx hb dX9_deliver_199 (by decide) ?_
            refine lv_iadd hx hb dX9_deliver_201 ?_
            refine lv_iconst (v := -1) hx hb dX9_deliver_202 (by decide) ?_
            refine astj hx hb hK hP hI hS (k := 2) (by decide) 0 (fun f => sm_now f _ ) rfl (by rw [ixD (J := 7) 7 rfl rfl v30]; exact vp_in_nI (by omega) (by decide)) (j := (610 + 9 * (σ 2 609).toNatClampNeg + 7)) (by rw [ixD (J := 7) 7 rfl rfl v30]; exact nI_clamp (by omega)) dX9_deliver_203 (fun H locs hP hS => ?_)
            refine lv_aload_n hx hb dX9_deliver_204 rfl (lv_at hl 3 rfl) ?_
            refine fgetx hx hb ht inG9 hown hK hP (k := 0) (by decide) (x := ((snS (s2 σ 0 0 0)) 0)) ((s2_nk _ _ _ (by omega)).trans ((s2_nk _ _ _ (by omega)).trans ((s2_nk _ _ _ (by omega)).trans ((s2_nk _ _ _ (by omega)).trans ((s2_nk _ _ _ (by omega)).trans ((s2_nk _ _ _ (by omega)).trans ((s2_nk _ _ _ (by omega)).trans (s2_nk _ _ _ (by omega))))))))) (sm_obj _ _) rfl 12 (by decide) gw_951 (v := .ref (ad 2)) rfl dX9_deliver_205 ?_
            refine lv_iload hx hb dX9_deliver_208 (lv_at hl 1 rfl) ?_
            refine lv_bipush (v := 8) hx hb dX9_deliver_210 (by decide) ?_
            refine lv_iadd hx hb dX9_deliver_212 ?_
            refine lv_iconst (v := 0) hx hb dX9_deliver_213 (by decide) ?_
            refine astj hx hb hK hP hI hS (k := 2) (by decide) 0 (fun f => sm_now f _ ) rfl (by rw [ixD (J := 8) 8 rfl rfl v30]; exact vp_in_nI (by omega) (by decide)) (j := (610 + 9 * (σ 2 609).toNatClampNeg + 8)) (by rw [ixD (J := 8) 8 rfl rfl v30]; exact nI_clamp (by omega)) dX9_deliver_214 (fun H locs hP hS => ?_)
            refine lv_aload_n hx hb dX9_deliver_215 rfl (lv_at hl 3 rfl) ?_
            refine fgetx hx hb ht inG9 hown hK hP (k := 0) (by decide) (x := ((snS (s2 σ 0 0 0)) 0)) ((s2_nk _ _ _ (by omega)).trans ((s2_nk _ _ _ (by omega)).trans ((s2_nk _ _ _ (by omega)).trans ((s2_nk _ _ _ (by omega)).trans ((s2_nk _ _ _ (by omega)).trans ((s2_nk _ _ _ (by omega)).trans ((s2_nk _ _ _ (by omega)).trans ((s2_nk _ _ _ (by omega)).trans (s2_nk _ _ _ (by omega)))))))))) (sm_obj _ _) rfl 12 (by decide) gw_951 (v := .ref (ad 2)) rfl dX9_deliver_216 ?_
            refine lv_sipush (v := 609) hx hb dX9_deliver_219 (by decide) ?_
            refine lv_dup2_11 hx hb dX9_deliver_222 rfl rfl ?_
            refine aldj hx hb hK hP (k := 2) (by decide) (x := (upd (upd (upd (upd (upd (upd (upd (upd (upd (σ 2) (610 + 9 * (σ 2 609).toNatClampNeg + 0) q) (610 + 9 * (σ 2 609).toNatClampNeg + 1) du) (610 + 9 * (σ 2 609).toNatClampNeg + 2) (σ 2 0)) (610 + 9 * (σ 2 609).toNatClampNeg + 3) n) (610 + 9 * (σ 2 609).toNatClampNeg + 4) ((σ 2) 0)) (610 + 9 * (σ 2 609).toNatClampNeg + 5) (mPri (σ 2) q.toNatClampNeg ((σ 2 0).toNatClampNeg + 1))) (610 + 9 * (σ 2 609).toNatClampNeg + 6) 0) (610 + 9 * (σ 2 609).toNatClampNeg + 7) (-1)) (610 + 9 * (σ 2 609).toNatClampNeg + 8) 0)) ((s2_k _ _ _ _).trans (congrArg (fun f => upd f (610 + 9 * (σ 2 609).toNatClampNeg + 8) 0) ((s2_k _ _ _ _).trans (congrArg (fun f => upd f (610 + 9 * (σ 2 609).toNatClampNeg + 7) (-1)) ((s2_k _ _ _ _).trans (congrArg (fun f => upd f (610 + 9 * (σ 2 609).toNatClampNeg + 6) 0) ((s2_k _ _ _ _).trans (congrArg (fun f => upd f (610 + 9 * (σ 2 609).toNatClampNeg + 5) (mPri (σ 2) q.toNatClampNeg ((σ 2 0).toNatClampNeg + 1))) ((s2_k _ _ _ _).trans (congrArg (fun f => upd f (610 + 9 * (σ 2 609).toNatClampNeg + 4) ((σ 2) 0)) ((s2_k _ _ _ _).trans (congrArg (fun f => upd f (610 + 9 * (σ 2 609).toNatClampNeg + 3) n) ((s2_k _ _ _ _).trans (congrArg (fun f => upd f (610 + 9 * (σ 2 609).toNatClampNeg + 2) (σ 2 0)) ((s2_k _ _ _ _).trans (congrArg (fun f => upd f (610 + 9 * (σ 2 609).toNatClampNeg + 1) du) ((s2_k _ _ _ _).trans (congrArg (fun f => upd f (610 + 9 * (σ 2 609).toNatClampNeg + 0) q) ((snS_ne _ (by decide) (by decide)).trans (s2_nk _ _ _ (by omega))))))))))))))))))))) 0 (sm_now _ _) rfl (by rw [vp_in_iff]; decide) (j := 609) rfl dX9_deliver_223 ?_
            refine stk_i (v := σ 2 609) (by simp only [upd]; rw [if_neg (by omega)]; rw [if_neg (by omega)]; rw [if_neg (by omega)]; rw [if_neg (by omega)]; rw [if_neg (by omega)]; rw [if_neg (by omega)]; rw [if_neg (by omega)]; rw [if_neg (by omega)]; rw [if_neg (by omega)]) ?_
            refine lv_iconst (v := 1) hx hb dX9_deliver_224 (by decide) ?_
            refine lv_iadd hx hb dX9_deliver_225 ?_
            refine astj hx hb hK hP hI hS (k := 2) (by decide) 0 (fun f => sm_now f _ ) rfl (by rw [vp_in_iff]; decide) (j := 609) rfl dX9_deliver_226 (fun H locs hP hS => ?_)
            refine lv_iload hx hb dX9_deliver_227 (lv_at hl 2 rfl) ?_
            exact ret_i hx hb hr hlk hP hS dX9_deliver_229 (⟨by simp only [mDvR, mDvC, c2, c6, c8, c9, c14, ↓reduceIte, Bool.false_eq_true], by simp only [mDvM, mDvC, c2, c6, c8, c9, c14, ↓reduceIte, Bool.false_eq_true, hA]; rfl, rfl⟩)
          · have dc14 := c14
            rw [i_lt] at dc14
            refine lv_iload_n hx hb dX9_deliver_102 rfl (lv_at hl 4 rfl) ?_
            refine lv_goto (tgt := 110) hx hb dX9_deliver_103 (by decide) ?_
            refine lv_istore (lv' := [(6, .int du), (5, .int (610 + (9 * ((σ 2) 609)))), (4, .int ((σ 2) 609)), (0, .ref (ad 0)), (1, .int q), (2, .int du), (3, .int n)]) hx hb dX9_deliver_110 hl (by decide) rfl (fun ls hl => ?_)
            refine lv_aload_n hx hb dX9_deliver_112 rfl (lv_at hl 3 rfl) ?_
            refine fgetx hx hb ht inG9 hown hK hP (k := 0) (by decide) (x := ((snS (s2 σ 0 0 0)) 0)) rfl (sm_obj _ _) rfl 12 (by decide) gw_951 (v := .ref (ad 2)) rfl dX9_deliver_113 ?_
            refine lv_iload hx hb dX9_deliver_116 (lv_at hl 1 rfl) ?_
            refine lv_iconst (v := 0) hx hb dX9_deliver_118 (by decide) ?_
            refine lv_iadd hx hb dX9_deliver_119 ?_
            refine lv_iload_n hx hb dX9_deliver_120 rfl (lv_at hl 4 rfl) ?_
            refine astj hx hb hK hP hI hS (k := 2) (by decide) 0 (fun f => sm_now f _ ) rfl (by rw [ixD (J := 0) 0 rfl rfl v30]; exact vp_in_nI (by omega) (by decide)) (j := (610 + 9 * (σ 2 609).toNatClampNeg + 0)) (by rw [ixD (J := 0) 0 rfl rfl v30]; exact nI_clamp (by omega)) dX9_deliver_121 (fun H locs hP hS => ?_)
            refine lv_aload_n hx hb dX9_deliver_122 rfl (lv_at hl 3 rfl) ?_
            refine fgetx hx hb ht inG9 hown hK hP (k := 0) (by decide) (x := ((snS (s2 σ 0 0 0)) 0)) (s2_nk _ _ _ (by omega)) (sm_obj _ _) rfl 12 (by decide) gw_951 (v := .ref (ad 2)) rfl dX9_deliver_123 ?_
            refine lv_iload hx hb dX9_deliver_126 (lv_at hl 1 rfl) ?_
            refine lv_iconst (v := 1) hx hb dX9_deliver_128 (by decide) ?_
            refine lv_iadd hx hb dX9_deliver_129 ?_
            refine lv_iload_n hx hb dX9_deliver_130 rfl (lv_at hl 5 rfl) ?_
            refine astj hx hb hK hP hI hS (k := 2) (by decide) 0 (fun f => sm_now f _ ) rfl (by rw [ixD (J := 1) 1 rfl rfl v30]; exact vp_in_nI (by omega) (by decide)) (j := (610 + 9 * (σ 2 609).toNatClampNeg + 1)) (by rw [ixD (J := 1) 1 rfl rfl v30]; exact nI_clamp (by omega)) dX9_deliver_131 (fun H locs hP hS => ?_)
            refine lv_aload_n hx hb dX9_deliver_132 rfl (lv_at hl 3 rfl) ?_
            refine fgetx hx hb ht inG9 hown hK hP (k := 0) (by decide) (x := ((snS (s2 σ 0 0 0)) 0)) ((s2_nk _ _ _ (by omega)).trans (s2_nk _ _ _ (by omega))) (sm_obj _ _) rfl 12 (by decide) gw_951 (v := .ref (ad 2)) rfl dX9_deliver_133 ?_
            refine lv_iload hx hb dX9_deliver_136 (lv_at hl 1 rfl) ?_
            refine lv_iconst (v := 2) hx hb dX9_deliver_138 (by decide) ?_
            refine lv_iadd hx hb dX9_deliver_139 ?_
            refine lv_aload_n hx hb dX9_deliver_140 rfl (lv_at hl 3 rfl) ?_
            refine callv (y := yX9_month) ⟨hx, hb, hml, hown, ht⟩ hK hN hP hS (k := 0) (c_X9_month l D ca ad hI (s2 (s2 (snS (s2 σ 0 0 0)) 2 (610 + 9 * (σ 2 609).toNatClampNeg + 0) q) 2 (610 + 9 * (σ 2 609).toNatClampNeg + 1) du) τ ) (by decide) (sm_obj _ _) rfl ok_X9_month gw_1089 ⟨by decide, by decide⟩ rfl hl.1 rfl (Nat.le_of_ble_eq_true rfl) ⟨by decide, by decide⟩ dX9_deliver_141 (fun v_ S_ T_ H locs hp18 hP hS => ?_)
            obtain ⟨rfl, rfl, rfl⟩ := hp18
            try dsimp only [Option.toList, List.cons_append, List.nil_append]
            refine stk_i (v := σ 2 0) (by rw [s2_nj _ _ _ (by omega), s2_nj _ _ _ (by omega), snS_ne _ (by decide) (by decide), s2_nk _ _ _ (by decide)]) ?_
            refine astj hx hb hK hP hI hS (k := 2) (by decide) 0 (fun f => sm_now f _ ) rfl (by rw [ixD (J := 2) 2 rfl rfl v30]; exact vp_in_nI (by omega) (by decide)) (j := (610 + 9 * (σ 2 609).toNatClampNeg + 2)) (by rw [ixD (J := 2) 2 rfl rfl v30]; exact nI_clamp (by omega)) dX9_deliver_144 (fun H locs hP hS => ?_)
            refine lv_aload_n hx hb dX9_deliver_145 rfl (lv_at hl 3 rfl) ?_
            refine fgetx hx hb ht inG9 hown hK hP (k := 0) (by decide) (x := ((snS (s2 σ 0 0 0)) 0)) ((s2_nk _ _ _ (by omega)).trans ((s2_nk _ _ _ (by omega)).trans (s2_nk _ _ _ (by omega)))) (sm_obj _ _) rfl 12 (by decide) gw_951 (v := .ref (ad 2)) rfl dX9_deliver_146 ?_
            refine lv_iload hx hb dX9_deliver_149 (lv_at hl 1 rfl) ?_
            refine lv_iconst (v := 3) hx hb dX9_deliver_151 (by decide) ?_
            refine lv_iadd hx hb dX9_deliver_152 ?_
            refine lv_iload_n hx hb dX9_deliver_153 rfl (lv_at hl 6 rfl) ?_
            refine astj hx hb hK hP hI hS (k := 2) (by decide) 0 (fun f => sm_now f _ ) rfl (by rw [ixD (J := 3) 3 rfl rfl v30]; exact vp_in_nI (by omega) (by decide)) (j := (610 + 9 * (σ 2 609).toNatClampNeg + 3)) (by rw [ixD (J := 3) 3 rfl rfl v30]; exact nI_clamp (by omega)) dX9_deliver_154 (fun H locs hP hS => ?_)
            refine lv_aload_n hx hb dX9_deliver_155 rfl (lv_at hl 3 rfl) ?_
            refine fgetx hx hb ht inG9 hown hK hP (k := 0) (by decide) (x := ((snS (s2 σ 0 0 0)) 0)) ((s2_nk _ _ _ (by omega)).trans ((s2_nk _ _ _ (by omega)).trans ((s2_nk _ _ _ (by omega)).trans (s2_nk _ _ _ (by omega))))) (sm_obj _ _) rfl 12 (by decide) gw_951 (v := .ref (ad 2)) rfl dX9_deliver_156 ?_
            refine lv_iload hx hb dX9_deliver_159 (lv_at hl 1 rfl) ?_
            refine lv_iconst (v := 4) hx hb dX9_deliver_161 (by decide) ?_
            refine lv_iadd hx hb dX9_deliver_162 ?_
            refine lv_iload hx hb dX9_deliver_163 (lv_at hl 0 rfl) ?_
            refine astj hx hb hK hP hI hS (k := 2) (by decide) 0 (fun f => sm_now f _ ) rfl (by rw [ixD (J := 4) 4 rfl rfl v30]; exact vp_in_nI (by omega) (by decide)) (j := (610 + 9 * (σ 2 609).toNatClampNeg + 4)) (by rw [ixD (J := 4) 4 rfl rfl v30]; exact nI_clamp (by omega)) dX9_deliver_165 (fun H locs hP hS => ?_)
            refine lv_aload_n hx hb dX9_deliver_166 rfl (lv_at hl 3 rfl) ?_
            refine fgetx hx hb ht inG9 hown hK hP (k := 0) (by decide) (x := ((snS (s2 σ 0 0 0)) 0)) ((s2_nk _ _ _ (by omega)).trans ((s2_nk _ _ _ (by omega)).trans ((s2_nk _ _ _ (by omega)).trans ((s2_nk _ _ _ (by omega)).trans (s2_nk _ _ _ (by omega)))))) (sm_obj _ _) rfl 12 (by decide) gw_951 (v := .ref (ad 2)) rfl dX9_deliver_167 ?_
            refine lv_iload hx hb dX9_deliver_170 (lv_at hl 1 rfl) ?_
            refine lv_iconst (v := 5) hx hb dX9_deliver_172 (by decide) ?_
            refine lv_iadd hx hb dX9_deliver_173 ?_
            have hag : ∀ j, j < 610 + 9 * (σ 2 609).toNatClampNeg → (s2 (s2 (s2 (s2 (s2 (snS (s2 σ 0 0 0)) 2 (610 + 9 * (σ 2 609).toNatClampNeg + 0) q) 2 (610 + 9 * (σ 2 609).toNatClampNeg + 1) du) 2 (610 + 9 * (σ 2 609).toNatClampNeg + 2) (σ 2 0)) 2 (610 + 9 * (σ 2 609).toNatClampNeg + 3) n) 2 (610 + 9 * (σ 2 609).toNatClampNeg + 4) du) 2 j = σ 2 j := fun j hj => by rw [s2_nj _ _ _ (by omega), s2_nj _ _ _ (by omega), s2_nj _ _ _ (by omega), s2_nj _ _ _ (by omega), s2_nj _ _ _ (by omega), snS_ne _ (by decide) (by decide), s2_nk _ _ _ (by decide)]
            have hA : mDvA (σ 2) q du = du := by simp only [mDvA, c14, ↓reduceIte]
            refine lv_aload_n hx hb dX9_deliver_174 rfl (lv_at hl 3 rfl) ?_
            refine lv_iload_n hx hb dX9_deliver_175 rfl (lv_at hl 4 rfl) ?_
            refine lv_iload hx hb dX9_deliver_176 (lv_at hl 0 rfl) ?_
            refine callv (y := yX9_priceOf) ⟨hx, hb, hml, hown, ht⟩ hK hN hP hS (k := 0) (c_X9_priceOf l D ca ad hI (s2 (s2 (s2 (s2 (s2 (snS (s2 σ 0 0 0)) 2 (610 + 9 * (σ 2 609).toNatClampNeg + 0) q) 2 (610 + 9 * (σ 2 609).toNatClampNeg + 1) du) 2 (610 + 9 * (σ 2 609).toNatClampNeg + 2) (σ 2 0)) 2 (610 + 9 * (σ 2 609).toNatClampNeg + 3) n) 2 (610 + 9 * (σ 2 609).toNatClampNeg + 4) du) τ q du rfl vq (vpI vd) (vpL vd) (RI_agree hR hag) (by rw [hag _ (by omega)]; exact hC) (by rw [hag _ (by omega)]; exact hd9)) (by decide) (sm_obj _ _) rfl ok_X9_priceOf gw_1174 ⟨by decide, by decide⟩ rfl hl.1 rfl (Nat.le_of_ble_eq_true rfl) ⟨by decide, by decide⟩ dX9_deliver_178 (fun v_ S_ T_ H locs hp19 hP hS => ?_)
            obtain ⟨rfl, rfl, rfl⟩ := hp19
            try dsimp only [Option.toList, List.cons_append, List.nil_append]
            refine stk_i (v := mPri (σ 2) q.toNatClampNeg (du.toNatClampNeg + 1)) (mPri_agree hR hC (vpL vd) hd9 (fun j hj => hag j (by omega))).1 ?_
            refine astj hx hb hK hP hI hS (k := 2) (by decide) 0 (fun f => sm_now f _ ) rfl (by rw [ixD (J := 5) 5 rfl rfl v30]; exact vp_in_nI (by omega) (by decide)) (j := (610 + 9 * (σ 2 609).toNatClampNeg + 5)) (by rw [ixD (J := 5) 5 rfl rfl v30]; exact nI_clamp (by omega)) dX9_deliver_181 (fun H locs hP hS => ?_)
            refine lv_aload_n hx hb dX9_deliver_182 rfl (lv_at hl 3 rfl) ?_
            refine fgetx hx hb ht inG9 hown hK hP (k := 0) (by decide) (x := ((snS (s2 σ 0 0 0)) 0)) ((s2_nk _ _ _ (by omega)).trans ((s2_nk _ _ _ (by omega)).trans ((s2_nk _ _ _ (by omega)).trans ((s2_nk _ _ _ (by omega)).trans ((s2_nk _ _ _ (by omega)).trans (s2_nk _ _ _ (by omega))))))) (sm_obj _ _) rfl 12 (by decide) gw_951 (v := .ref (ad 2)) rfl dX9_deliver_183 ?_
            refine lv_iload hx hb dX9_deliver_186 (lv_at hl 1 rfl) ?_
            refine lv_bipush (v := 6) hx hb dX9_deliver_188 (by decide) ?_
            refine lv_iadd hx hb dX9_deliver_190 ?_
            refine lv_iconst (v := 0) hx hb dX9_deliver_191 (by decide) ?_
            refine astj hx hb hK hP hI hS (k := 2) (by decide) 0 (fun f => sm_now f _ ) rfl (by rw [ixD (J := 6) 6 rfl rfl v30]; exact vp_in_nI (by omega) (by decide)) (j := (610 + 9 * (σ 2 609).toNatClampNeg + 6)) (by rw [ixD (J := 6) 6 rfl rfl v30]; exact nI_clamp (by omega)) dX9_deliver_192 (fun H locs hP hS => ?_)
            refine lv_aload_n hx hb dX9_deliver_193 rfl (lv_at hl 3 rfl) ?_
            refine fgetx hx hb ht inG9 hown hK hP (k := 0) (by decide) (x := ((snS (s2 σ 0 0 0)) 0)) ((s2_nk _ _ _ (by omega)).trans ((s2_nk _ _ _ (by omega)).trans ((s2_nk _ _ _ (by omega)).trans ((s2_nk _ _ _ (by omega)).trans ((s2_nk _ _ _ (by omega)).trans ((s2_nk _ _ _ (by omega)).trans (s2_nk _ _ _ (by omega)))))))) (sm_obj _ _) rfl 12 (by decide) gw_951 (v := .ref (ad 2)) rfl dX9_deliver_194 ?_
            refine lv_iload hx hb dX9_deliver_197 (lv_at hl 1 rfl) ?_
            refine lv_bipush (v := 7) hx hb dX9_deliver_199 (by decide) ?_
            refine lv_iadd hx hb dX9_deliver_201 ?_
            refine lv_iconst (v := -1) hx hb dX9_deliver_202 (by decide) ?_
            refine astj hx hb hK hP hI hS (k := 2) (by decide) 0 (fun f => sm_now f _ ) rfl (by rw [ixD (J := 7) 7 rfl rfl v30]; exact vp_in_nI (by omega) (by decide)) (j := (610 + 9 * (σ 2 609).toNatClampNeg + 7)) (by rw [ixD (J := 7) 7 rfl rfl v30]; exact nI_clamp (by omega)) dX9_deliver_203 (fun H locs hP hS => ?_)
            refine lv_aload_n hx hb dX9_deliver_204 rfl (lv_at hl 3 rfl) ?_
            refine fgetx hx hb ht inG9 hown hK hP (k := 0) (by decide) (x := ((snS (s2 σ 0 0 0)) 0)) ((s2_nk _ _ _ (by omega)).trans ((s2_nk _ _ _ (by omega)).trans ((s2_nk _ _ _ (by omega)).trans ((s2_nk _ _ _ (by omega)).trans ((s2_nk _ _ _ (by omega)).trans ((s2_nk _ _ _ (by omega)).trans ((s2_nk _ _ _ (by omega)).trans (s2_nk _ _ _ (by omega))))))))) (sm_obj _ _) rfl 12 (by decide) gw_951 (v := .ref (ad 2)) rfl dX9_deliver_205 ?_
            refine lv_iload hx hb dX9_deliver_208 (lv_at hl 1 rfl) ?_
            refine lv_bipush (v := 8) hx hb dX9_deliver_210 (by decide) ?_
            refine lv_iadd hx hb dX9_deliver_212 ?_
            refine lv_iconst (v := 0) hx hb dX9_deliver_213 (by decide) ?_
            refine astj hx hb hK hP hI hS (k := 2) (by decide) 0 (fun f => sm_now f _ ) rfl (by rw [ixD (J := 8) 8 rfl rfl v30]; exact vp_in_nI (by omega) (by decide)) (j := (610 + 9 * (σ 2 609).toNatClampNeg + 8)) (by rw [ixD (J := 8) 8 rfl rfl v30]; exact nI_clamp (by omega)) dX9_deliver_214 (fun H locs hP hS => ?_)
            refine lv_aload_n hx hb dX9_deliver_215 rfl (lv_at hl 3 rfl) ?_
            refine fgetx hx hb ht inG9 hown hK hP (k := 0) (by decide) (x := ((snS (s2 σ 0 0 0)) 0)) ((s2_nk _ _ _ (by omega)).trans ((s2_nk _ _ _ (by omega)).trans ((s2_nk _ _ _ (by omega)).trans ((s2_nk _ _ _ (by omega)).trans ((s2_nk _ _ _ (by omega)).trans ((s2_nk _ _ _ (by omega)).trans ((s2_nk _ _ _ (by omega)).trans ((s2_nk _ _ _ (by omega)).trans (s2_nk _ _ _ (by omega)))))))))) (sm_obj _ _) rfl 12 (by decide) gw_951 (v := .ref (ad 2)) rfl dX9_deliver_216 ?_
            refine lv_sipush (v := 609) hx hb dX9_deliver_219 (by decide) ?_
            refine lv_dup2_11 hx hb dX9_deliver_222 rfl rfl ?_
            refine aldj hx hb hK hP (k := 2) (by decide) (x := (upd (upd (upd (upd (upd (upd (upd (upd (upd (σ 2) (610 + 9 * (σ 2 609).toNatClampNeg + 0) q) (610 + 9 * (σ 2 609).toNatClampNeg + 1) du) (610 + 9 * (σ 2 609).toNatClampNeg + 2) (σ 2 0)) (610 + 9 * (σ 2 609).toNatClampNeg + 3) n) (610 + 9 * (σ 2 609).toNatClampNeg + 4) du) (610 + 9 * (σ 2 609).toNatClampNeg + 5) (mPri (σ 2) q.toNatClampNeg (du.toNatClampNeg + 1))) (610 + 9 * (σ 2 609).toNatClampNeg + 6) 0) (610 + 9 * (σ 2 609).toNatClampNeg + 7) (-1)) (610 + 9 * (σ 2 609).toNatClampNeg + 8) 0)) ((s2_k _ _ _ _).trans (congrArg (fun f => upd f (610 + 9 * (σ 2 609).toNatClampNeg + 8) 0) ((s2_k _ _ _ _).trans (congrArg (fun f => upd f (610 + 9 * (σ 2 609).toNatClampNeg + 7) (-1)) ((s2_k _ _ _ _).trans (congrArg (fun f => upd f (610 + 9 * (σ 2 609).toNatClampNeg + 6) 0) ((s2_k _ _ _ _).trans (congrArg (fun f => upd f (610 + 9 * (σ 2 609).toNatClampNeg + 5) (mPri (σ 2) q.toNatClampNeg (du.toNatClampNeg + 1))) ((s2_k _ _ _ _).trans (congrArg (fun f => upd f (610 + 9 * (σ 2 609).toNatClampNeg + 4) du) ((s2_k _ _ _ _).trans (congrArg (fun f => upd f (610 + 9 * (σ 2 609).toNatClampNeg + 3) n) ((s2_k _ _ _ _).trans (congrArg (fun f => upd f (610 + 9 * (σ 2 609).toNatClampNeg + 2) (σ 2 0)) ((s2_k _ _ _ _).trans (congrArg (fun f => upd f (610 + 9 * (σ 2 609).toNatClampNeg + 1) du) ((s2_k _ _ _ _).trans (congrArg (fun f => upd f (610 + 9 * (σ 2 609).toNatClampNeg + 0) q) ((snS_ne _ (by decide) (by decide)).trans (s2_nk _ _ _ (by omega))))))))))))))))))))) 0 (sm_now _ _) rfl (by rw [vp_in_iff]; decide) (j := 609) rfl dX9_deliver_223 ?_
            refine stk_i (v := σ 2 609) (by simp only [upd]; rw [if_neg (by omega)]; rw [if_neg (by omega)]; rw [if_neg (by omega)]; rw [if_neg (by omega)]; rw [if_neg (by omega)]; rw [if_neg (by omega)]; rw [if_neg (by omega)]; rw [if_neg (by omega)]; rw [if_neg (by omega)]) ?_
            refine lv_iconst (v := 1) hx hb dX9_deliver_224 (by decide) ?_
            refine lv_iadd hx hb dX9_deliver_225 ?_
            refine astj hx hb hK hP hI hS (k := 2) (by decide) 0 (fun f => sm_now f _ ) rfl (by rw [vp_in_iff]; decide) (j := 609) rfl dX9_deliver_226 (fun H locs hP hS => ?_)
            refine lv_iload hx hb dX9_deliver_227 (lv_at hl 2 rfl) ?_
            exact ret_i hx hb hr hlk hP hS dX9_deliver_229 (⟨by simp only [mDvR, mDvC, c2, c6, c8, c9, c14, ↓reduceIte, Bool.false_eq_true], by simp only [mDvM, mDvC, c2, c6, c8, c9, c14, ↓reduceIte, Bool.false_eq_true, hA]; rfl, rfl⟩)
        · have dc9 := c9
          rw [i_eq] at dc9
          refine lv_bipush (v := -2) hx hb dX9_deliver_56 (by decide) ?_
          exact ret_i hx hb hr hlk hP hS dX9_deliver_58 (⟨by simp only [mDvR, mDvC, c2, c6, c8, (eq_true c9), ↓reduceIte, Bool.false_eq_true], by simp only [mDvM, mDvC, c2, c6, c8, (eq_true c9), ↓reduceIte, Bool.false_eq_true], rfl⟩)
      · refine lv_iconst (v := -1) hx hb dX9_deliver_41 (by decide) ?_
        exact ret_i hx hb hr hlk hP hS dX9_deliver_42 (⟨by simp only [mDvR, mDvC, c2, c6, c8, ↓reduceIte, Bool.false_eq_true], by simp only [mDvM, mDvC, c2, c6, c8, ↓reduceIte, Bool.false_eq_true], rfl⟩)
set_option maxHeartbeats 4000000 in
set_option maxRecDepth 100000 in
theorem lp_X9_close {l : Launch} {D : va_G} {ca : Nat → ClassId} {ad : Nat → Nat} (hI : Inj 6 ad) {σ : MI} {τ : ML} (hR : RI (σ 2)) (h8 : rg (σ 0 16) 0 8) {p : Program} {e : Env} {s : State} {m : MethodId} {args : Array Value} {below : List Frame} {meth : Method} {c : Code} (hx : p.tables.exec = Jvm.exec) (hb : c.code = cX9_close) (hr : meth.sig.returnType = (some .int)) (ht : ∀ w ∈ GG, w.before args s = true) (hown : s.vm.findClass yX9_close.cls = some m.cls) (hlk : meth.locks = false) (hml : c.maxLocals = 4) (hK : va_K D vwCl (TY ca) s) (hN : NW s) : ∀ (n : Nat) (k : Nat) (hk : k ≤ (σ 2 609).toNatClampNeg) (hn : (σ 2 609).toNatClampNeg - k < n) (hz : ¬ σ 2 0 = 35) (a : Int32) (ha : mclN (snS (s2 σ 0 0 0)) k = a) (H : Heap) (locs : List Loc) (hP : PW D 6 ad (mxf ca ad) (mcl (snS (s2 σ 0 0 0)) k) τ H) (hS : va_S (AA 6 ad) s.heap H locs) (ls : Array Slot) (hl : lv_has ls 4 [(2, .int (nI k)), (1, .int a), (0, .ref (ad 0))]), W p l e { frames := 5, cells := 0, slots := 0, locals := 126 } s m args below meth c H locs 0 0 (MQ below (QD D 6 ad (mxf ca ad) (fun v_ S_ T_ => some (.int (mClR σ)) = v_ ∧ (mClM σ) = S_ ∧ τ = T_)) args s 0 0 (AA 6 ad)) (F0 m 24 ls []) := by
  intro n
  induction n with
  | zero => intro k hk hn hz a ha H locs hP hS ls hl; exfalso; omega
  | succ n ih =>
    intro k hk hn hz a ha H locs hP hS ls hl
    have h609 := hR.2.2.2.1
    unfold rg at h609
    have hc := clampI (σ 2 609)
    have ek : (nI k).toInt = k := nI_toInt (by omega)
    have er : (snS (s2 σ 0 0 0)) 2 = σ 2 := by rw [snS_ne _ (by decide) (by decide), s2_nk _ _ _ (by decide)]
    have e609 : (mcl (snS (s2 σ 0 0 0)) k) 2 609 = σ 2 609 := by rw [mcl_lo _ (by omega), er]
    have e00 : (mcl (snS (s2 σ 0 0 0)) k) 2 0 = σ 2 0 := by rw [mcl_lo _ (by omega), er]
    have hRk : RI ((mcl (snS (s2 σ 0 0 0)) k) 2) := mcl_RI (by rw [er]; exact hR) k (by rw [er]; omega)
    refine lv_iload_n hx hb dX9_close_24 rfl (lv_at hl 0 rfl) ?_
    refine lv_aload_n hx hb dX9_close_25 rfl (lv_at hl 2 rfl) ?_
    refine fgetx hx hb ht inG9 hown hK hP (k := 0) (by decide) (x := ((mcl (snS (s2 σ 0 0 0)) k) 0)) rfl (sm_obj _ _) rfl 12 (by decide) gw_951 (v := .ref (ad 2)) rfl dX9_close_26 ?_
    refine lv_sipush (v := 609) hx hb dX9_close_29 (by decide) ?_
    refine aldj hx hb hK hP (k := 2) (by decide) (x := ((mcl (snS (s2 σ 0 0 0)) k) 2)) rfl 0 (sm_now _ _) rfl (by rw [vp_in_iff]; decide) (j := 609) rfl dX9_close_32 ?_
    refine stk_i (v := σ 2 609) e609 ?_
    refine lv_icmp_ge (tgt := 140) hx hb dX9_close_33 (by decide) (fun c1 => ?_) (fun c1 => ?_)
    · have dc1 := c1
      rw [i_le] at dc1
      refine lv_aload_n hx hb dX9_close_140 rfl (lv_at hl 2 rfl) ?_
      refine fgetx hx hb ht inG9 hown hK hP (k := 0) (by decide) (x := ((mcl (snS (s2 σ 0 0 0)) k) 0)) rfl (sm_obj _ _) rfl 12 (by decide) gw_951 (v := .ref (ad 2)) rfl dX9_close_141 ?_
      refine lv_iconst (v := 0) hx hb dX9_close_144 (by decide) ?_
      refine lv_dup2_11 hx hb dX9_close_145 rfl rfl ?_
      refine aldj hx hb hK hP (k := 2) (by decide) (x := ((mcl (snS (s2 σ 0 0 0)) k) 2)) rfl 0 (sm_now _ _) rfl (by rw [vp_in_iff]; decide) (j := 0) rfl dX9_close_146 ?_
      refine stk_i (v := σ 2 0) e00 ?_
      refine lv_iconst (v := 1) hx hb dX9_close_147 (by decide) ?_
      refine lv_iadd hx hb dX9_close_148 ?_
      refine astj hx hb hK hP hI hS (k := 2) (by decide) 0 (fun f => sm_now f _ ) rfl (by rw [vp_in_iff]; decide) (j := 0) rfl dX9_close_149 (fun H locs hP hS => ?_)
      refine lv_iload_n hx hb dX9_close_150 rfl (lv_at hl 1 rfl) ?_
      exact ret_i hx hb hr hlk hP hS dX9_close_151 (⟨by rw [mClR, if_neg hz, ← ha, show (σ 2 609).toNatClampNeg = k by omega], by rw [mClM, if_neg hz, show (σ 2 609).toNatClampNeg = k by omega], rfl⟩)
    · have dc1 := c1
      rw [i_le] at dc1
      have hDk : (k : Int) < ((mcl (snS (s2 σ 0 0 0)) k) 2 609).toInt := by rw [e609]; omega
      have hDI := hRk.del hDk
      have h494 := hRk.2.2.1
      unfold rg at h494
      have hcl := clampI ((mcl (snS (s2 σ 0 0 0)) k) 2 (610 + 9 * k + 0))
      have hca := clampI ((mcl (snS (s2 σ 0 0 0)) k) 2 (610 + 9 * k + 4))
      have hCk : (((mcl (snS (s2 σ 0 0 0)) k) 2 (610 + 9 * k + 0)).toNatClampNeg : Int) < ((mcl (snS (s2 σ 0 0 0)) k) 2 494).toInt := by have := hDI.1; have := hDI.2.1; omega
      have hcb := (hRk.con hCk).2.2.1
      unfold rg at hcb
      have vof : vp_in ((mcl (snS (s2 σ 0 0 0)) k) 2 (610 + 9 * k + 0)) 6 := by have := hDI.1; have := hDI.2.1; rw [vp_in_iff]; omega
      have hof6 := clampN vof
      have vat : vp_in ((mcl (snS (s2 σ 0 0 0)) k) 2 (610 + 9 * k + 4)) 36 := by have := hDI.2.2.1; have := hDI.2.2.2.1; rw [vp_in_iff]; omega
      have hmk : ((mcl (snS (s2 σ 0 0 0)) k) 2 (495 + 19 * ((mcl (snS (s2 σ 0 0 0)) k) 2 (610 + 9 * k + 0)).toNatClampNeg + 2)).toInt < ((((mcl (snS (s2 σ 0 0 0)) k) 2 (610 + 9 * k + 4)).toNatClampNeg + 1 : Nat) : Int) := by have := hDI.2.2.1; omega
      refine lv_aload_n hx hb dX9_close_36 rfl (lv_at hl 2 rfl) ?_
      refine lv_iload_n hx hb dX9_close_37 rfl (lv_at hl 0 rfl) ?_
      refine lv_bipush (v := 6) hx hb dX9_close_38 (by decide) ?_
      refine callv (y := yX9_its) ⟨hx, hb, hml, hown, ht⟩ hK hN hP hS (k := 0) (c_X9_its l D ca ad hI (mcl (snS (s2 σ 0 0 0)) k) τ (nI k) (6 : Int32) (nI_clamp (by omega)) (vp_in_nI (by omega) (by decide)) (show Int32.toNatClampNeg 6 = 6 from rfl) (by rw [vp_in_iff]; decide)) (by decide) (sm_obj _ _) rfl ok_X9_its gw_1097 ⟨by decide, by decide⟩ rfl hl.1 rfl (Nat.le_of_ble_eq_true rfl) ⟨by decide, by decide⟩ dX9_close_40 (fun v_ S_ T_ H locs hp2 hP hS => ?_)
      obtain ⟨rfl, rfl, rfl⟩ := hp2
      try dsimp only [Option.toList, List.cons_append, List.nil_append]
      refine lv_iconst (v := 1) hx hb dX9_close_43 (by decide) ?_
      refine lv_icmp_eq (tgt := 134) hx hb dX9_close_44 (by decide) (fun c3 => ?_) (fun c3 => ?_)
      · have dc3 := c3
        rw [i_eq] at dc3
        refine lv_iinc (v := (nI k) + 1) (lv' := [(2, .int ((nI k) + 1)), (1, .int a), (0, .ref (ad 0))]) hx hb dX9_close_134 hl (k := 0) rfl rfl (by decide) rfl (fun ls hl => ?_)
        refine lv_goto (tgt := 24) hx hb dX9_close_137 (by decide) ?_
        have hC9 : mclC ((mcl (snS (s2 σ 0 0 0)) k) 2) k = false := by simp only [mclC, (eq_true c3), ↓reduceIte]
        rw [nI_1] at hl
        exact ih (k + 1) (by omega) (by omega) hz (a) (by rw [mclN, hC9, ha]; rfl) _ _ (by rw [mcl, hC9]; exact hP) hS ls (lv_sub hl [0, 1, 2] rfl)
      · have dc3 := c3
        rw [i_eq] at dc3
        refine lv_aload_n hx hb dX9_close_47 rfl (lv_at hl 2 rfl) ?_
        refine lv_iload_n hx hb dX9_close_48 rfl (lv_at hl 0 rfl) ?_
        refine callv (y := yX9_waits) ⟨hx, hb, hml, hown, ht⟩ hK hN hP hS (k := 0) (c_X9_waits l D ca ad hI (mcl (snS (s2 σ 0 0 0)) k) τ hRk (nI k) (nI_clamp (by omega)) (vp_in_nI (by omega) (by decide)) hDk) (by decide) (sm_obj _ _) rfl ok_X9_waits gw_1199 ⟨by decide, by decide⟩ rfl hl.1 rfl (Nat.le_of_ble_eq_true rfl) ⟨by decide, by decide⟩ dX9_close_49 (fun v_ S_ T_ H locs hp4 hP hS => ?_)
        obtain ⟨rfl, rfl, rfl⟩ := hp4
        try dsimp only [Option.toList, List.cons_append, List.nil_append]
        refine lv_if_eq (tgt := 58) hx hb dX9_close_52 (by decide) (fun c5 => ?_) (fun c5 => ?_)
        · have dc5 := c5
          rw [i_eq] at dc5
          refine lv_sipush (v := 610) hx hb dX9_close_58 (by decide) ?_
          refine lv_bipush (v := 9) hx hb dX9_close_61 (by decide) ?_
          refine lv_iload_n hx hb dX9_close_63 rfl (lv_at hl 0 rfl) ?_
          refine lv_imul hx hb dX9_close_64 ?_
          refine lv_iadd hx hb dX9_close_65 ?_
          refine lv_istore_n (lv' := [(3, .int (610 + (9 * (nI k)))), (2, .int (nI k)), (1, .int a), (0, .ref (ad 0))]) hx hb dX9_close_66 rfl hl (by decide) rfl (fun ls hl => ?_)
          refine lv_aload_n hx hb dX9_close_67 rfl (lv_at hl 3 rfl) ?_
          refine fgetx hx hb ht inG9 hown hK hP (k := 0) (by decide) (x := ((mcl (snS (s2 σ 0 0 0)) k) 0)) rfl (sm_obj _ _) rfl 12 (by decide) gw_951 (v := .ref (ad 2)) rfl dX9_close_68 ?_
          refine lv_iload_n hx hb dX9_close_71 rfl (lv_at hl 0 rfl) ?_
          refine lv_bipush (v := 6) hx hb dX9_close_72 (by decide) ?_
          refine lv_iadd hx hb dX9_close_74 ?_
          refine lv_iconst (v := 1) hx hb dX9_close_75 (by decide) ?_
          refine astj hx hb hK hP hI hS (k := 2) (by decide) 0 (fun f => sm_now f _ ) rfl (by rw [ixD (J := 6) 6 rfl (nI_clamp (n := k) (by omega)) (vp_in_nI (by omega) (by decide))]; exact vp_in_nI (by omega) (by decide)) (j := (610 + 9 * k + 6)) (by rw [ixD (J := 6) 6 rfl (nI_clamp (by omega)) (vp_in_nI (by omega) (by decide))]; exact nI_clamp (by omega)) dX9_close_76 (fun H locs hP hS => ?_)
          refine lv_aload_n hx hb dX9_close_77 rfl (lv_at hl 3 rfl) ?_
          refine fgetx hx hb ht inG9 hown hK hP (k := 0) (by decide) (x := ((mcl (snS (s2 σ 0 0 0)) k) 0)) (s2_nk _ _ _ (by omega)) (sm_obj _ _) rfl 12 (by decide) gw_951 (v := .ref (ad 2)) rfl dX9_close_78 ?_
          refine lv_iload_n hx hb dX9_close_81 rfl (lv_at hl 0 rfl) ?_
          refine lv_bipush (v := 7) hx hb dX9_close_82 (by decide) ?_
          refine lv_iadd hx hb dX9_close_84 ?_
          refine lv_aload_n hx hb dX9_close_85 rfl (lv_at hl 3 rfl) ?_
          refine callv (y := yX9_month) ⟨hx, hb, hml, hown, ht⟩ hK hN hP hS (k := 0) (c_X9_month l D ca ad hI (s2 (mcl (snS (s2 σ 0 0 0)) k) 2 (610 + 9 * k + 6) 1) τ ) (by decide) (sm_obj _ _) rfl ok_X9_month gw_1089 ⟨by decide, by decide⟩ rfl hl.1 rfl (Nat.le_of_ble_eq_true rfl) ⟨by decide, by decide⟩ dX9_close_86 (fun v_ S_ T_ H locs hp6 hP hS => ?_)
          obtain ⟨rfl, rfl, rfl⟩ := hp6
          try dsimp only [Option.toList, List.cons_append, List.nil_append]
          refine stk_i (v := (mcl (snS (s2 σ 0 0 0)) k) 2 0) (by rw [s2_nj _ _ _ (by omega)]) ?_
          refine astj hx hb hK hP hI hS (k := 2) (by decide) 0 (fun f => sm_now f _ ) rfl (by rw [ixD (J := 7) 7 rfl (nI_clamp (n := k) (by omega)) (vp_in_nI (by omega) (by decide))]; exact vp_in_nI (by omega) (by decide)) (j := (610 + 9 * k + 7)) (by rw [ixD (J := 7) 7 rfl (nI_clamp (by omega)) (vp_in_nI (by omega) (by decide))]; exact nI_clamp (by omega)) dX9_close_89 (fun H locs hP hS => ?_)
          refine lv_aload_n hx hb dX9_close_90 rfl (lv_at hl 3 rfl) ?_
          refine fgetx hx hb ht inG9 hown hK hP (k := 0) (by decide) (x := ((mcl (snS (s2 σ 0 0 0)) k) 0)) ((s2_nk _ _ _ (by omega)).trans (s2_nk _ _ _ (by omega))) (sm_obj _ _) rfl 12 (by decide) gw_951 (v := .ref (ad 2)) rfl dX9_close_91 ?_
          refine lv_iload_n hx hb dX9_close_94 rfl (lv_at hl 0 rfl) ?_
          refine lv_bipush (v := 8) hx hb dX9_close_95 (by decide) ?_
          refine lv_iadd hx hb dX9_close_97 ?_
          have hS2 : ∀ j, j ≠ 610 + 9 * k + 6 → j ≠ 610 + 9 * k + 7 → (s2 (s2 (mcl (snS (s2 σ 0 0 0)) k) 2 (610 + 9 * k + 6) 1) 2 (610 + 9 * k + 7) ((mcl (snS (s2 σ 0 0 0)) k) 2 0)) 2 j = (mcl (snS (s2 σ 0 0 0)) k) 2 j := fun j h6 h7 => by rw [s2_nj _ _ _ h7, s2_nj _ _ _ h6]
          have hR2 : RI ((s2 (s2 (mcl (snS (s2 σ 0 0 0)) k) 2 (610 + 9 * k + 6) 1) 2 (610 + 9 * k + 7) ((mcl (snS (s2 σ 0 0 0)) k) 2 0)) 2) := RI_w2 (k := k) hRk (by rw [s2_nj _ _ _ (by omega), s2_eq]; exact ⟨by decide, by decide⟩) (by rw [s2_eq]; have h0 := hRk.1; unfold rg at h0 ⊢; omega) (fun j h6 h7 _ => hS2 j h6 h7)
          refine lv_aload_n hx hb dX9_close_98 rfl (lv_at hl 3 rfl) ?_
          refine lv_iload_n hx hb dX9_close_99 rfl (lv_at hl 1 rfl) ?_
          refine lv_iconst (v := 3) hx hb dX9_close_100 (by decide) ?_
          refine callv (y := yX9_its) ⟨hx, hb, hml, hown, ht⟩ hK hN hP hS (k := 0) (c_X9_its l D ca ad hI (s2 (s2 (mcl (snS (s2 σ 0 0 0)) k) 2 (610 + 9 * k + 6) 1) 2 (610 + 9 * k + 7) ((mcl (snS (s2 σ 0 0 0)) k) 2 0)) τ (nI k) (3 : Int32) (nI_clamp (by omega)) (vp_in_nI (by omega) (by decide)) (show Int32.toNatClampNeg 3 = 3 from rfl) (by rw [vp_in_iff]; decide)) (by decide) (sm_obj _ _) rfl ok_X9_its gw_1097 ⟨by decide, by decide⟩ rfl hl.1 rfl (Nat.le_of_ble_eq_true rfl) ⟨by decide, by decide⟩ dX9_close_101 (fun v_ S_ T_ H locs hp7 hP hS => ?_)
          obtain ⟨rfl, rfl, rfl⟩ := hp7
          try dsimp only [Option.toList, List.cons_append, List.nil_append]
          refine stk_i (v := (mcl (snS (s2 σ 0 0 0)) k) 2 (610 + 9 * k + 3)) (by rw [s2_nj _ _ _ (by omega), s2_nj _ _ _ (by omega)]) ?_
          refine lv_i2l (v := ((mcl (snS (s2 σ 0 0 0)) k) 2 (610 + 9 * k + 3)).toInt64) hx hb dX9_close_104 rfl ?_
          refine lv_aload_n hx hb dX9_close_105 rfl (lv_at hl 3 rfl) ?_
          refine lv_aload_n hx hb dX9_close_106 rfl (lv_at hl 3 rfl) ?_
          refine lv_iload_n hx hb dX9_close_107 rfl (lv_at hl 1 rfl) ?_
          refine lv_iconst (v := 0) hx hb dX9_close_108 (by decide) ?_
          refine callv (y := yX9_its) ⟨hx, hb, hml, hown, ht⟩ hK hN hP hS (k := 0) (c_X9_its l D ca ad hI (s2 (s2 (mcl (snS (s2 σ 0 0 0)) k) 2 (610 + 9 * k + 6) 1) 2 (610 + 9 * k + 7) ((mcl (snS (s2 σ 0 0 0)) k) 2 0)) τ (nI k) (0 : Int32) (nI_clamp (by omega)) (vp_in_nI (by omega) (by decide)) (show Int32.toNatClampNeg 0 = 0 from rfl) (by rw [vp_in_iff]; decide)) (by decide) (sm_obj _ _) rfl ok_X9_its gw_1097 ⟨by decide, by decide⟩ rfl hl.1 rfl (Nat.le_of_ble_eq_true rfl) ⟨by decide, by decide⟩ dX9_close_109 (fun v_ S_ T_ H locs hp8 hP hS => ?_)
          obtain ⟨rfl, rfl, rfl⟩ := hp8
          try dsimp only [Option.toList, List.cons_append, List.nil_append]
          refine stk_i (v := (mcl (snS (s2 σ 0 0 0)) k) 2 (610 + 9 * k + 0)) (by rw [s2_nj _ _ _ (by omega), s2_nj _ _ _ (by omega)]) ?_
          refine lv_aload_n hx hb dX9_close_112 rfl (lv_at hl 3 rfl) ?_
          refine lv_iload_n hx hb dX9_close_113 rfl (lv_at hl 1 rfl) ?_
          refine lv_iconst (v := 4) hx hb dX9_close_114 (by decide) ?_
          refine callv (y := yX9_its) ⟨hx, hb, hml, hown, ht⟩ hK hN hP hS (k := 0) (c_X9_its l D ca ad hI (s2 (s2 (mcl (snS (s2 σ 0 0 0)) k) 2 (610 + 9 * k + 6) 1) 2 (610 + 9 * k + 7) ((mcl (snS (s2 σ 0 0 0)) k) 2 0)) τ (nI k) (4 : Int32) (nI_clamp (by omega)) (vp_in_nI (by omega) (by decide)) (show Int32.toNatClampNeg 4 = 4 from rfl) (by rw [vp_in_iff]; decide)) (by decide) (sm_obj _ _) rfl ok_X9_its gw_1097 ⟨by decide, by decide⟩ rfl hl.1 rfl (Nat.le_of_ble_eq_true rfl) ⟨by decide, by decide⟩ dX9_close_115 (fun v_ S_ T_ H locs hp9 hP hS => ?_)
          obtain ⟨rfl, rfl, rfl⟩ := hp9
          try dsimp only [Option.toList, List.cons_append, List.nil_append]
          refine stk_i (v := (mcl (snS (s2 σ 0 0 0)) k) 2 (610 + 9 * k + 4)) (by rw [s2_nj _ _ _ (by omega), s2_nj _ _ _ (by omega)]) ?_
          refine callv (y := yX9_priceOf) ⟨hx, hb, hml, hown, ht⟩ hK hN hP hS (k := 0) (c_X9_priceOf l D ca ad hI (s2 (s2 (mcl (snS (s2 σ 0 0 0)) k) 2 (610 + 9 * k + 6) 1) 2 (610 + 9 * k + 7) ((mcl (snS (s2 σ 0 0 0)) k) 2 0)) τ ((mcl (snS (s2 σ 0 0 0)) k) 2 (610 + 9 * k + 0)) ((mcl (snS (s2 σ 0 0 0)) k) 2 (610 + 9 * k + 4)) rfl vof (vpI vat) (vpL vat) hR2 (by rw [hS2 _ (by omega) (by omega)]; exact hCk) (by rw [hS2 _ (by omega) (by omega)]; exact hmk)) (by decide) (sm_obj _ _) rfl ok_X9_priceOf gw_1174 ⟨by decide, by decide⟩ rfl hl.1 rfl (Nat.le_of_ble_eq_true rfl) ⟨by decide, by decide⟩ dX9_close_118 (fun v_ S_ T_ H locs hp10 hP hS => ?_)
          obtain ⟨rfl, rfl, rfl⟩ := hp10
          try dsimp only [Option.toList, List.cons_append, List.nil_append]
          refine stk_i (v := mPri ((mcl (snS (s2 σ 0 0 0)) k) 2) ((mcl (snS (s2 σ 0 0 0)) k) 2 (610 + 9 * k + 0)).toNatClampNeg (((mcl (snS (s2 σ 0 0 0)) k) 2 (610 + 9 * k + 4)).toNatClampNeg + 1)) (mPri_agree hRk hCk (vpL vat) hmk (fun j hj => hS2 j (by omega) (by omega))).1 ?_
          refine lv_i2l (v := (mPri ((mcl (snS (s2 σ 0 0 0)) k) 2) ((mcl (snS (s2 σ 0 0 0)) k) 2 (610 + 9 * k + 0)).toNatClampNeg (((mcl (snS (s2 σ 0 0 0)) k) 2 (610 + 9 * k + 4)).toNatClampNeg + 1)).toInt64) hx hb dX9_close_121 rfl ?_
          refine lv_lmul hx hb dX9_close_122 ?_
          refine lv_aload_n hx hb dX9_close_123 rfl (lv_at hl 3 rfl) ?_
          refine lv_iload_n hx hb dX9_close_124 rfl (lv_at hl 1 rfl) ?_
          refine callv (y := yX9_billed) ⟨hx, hb, hml, hown, ht⟩ hK hN hP hS (k := 0) (c_X9_billed l D ca ad hI (s2 (s2 (mcl (snS (s2 σ 0 0 0)) k) 2 (610 + 9 * k + 6) 1) 2 (610 + 9 * k + 7) ((mcl (snS (s2 σ 0 0 0)) k) 2 0)) τ (nI k) (nI_clamp (by omega)) (vp_in_nI (by omega) (by decide))) (by decide) (sm_obj _ _) rfl ok_X9_billed gw_1207 ⟨by decide, by decide⟩ rfl hl.1 rfl (Nat.le_of_ble_eq_true rfl) ⟨by decide, by decide⟩ dX9_close_125 (fun v_ S_ T_ H locs hp11 hP hS => ?_)
          obtain ⟨rfl, rfl, rfl⟩ := hp11
          try dsimp only [Option.toList, List.cons_append, List.nil_append]
          refine stk_l (v := mBil ((mcl (snS (s2 σ 0 0 0)) k) 2) k) (by rw [hS2 _ (by omega) (by omega), hS2 _ (by omega) (by omega)]; rfl) ?_
          refine lv_lsub hx hb dX9_close_128 ?_
          refine lv_l2i (v := (((((mcl (snS (s2 σ 0 0 0)) k) 2 (610 + 9 * k + 3)).toInt64) * ((mPri ((mcl (snS (s2 σ 0 0 0)) k) 2) ((mcl (snS (s2 σ 0 0 0)) k) 2 (610 + 9 * k + 0)).toNatClampNeg (((mcl (snS (s2 σ 0 0 0)) k) 2 (610 + 9 * k + 4)).toNatClampNeg + 1)).toInt64)) - (mBil ((mcl (snS (s2 σ 0 0 0)) k) 2) k)).toInt32) hx hb dX9_close_129 rfl ?_
          refine astj hx hb hK hP hI hS (k := 2) (by decide) 0 (fun f => sm_now f _ ) rfl (by rw [ixD (J := 8) 8 rfl (nI_clamp (n := k) (by omega)) (vp_in_nI (by omega) (by decide))]; exact vp_in_nI (by omega) (by decide)) (j := (610 + 9 * k + 8)) (by rw [ixD (J := 8) 8 rfl (nI_clamp (by omega)) (vp_in_nI (by omega) (by decide))]; exact nI_clamp (by omega)) dX9_close_130 (fun H locs hP hS => ?_)
          refine lv_iinc (v := a + 1) (lv' := [(1, .int (a + 1)), (3, .int (610 + (9 * (nI k)))), (2, .int (nI k)), (0, .ref (ad 0))]) hx hb dX9_close_131 hl (k := 2) rfl rfl (by decide) rfl (fun ls hl => ?_)
          refine lv_iinc (v := (nI k) + 1) (lv' := [(2, .int ((nI k) + 1)), (1, .int (a + 1)), (3, .int (610 + (9 * (nI k)))), (0, .ref (ad 0))]) hx hb dX9_close_134 hl (k := 2) rfl rfl (by decide) rfl (fun ls hl => ?_)
          refine lv_goto (tgt := 24) hx hb dX9_close_137 (by decide) ?_
          have hC9 : mclC ((mcl (snS (s2 σ 0 0 0)) k) 2) k = true := by simp only [mclC, c3, (eq_true c5), ↓reduceIte]
          rw [nI_1] at hl
          exact ih (k + 1) (by omega) (by omega) hz (a + 1) (by rw [mclN, hC9, ha]; rfl) _ _ (by rw [mcl, hC9]; exact hP) hS ls (lv_sub hl [0, 1, 3] rfl)
        · have dc5 := c5
          rw [i_eq] at dc5
          refine lv_goto (tgt := 134) hx hb dX9_close_55 (by decide) ?_
          refine lv_iinc (v := (nI k) + 1) (lv' := [(2, .int ((nI k) + 1)), (1, .int a), (0, .ref (ad 0))]) hx hb dX9_close_134 hl (k := 0) rfl rfl (by decide) rfl (fun ls hl => ?_)
          refine lv_goto (tgt := 24) hx hb dX9_close_137 (by decide) ?_
          have hC9 : mclC ((mcl (snS (s2 σ 0 0 0)) k) 2) k = false := by simp only [mclC, c3, c5, ↓reduceIte]
          rw [nI_1] at hl
          exact ih (k + 1) (by omega) (by omega) hz (a) (by rw [mclN, hC9, ha]; rfl) _ _ (by rw [mcl, hC9]; exact hP) hS ls (lv_sub hl [0, 1, 2] rfl)
set_option maxHeartbeats 4000000 in
set_option maxRecDepth 100000 in
theorem c_X9_close (l : Launch) (D : va_G) (ca : Nat → ClassId) (ad : Nat → Nat) (hI : Inj 6 ad) (σ : MI) (τ : ML) (hR : RI (σ 2)) (h8 : rg (σ 0 16) 0 8) : CT l D (TY ca) 6 ad (mxf ca ad) yX9_close cX9_close 4 (some .int) 5 126 [.ref (ad 0)] σ τ (fun v_ S_ T_ => some (.int (mClR σ)) = v_ ∧ (mClM σ) = S_ ∧ τ = T_) := by
  refine CT.of (by decide) (Nat.le_of_ble_eq_true rfl) ?_
  intro p e s m args below meth c hx hb hr ht hown hlk hml hP hK hN hS ls hl
  have hl : lv_has ls 4 [(0, .ref (ad 0))] := hl
  refine lv_aload_n hx hb dX9_close_0 rfl (lv_at hl 0 rfl) ?_
  refine lv_iconst (v := 0) hx hb dX9_close_1 (by decide) ?_
  refine fputx (ref := "") (w := 0) hx hb ht inG9 tyX9 tyX9_ok nmX9 hown hK hP hI hS (k := 0) (by decide) (sm_obj _ _) rfl 0 (by decide) gw_939 rfl rfl rfl (Nat.le_of_ble_eq_true rfl) (sm_obj _ _) dX9_close_2 (fun H locs hP hS => ?_)
  refine lv_aload_n hx hb dX9_close_5 rfl (lv_at hl 0 rfl) ?_
  refine callv (y := yX9_month) ⟨hx, hb, hml, hown, ht⟩ hK hN hP hS (k := 0) (c_X9_month l D ca ad hI (s2 σ 0 0 0) τ ) (by decide) (sm_obj _ _) rfl ok_X9_month gw_1089 ⟨by decide, by decide⟩ rfl hl.1 rfl (Nat.le_of_ble_eq_true rfl) ⟨by decide, by decide⟩ dX9_close_6 (fun v_ S_ T_ H locs hp1 hP hS => ?_)
  obtain ⟨rfl, rfl, rfl⟩ := hp1
  try dsimp only [Option.toList, List.cons_append, List.nil_append]
  refine stk_i (v := ((σ 2) 0)) (by first | (rw [(show (s2 σ 0 0 0) 2 = (σ 2) from (s2_nk _ _ _ (by omega)))]; done) | (rw [(show (s2 σ 0 0 0) 2 = (σ 2) from (s2_nk _ _ _ (by omega)))]; rfl)) ?_
  refine lv_bipush (v := 35) hx hb dX9_close_9 (by decide) ?_
  refine lv_icmp_ne (tgt := 16) hx hb dX9_close_11 (by decide) (fun c2 => ?_) (fun c2 => ?_)
  · have dc2 := c2
    rw [i_eq] at dc2
    refine lv_aload_n hx hb dX9_close_16 rfl (lv_at hl 0 rfl) ?_
    refine callv (y := yX9_snap) ⟨hx, hb, hml, hown, ht⟩ hK hN hP hS (k := 0) (c_X9_snap l D ca ad hI (s2 σ 0 0 0) τ (by rw [s2_nj _ _ _ (by decide)]; exact h8)) (by decide) (sm_obj _ _) rfl ok_X9_snap gw_1223 ⟨by decide, by decide⟩ rfl hl.1 rfl (Nat.le_of_ble_eq_true rfl) ⟨by decide, by decide⟩ dX9_close_17 (fun v_ S_ T_ H locs hp3 hP hS => ?_)
    obtain ⟨rfl, rfl, rfl⟩ := hp3
    try dsimp only [Option.toList, List.cons_append, List.nil_append]
    refine lv_iconst (v := 0) hx hb dX9_close_20 (by decide) ?_
    refine lv_istore_n (lv' := [(1, .int 0), (0, .ref (ad 0))]) hx hb dX9_close_21 rfl hl (by decide) rfl (fun ls hl => ?_)
    refine lv_iconst (v := 0) hx hb dX9_close_22 (by decide) ?_
    refine lv_istore_n (lv' := [(2, .int 0), (1, .int 0), (0, .ref (ad 0))]) hx hb dX9_close_23 rfl hl (by decide) rfl (fun ls hl => ?_)
    exact lp_X9_close hI hR h8 hx hb hr ht hown hlk hml hK hN ((σ 2 609).toNatClampNeg + 1) 0 (by omega) (by omega) c2 _ rfl _ _ hP hS ls hl
  · have dc2 := c2
    rw [i_eq] at dc2
    refine lv_iconst (v := -1) hx hb dX9_close_14 (by decide) ?_
    exact ret_i hx hb hr hlk hP hS dX9_close_15 (⟨by first | with_reducible rfl | (simp only [mClR, mClM, c2, ↓reduceIte, Bool.false_eq_true]; done) | (simp only [mClR, mClM, c2, ↓reduceIte, Bool.false_eq_true]; rfl) | rfl, by first | with_reducible rfl | (simp only [mClR, mClM, c2, ↓reduceIte, Bool.false_eq_true]; done) | (simp only [mClR, mClM, c2, ↓reduceIte, Bool.false_eq_true]; rfl) | rfl, rfl⟩)
