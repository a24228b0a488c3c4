set_option maxHeartbeats 4000000 in
set_option maxRecDepth 100000 in
theorem c_X9_readLine (l : Launch) (D : va_G) (ca : Nat → ClassId) (ad : Nat → Nat) (hI : Inj 6 ad) (σ : MI) (τ : ML) (f_ : Bool) (hT : TI σ) (hL : LI σ) : CT l D (TY ca) 6 ad (mxf ca ad) yX9_readLine cX9_readLine 2 (some .boolean) 5 114 [.ref (ad 0), .int (b2i f_)] σ τ (fun v_ S_ T_ => some (.int (b2i ((mlP σ τ f_).1))) = v_ ∧ ((mlP σ τ f_).2.1) = S_ ∧ ((mlP σ τ f_).2.2) = T_) := by
  refine CT.of (by decide) (Nat.le_of_ble_eq_true rfl) ?_
  intro p e s m args below meth c hx hb hr ht hown hlk hml hP hK hN hS ls hl
  have hl : lv_has ls 2 [(0, .ref (ad 0)), (1, .int (b2i f_))] := hl
  have h1r := hL.1.2.1
  have h4r := hL.1.2.2.1
  unfold rg at h1r h4r
  have hc1 := clampI (σ 3 1)
  have hc4 := clampI (σ 3 494)
  refine lv_iload_n hx hb dX9_readLine_0 rfl (lv_at hl 1 rfl) ?_
  refine br_eq (tgt := 31) hx hb dX9_readLine_1 (by decide) (fun c1 => ?_) (fun c1 => ?_)
  · refine lv_aload_n hx hb dX9_readLine_31 rfl (lv_at hl 0 rfl) ?_
    refine lv_iconst (v := 1) hx hb dX9_readLine_32 (by decide) ?_
    refine callv (y := yX9_is) ⟨hx, hb, hml, hown, ht⟩ hK hN hP hS (k := 0) (c_X9_is l D ca ad hI σ τ (1 : Int32)) (by decide) (sm_obj _ _) rfl ok_X9_is gw_1016 ⟨by decide, by decide⟩ rfl hl.1 rfl (Nat.le_of_ble_eq_true rfl) ⟨by decide, by decide⟩ dX9_readLine_33 (fun v_ S_ T_ H locs hp2 hP hS => ?_)
    obtain ⟨rfl, rfl, rfl⟩ := hp2
    try dsimp only [Option.toList, List.cons_append, List.nil_append]
    refine br_eq (tgt := 44) hx hb dX9_readLine_36 (by decide) (fun c3 => ?_) (fun c3 => ?_)
    · refine lv_aload_n hx hb dX9_readLine_44 rfl (lv_at hl 0 rfl) ?_
      refine lv_iconst (v := 2) hx hb dX9_readLine_45 (by decide) ?_
      refine callv (y := yX9_is) ⟨hx, hb, hml, hown, ht⟩ hK hN hP hS (k := 0) (c_X9_is l D ca ad hI σ τ (2 : Int32)) (by decide) (sm_obj _ _) rfl ok_X9_is gw_1016 ⟨by decide, by decide⟩ rfl hl.1 rfl (Nat.le_of_ble_eq_true rfl) ⟨by decide, by decide⟩ dX9_readLine_46 (fun v_ S_ T_ H locs hp4 hP hS => ?_)
      obtain ⟨rfl, rfl, rfl⟩ := hp4
      try dsimp only [Option.toList, List.cons_append, List.nil_append]
      refine br_eq (tgt := 59) hx hb dX9_readLine_49 (by decide) (fun c5 => ?_) (fun c5 => ?_)
      · refine lv_aload_n hx hb dX9_readLine_59 rfl (lv_at hl 0 rfl) ?_
        refine lv_iconst (v := 1) hx hb dX9_readLine_60 (by decide) ?_
        refine callv (y := yX9_bad) ⟨hx, hb, hml, hown, ht⟩ hK hN hP hS (k := 0) (c_X9_bad l D ca ad hI σ τ (1 : Int32)) (by decide) (sm_obj _ _) rfl ok_X9_bad gw_1034 ⟨by decide, by decide⟩ rfl hl.1 rfl (Nat.le_of_ble_eq_true rfl) ⟨by decide, by decide⟩ dX9_readLine_61 (fun v_ S_ T_ H locs hp6 hP hS => ?_)
        obtain ⟨rfl, rfl, rfl⟩ := hp6
        try dsimp only [Option.toList, List.cons_append, List.nil_append]
        exact ret_z hx hb hr hlk hP hS dX9_readLine_64 (b := false) rfl (⟨by simp only [mlP, c1, c3, c5, ↓reduceIte, Bool.false_eq_true], by simp only [mlP, c1, c3, c5, ↓reduceIte, Bool.false_eq_true], by simp only [mlP, c1, c3, c5, ↓reduceIte, Bool.false_eq_true]⟩)
      · refine lv_aload_n hx hb dX9_readLine_52 rfl (lv_at hl 0 rfl) ?_
        refine callv (y := yX9_readContract) ⟨hx, hb, hml, hown, ht⟩ hK hN hP hS (k := 0) (c_X9_readContract l D ca ad hI σ τ (eq_nI h4r.1) (by omega) hL.1.1 hL.1.2.1 (fun q => hL.2.2.2.1 _ q (by omega)) hT) (by decide) (sm_obj _ _) rfl ok_X9_readContract gw_1057 ⟨by decide, by decide⟩ rfl hl.1 rfl (Nat.le_of_ble_eq_true rfl) ⟨by decide, by decide⟩ dX9_readLine_53 (fun v_ S_ T_ H locs hp7 hP hS => ?_)
        obtain ⟨rfl, rfl, rfl⟩ := hp7
        try dsimp only [Option.toList, List.cons_append, List.nil_append]
        refine lv_goto (tgt := 64) hx hb dX9_readLine_56 (by decide) ?_
        exact ret_z hx hb hr hlk hP hS dX9_readLine_64 (b := ((mcP ((σ 3 494).toNatClampNeg) σ τ).1)) rfl (⟨by simp only [mlP, c1, c3, c5, ↓reduceIte, Bool.false_eq_true], by simp only [mlP, c1, c3, c5, ↓reduceIte, Bool.false_eq_true], by simp only [mlP, c1, c3, c5, ↓reduceIte, Bool.false_eq_true]⟩)
    · refine lv_aload_n hx hb dX9_readLine_39 rfl (lv_at hl 0 rfl) ?_
      refine callv (y := yX9_readIndex) ⟨hx, hb, hml, hown, ht⟩ hK hN hP hS (k := 0) (c_X9_readIndex l D ca ad hI σ τ (eq_nI h1r.1) (by omega) hL.1.1 hT) (by decide) (sm_obj _ _) rfl ok_X9_readIndex gw_1045 ⟨by decide, by decide⟩ rfl hl.1 rfl (Nat.le_of_ble_eq_true rfl) ⟨by decide, by decide⟩ dX9_readLine_40 (fun v_ S_ T_ H locs hp8 hP hS => ?_)
      obtain ⟨rfl, rfl, rfl⟩ := hp8
      try dsimp only [Option.toList, List.cons_append, List.nil_append]
      exact ret_z hx hb hr hlk hP hS dX9_readLine_43 (b := ((miP ((σ 3 1).toNatClampNeg) σ τ).1)) rfl (⟨by simp only [mlP, c1, c3, ↓reduceIte, Bool.false_eq_true], by simp only [mlP, c1, c3, ↓reduceIte, Bool.false_eq_true], by simp only [mlP, c1, c3, ↓reduceIte, Bool.false_eq_true]⟩)
  · refine lv_aload_n hx hb dX9_readLine_4 rfl (lv_at hl 0 rfl) ?_
    refine lv_iconst (v := 0) hx hb dX9_readLine_5 (by decide) ?_
    refine callv (y := yX9_is) ⟨hx, hb, hml, hown, ht⟩ hK hN hP hS (k := 0) (c_X9_is l D ca ad hI σ τ (0 : Int32)) (by decide) (sm_obj _ _) rfl ok_X9_is gw_1016 ⟨by decide, by decide⟩ rfl hl.1 rfl (Nat.le_of_ble_eq_true rfl) ⟨by decide, by decide⟩ dX9_readLine_6 (fun v_ S_ T_ H locs hp9 hP hS => ?_)
    obtain ⟨rfl, rfl, rfl⟩ := hp9
    try dsimp only [Option.toList, List.cons_append, List.nil_append]
    refine br_ne (tgt := 18) hx hb dX9_readLine_9 (by decide) (fun c10 => ?_) (fun c10 => ?_)
    · refine lv_aload_n hx hb dX9_readLine_18 rfl (lv_at hl 0 rfl) ?_
      refine callv (y := yX9_go) ⟨hx, hb, hml, hown, ht⟩ hK hN hP hS (k := 0) (c_X9_go l D ca ad hI σ τ hT) (by decide) (sm_obj _ _) rfl ok_X9_go gw_996 ⟨by decide, by decide⟩ rfl hl.1 rfl (Nat.le_of_ble_eq_true rfl) ⟨by decide, by decide⟩ dX9_readLine_19 (fun v_ S_ T_ H locs hp11 hP hS => ?_)
      obtain ⟨rfl, rfl, rfl⟩ := hp11
      try dsimp only [Option.toList, List.cons_append, List.nil_append]
      refine lv_aload_n hx hb dX9_readLine_22 rfl (lv_at hl 0 rfl) ?_
      refine lv_iconst (v := 0) hx hb dX9_readLine_23 (by decide) ?_
      refine lv_iconst (v := 0) hx hb dX9_readLine_24 (by decide) ?_
      refine lv_bipush (v := 35) hx hb dX9_readLine_25 (by decide) ?_
      refine callv (y := yX9_told) ⟨hx, hb, hml, hown, ht⟩ hK hN hP hS (k := 0) (c_X9_told l D ca ad hI (goM σ) (goT σ τ) (0 : Int32) (0 : Int32) (35 : Int32) rfl (by decide) (TI_go hT)) (by decide) (sm_obj _ _) rfl ok_X9_told gw_1038 ⟨by decide, by decide⟩ rfl hl.1 rfl (Nat.le_of_ble_eq_true rfl) ⟨by decide, by decide⟩ dX9_readLine_27 (fun v_ S_ T_ H locs hp12 hP hS => ?_)
      obtain ⟨rfl, rfl, rfl⟩ := hp12
      try dsimp only [Option.toList, List.cons_append, List.nil_append]
      exact ret_z hx hb hr hlk hP hS dX9_readLine_30 (b := (tdB (goM σ) (0 : Int32) (35 : Int32))) rfl (⟨by simp only [mlP, c1, c10, ↓reduceIte, Bool.false_eq_true], by simp only [mlP, c1, c10, ↓reduceIte, Bool.false_eq_true], by simp only [mlP, c1, c10, ↓reduceIte, Bool.false_eq_true]⟩)
    · refine lv_aload_n hx hb dX9_readLine_12 rfl (lv_at hl 0 rfl) ?_
      refine lv_iconst (v := 1) hx hb dX9_readLine_13 (by decide) ?_
      refine callv (y := yX9_bad) ⟨hx, hb, hml, hown, ht⟩ hK hN hP hS (k := 0) (c_X9_bad l D ca ad hI σ τ (1 : Int32)) (by decide) (sm_obj _ _) rfl ok_X9_bad gw_1034 ⟨by decide, by decide⟩ rfl hl.1 rfl (Nat.le_of_ble_eq_true rfl) ⟨by decide, by decide⟩ dX9_readLine_14 (fun v_ S_ T_ H locs hp13 hP hS => ?_)
      obtain ⟨rfl, rfl, rfl⟩ := hp13
      try dsimp only [Option.toList, List.cons_append, List.nil_append]
      exact ret_z hx hb hr hlk hP hS dX9_readLine_17 (b := false) rfl (⟨by simp only [mlP, c1, c10, ↓reduceIte, Bool.false_eq_true], by simp only [mlP, c1, c10, ↓reduceIte, Bool.false_eq_true], by simp only [mlP, c1, c10, ↓reduceIte, Bool.false_eq_true]⟩)
set_option maxHeartbeats 4000000 in
set_option maxRecDepth 100000 in
theorem c_X9_readEnd (l : Launch) (D : va_G) (ca : Nat → ClassId) (ad : Nat → Nat) (hI : Inj 6 ad) (σ : MI) (τ : ML) (hT : TI σ) : CT l D (TY ca) 6 ad (mxf ca ad) yX9_readEnd cX9_readEnd 1 (some .boolean) 2 45 [.ref (ad 0)] σ τ (fun v_ S_ T_ => some (.int (b2i (mSig σ 59))) = v_ ∧ (meM σ) = S_ ∧ (meT σ τ) = T_) := by
  refine CT.of (by decide) (Nat.le_of_ble_eq_true rfl) ?_
  intro p e s m args below meth c hx hb hr ht hown hlk hml hP hK hN hS ls hl
  have hl : lv_has ls 1 [(0, .ref (ad 0))] := hl
  refine lv_aload_n hx hb dX9_readEnd_0 rfl (lv_at hl 0 rfl) ?_
  refine lv_bipush (v := 59) hx hb dX9_readEnd_1 (by decide) ?_
  refine callv (y := yX9_isSign) ⟨hx, hb, hml, hown, ht⟩ hK hN hP hS (k := 0) (c_X9_isSign l D ca ad hI σ τ (59 : Int32)) (by decide) (sm_obj _ _) rfl ok_X9_isSign gw_1061 ⟨by decide, by decide⟩ rfl hl.1 rfl (Nat.le_of_ble_eq_true rfl) ⟨by decide, by decide⟩ dX9_readEnd_3 (fun v_ S_ T_ H locs hp1 hP hS => ?_)
  obtain ⟨rfl, rfl, rfl⟩ := hp1
  try dsimp only [Option.toList, List.cons_append, List.nil_append]
  refine br_ne (tgt := 15) hx hb dX9_readEnd_6 (by decide) (fun c2 => ?_) (fun c2 => ?_)
  · refine lv_aload_n hx hb dX9_readEnd_15 rfl (lv_at hl 0 rfl) ?_
    refine callv (y := yX9_go) ⟨hx, hb, hml, hown, ht⟩ hK hN hP hS (k := 0) (c_X9_go l D ca ad hI σ τ hT) (by decide) (sm_obj _ _) rfl ok_X9_go gw_996 ⟨by decide, by decide⟩ rfl hl.1 rfl (Nat.le_of_ble_eq_true rfl) ⟨by decide, by decide⟩ dX9_readEnd_16 (fun v_ S_ T_ H locs hp3 hP hS => ?_)
    obtain ⟨rfl, rfl, rfl⟩ := hp3
    try dsimp only [Option.toList, List.cons_append, List.nil_append]
    refine lv_iconst (v := 1) hx hb dX9_readEnd_19 (by decide) ?_
    exact ret_z hx hb hr hlk hP hS dX9_readEnd_20 (b := true) rfl (⟨by simp only [meM, meT, c2, ↓reduceIte, Bool.false_eq_true], by simp only [meM, meT, c2, ↓reduceIte, Bool.false_eq_true], by simp only [meM, meT, c2, ↓reduceIte, Bool.false_eq_true]⟩)
  · refine lv_aload_n hx hb dX9_readEnd_9 rfl (lv_at hl 0 rfl) ?_
    refine lv_iconst (v := 1) hx hb dX9_readEnd_10 (by decide) ?_
    refine callv (y := yX9_bad) ⟨hx, hb, hml, hown, ht⟩ hK hN hP hS (k := 0) (c_X9_bad l D ca ad hI σ τ (1 : Int32)) (by decide) (sm_obj _ _) rfl ok_X9_bad gw_1034 ⟨by decide, by decide⟩ rfl hl.1 rfl (Nat.le_of_ble_eq_true rfl) ⟨by decide, by decide⟩ dX9_readEnd_11 (fun v_ S_ T_ H locs hp4 hP hS => ?_)
    obtain ⟨rfl, rfl, rfl⟩ := hp4
    try dsimp only [Option.toList, List.cons_append, List.nil_append]
    exact ret_z hx hb hr hlk hP hS dX9_readEnd_14 (b := false) rfl (⟨by simp only [meM, meT, c2, ↓reduceIte, Bool.false_eq_true], by simp only [meM, meT, c2, ↓reduceIte, Bool.false_eq_true], by simp only [meM, meT, c2, ↓reduceIte, Bool.false_eq_true]⟩)
set_option maxHeartbeats 4000000 in
set_option maxRecDepth 100000 in
theorem lp_X9_text3 {l : Launch} {D : va_G} {ca : Nat → ClassId} {ad : Nat → Nat} (hI : Inj 6 ad) {σ : MI} {τ : ML} {t : Nat} (et : σ 0 2 = nI t) (ht7 : t ≤ 740) (h67 : σ 0 6 = 3 → 0 ≤ (σ 0 7).toInt) {p : Program} {e : Env} {s : State} {m : MethodId} {args : Array Value} {below : List Frame} {meth : Method} {c : Code} (hx : p.tables.exec = Jvm.exec) (hb : c.code = cX9_text) (hr : meth.sig.returnType = (some .int)) (ht : ∀ w ∈ GG, w.before args s = true) (hown : s.vm.findClass yX9_text.cls = some m.cls) (hlk : meth.locks = false) (hml : c.maxLocals = 3) (hK : va_K D vwCl (TY ca) s) (hN : NW s) : ∀ (n : Nat) (ρ : MI) (υ : ML) (l_ : Int32) (k : Nat) (hk : k ≤ 880) (hn : 880 - k < n) (hR : (l_, s2 (nwS ρ 880) 0 16 0, υ) = mxP σ τ) (H : Heap) (locs : List Loc) (hP : PW D 6 ad (mxf ca ad) (nwS ρ k) υ H) (hS : va_S (AA 6 ad) s.heap H locs) (ls : Array Slot) (hl : lv_has ls 3 [(2, .int (nI k)), (1, .int l_), (0, .ref (ad 0))]), W p l e { frames := 6, cells := 0, slots := 0, locals := 135 } s m args below meth c H locs 0 0 (MQ below (QD D 6 ad (mxf ca ad) (fun v_ S_ T_ => some (.int ((mxP σ τ).1)) = v_ ∧ ((mxP σ τ).2.1) = S_ ∧ ((mxP σ τ).2.2) = T_)) args s 0 0 (AA 6 ad)) (F0 m 101 ls []) := by
  intro n
  induction n with
  | zero => intro ρ υ l_ k hk hn hR H locs hP hS ls hl; exfalso; omega
  | succ n ih =>
    intro ρ υ l_ k hk hn hR H locs hP hS ls hl
    have ek : (nI k).toInt = k := nI_toInt (by omega)
    have e880 : (880 : Int32).toInt = 880 := rfl
    refine lv_iload_n hx hb dX9_text_101 rfl (lv_at hl 0 rfl) ?_
    refine lv_sipush (v := 880) hx hb dX9_text_102 (by decide) ?_
    refine lv_icmp_ge (tgt := 126) hx hb dX9_text_105 (by decide) (fun c1 => ?_) (fun c1 => ?_)
    · have dc1 := c1
      rw [i_le] at dc1
      refine lv_aload_n hx hb dX9_text_126 rfl (lv_at hl 2 rfl) ?_
      refine lv_iconst (v := 0) hx hb dX9_text_127 (by decide) ?_
      refine fputx (ref := "") (w := 0) hx hb ht inG9 tyX9 tyX9_ok nmX9 hown hK hP hI hS (k := 0) (by decide) (sm_obj _ _) rfl 16 (by decide) gw_955 rfl rfl rfl (Nat.le_of_ble_eq_true rfl) (sm_obj _ _) dX9_text_128 (fun H locs hP hS => ?_)
      refine lv_iload_n hx hb dX9_text_131 rfl (lv_at hl 1 rfl) ?_
      exact ret_i hx hb hr hlk hP hS dX9_text_132 (⟨by rw [← hR], by rw [← hR]; have e9 : k = 880 := (by omega); rw [e9], by rw [← hR]⟩)
    · have dc1 := c1
      rw [i_le] at dc1
      refine lv_aload_n hx hb dX9_text_108 rfl (lv_at hl 2 rfl) ?_
      refine fgetx hx hb ht inG9 hown hK hP (k := 0) (by decide) (x := (ρ 0)) (nwS_ne _ (by decide) _) (sm_obj _ _) rfl 12 (by decide) gw_951 (v := .ref (ad 2)) rfl dX9_text_109 ?_
      refine lv_iload_n hx hb dX9_text_112 rfl (lv_at hl 0 rfl) ?_
      refine lv_aload_n hx hb dX9_text_113 rfl (lv_at hl 2 rfl) ?_
      refine fgetx hx hb ht inG9 hown hK hP (k := 0) (by decide) (x := (ρ 0)) (nwS_ne _ (by decide) _) (sm_obj _ _) rfl 13 (by decide) gw_952 (v := .ref (ad 3)) rfl dX9_text_114 ?_
      refine lv_iload_n hx hb dX9_text_117 rfl (lv_at hl 0 rfl) ?_
      refine aldj hx hb hK hP (k := 3) (by decide) (x := (ρ 3)) (nwS_ne _ (by decide) _) 0 (sm_read _ _) rfl (vp_in_nI (by omega) (by decide)) (j := k) (nI_clamp (by omega)) dX9_text_118 ?_
      refine astj hx hb hK hP hI hS (k := 2) (by decide) 0 (fun f => sm_now f _ ) rfl (vp_in_nI (by omega) (by decide)) (j := k) (nI_clamp (by omega)) dX9_text_119 (fun H locs hP hS => ?_)
      refine lv_iinc (v := (nI k) + 1) (lv' := [(2, .int ((nI k) + 1)), (1, .int l_), (0, .ref (ad 0))]) hx hb dX9_text_120 hl (k := 0) rfl rfl (by decide) rfl (fun ls hl => ?_)
      refine lv_goto (tgt := 101) hx hb dX9_text_123 (by decide) ?_
      rw [nI_1] at hl
      exact ih ρ υ l_ (k + 1) (by omega) (by omega) hR _ _ (by rw [nwS]; exact hP) hS ls (lv_sub hl [0, 1, 2] rfl)
set_option maxHeartbeats 4000000 in
set_option maxRecDepth 100000 in
theorem lp_X9_text2 {l : Launch} {D : va_G} {ca : Nat → ClassId} {ad : Nat → Nat} (hI : Inj 6 ad) {σ : MI} {τ : ML} {t : Nat} (et : σ 0 2 = nI t) (ht7 : t ≤ 740) (h67 : σ 0 6 = 3 → 0 ≤ (σ 0 7).toInt) {p : Program} {e : Env} {s : State} {m : MethodId} {args : Array Value} {below : List Frame} {meth : Method} {c : Code} (hx : p.tables.exec = Jvm.exec) (hb : c.code = cX9_text) (hr : meth.sig.returnType = (some .int)) (ht : ∀ w ∈ GG, w.before args s = true) (hown : s.vm.findClass yX9_text.cls = some m.cls) (hlk : meth.locks = false) (hml : c.maxLocals = 3) (hK : va_K D vwCl (TY ca) s) (hN : NW s) : ∀ (n : Nat) (ρ : MI) (υ : ML) (r k : Nat) (hk : k + r = 14) (hn : r < n) (hT : TI ρ) (hL : LI ρ) (hcn : if k = 0 then ρ 3 1 = 0 ∧ ρ 3 494 = 0 else (k : Int) = 1 + (ρ 3 1).toInt + (ρ 3 494).toInt) (hR : mxL (r + 1) k ρ υ = mxP σ τ) (H : Heap) (locs : List Loc) (hP : PW D 6 ad (mxf ca ad) ρ υ H) (hS : va_S (AA 6 ad) s.heap H locs) (ls : Array Slot) (hl : lv_has ls 3 [(1, .int (nI k)), (0, .ref (ad 0))]), W p l e { frames := 6, cells := 0, slots := 0, locals := 135 } s m args below meth c H locs 0 0 (MQ below (QD D 6 ad (mxf ca ad) (fun v_ S_ T_ => some (.int ((mxP σ τ).1)) = v_ ∧ ((mxP σ τ).2.1) = S_ ∧ ((mxP σ τ).2.2) = T_)) args s 0 0 (AA 6 ad)) (F0 m 56 ls []) := by
  intro n
  induction n with
  | zero => intro ρ υ r k hk hn hT hL hcn hR H locs hP hS ls hl; exfalso; omega
  | succ n ih =>
    intro ρ υ r k hk hn hT hL hcn hR H locs hP hS ls hl
    have ek : (nI k).toInt = k := nI_toInt (by omega)
    have e0 : (0 : Int32).toInt = 0 := rfl
    refine lv_aload_n hx hb dX9_text_56 rfl (lv_at hl 1 rfl) ?_
    refine fgetx hx hb ht inG9 hown hK hP (k := 0) (by decide) (x := (ρ 0)) rfl (sm_obj _ _) rfl 6 (by decide) gw_945 (v := .int ((ρ 0) 6)) rfl dX9_text_57 ?_
    refine lv_if_eq (tgt := 99) hx hb dX9_text_60 (by decide) (fun c1 => ?_) (fun c1 => ?_)
    · have dc1 := c1
      rw [i_eq] at dc1
      refine lv_iconst (v := 0) hx hb dX9_text_99 (by decide) ?_
      refine lv_istore_n (lv' := [(2, .int 0), (1, .int (nI k)), (0, .ref (ad 0))]) hx hb dX9_text_100 rfl hl (by decide) rfl (fun ls hl => ?_)
      exact lp_X9_text3 hI et ht7 h67 hx hb hr ht hown hlk hml hK hN 881 ρ υ (nI k) 0 (by omega) (by omega) (by rw [← hR, mxL, if_pos c1]) _ _ hP hS ls (lv_sub hl [0, 1, 2] rfl)
    · have dc1 := c1
      rw [i_eq] at dc1
      refine lv_aload_n hx hb dX9_text_63 rfl (lv_at hl 1 rfl) ?_
      refine lv_iload_n hx hb dX9_text_64 rfl (lv_at hl 0 rfl) ?_
      refine lv_if_ne (tgt := 72) hx hb dX9_text_65 (by decide) (fun c2 => ?_) (fun c2 => ?_)
      · have dc2 := c2
        rw [i_eq] at dc2
        have hk0 : ¬ k = 0 := fun q => c2 (by rw [q]; rfl)
        have hd : decide (k = 0) = false := decide_eq_false hk0
        have hLn := mlP_ok (σ := ρ) υ false hT hL (fun q => by cases q)
        refine lv_iconst (v := 0) hx hb dX9_text_72 (by decide) ?_
        refine callv (y := yX9_readLine) ⟨hx, hb, hml, hown, ht⟩ hK hN hP hS (k := 0) (c_X9_readLine l D ca ad hI ρ υ false hT hL) (by decide) (sm_obj _ _) rfl ok_X9_readLine gw_1012 ⟨by decide, by decide⟩ rfl hl.1 rfl (Nat.le_of_ble_eq_true rfl) ⟨by decide, by decide⟩ dX9_text_73 (fun v_ S_ T_ H locs hp3 hP hS => ?_)
        obtain ⟨rfl, rfl, rfl⟩ := hp3
        try dsimp only [Option.toList, List.cons_append, List.nil_append]
        refine br_eq (tgt := 86) hx hb dX9_text_76 (by decide) (fun c4 => ?_) (fun c4 => ?_)
        · refine lv_iconst (v := -1) hx hb dX9_text_86 (by decide) ?_
          refine lv_aload_n hx hb dX9_text_87 rfl (lv_at hl 1 rfl) ?_
          refine fgetx hx hb ht inG9 hown hK hP (k := 0) (by decide) (x := (((mlP ρ υ false).2.1) 0)) rfl (sm_obj _ _) rfl 10 (by decide) gw_949 (v := .int ((((mlP ρ υ false).2.1) 0) 10)) rfl dX9_text_88 ?_
          refine lv_isub hx hb dX9_text_91 ?_
          exact ret_i hx hb hr hlk hP hS dX9_text_92 (⟨by rw [← hR]; simp only [mxL, c1, c4, hd, ↓reduceIte, Bool.false_eq_true], by rw [← hR]; simp only [mxL, c1, c4, hd, ↓reduceIte, Bool.false_eq_true], by rw [← hR]; simp only [mxL, c1, c4, hd, ↓reduceIte, Bool.false_eq_true]⟩)
        · refine lv_aload_n hx hb dX9_text_79 rfl (lv_at hl 1 rfl) ?_
          refine callv (y := yX9_readEnd) ⟨hx, hb, hml, hown, ht⟩ hK hN hP hS (k := 0) (c_X9_readEnd l D ca ad hI ((mlP ρ υ false).2.1) ((mlP ρ υ false).2.2) hLn.1) (by decide) (sm_obj _ _) rfl ok_X9_readEnd gw_1077 ⟨by decide, by decide⟩ rfl hl.1 rfl (Nat.le_of_ble_eq_true rfl) ⟨by decide, by decide⟩ dX9_text_80 (fun v_ S_ T_ H locs hp5 hP hS => ?_)
          obtain ⟨rfl, rfl, rfl⟩ := hp5
          try dsimp only [Option.toList, List.cons_append, List.nil_append]
          refine br_ne (tgt := 93) hx hb dX9_text_83 (by decide) (fun c6 => ?_) (fun c6 => ?_)
          · refine lv_iinc (v := (nI k) + 1) (lv' := [(1, .int ((nI k) + 1)), (0, .ref (ad 0))]) hx hb dX9_text_93 hl (k := 0) rfl rfl (by decide) rfl (fun ls hl => ?_)
            refine lv_goto (tgt := 56) hx hb dX9_text_96 (by decide) ?_
            obtain ⟨hL9, hLc⟩ := hLn.2.2 c4
            rw [if_neg (by decide)] at hLc
            rw [if_neg hk0] at hcn
            have hc9 : ((k + 1 : Nat) : Int) = 1 + ((mlP ρ υ false).2.1 3 1).toInt + ((mlP ρ υ false).2.1 3 494).toInt := by omega
            have hr1 := hL9.1.2.1
            have hr4 := hL9.1.2.2.1
            unfold rg at hr1 hr4
            obtain ⟨r', rfl⟩ : ∃ r', r = r' + 1 := ⟨r - 1, by omega⟩
            rw [mxL, if_neg c1, hd, if_pos c4, if_pos c6] at hR
            rw [nI_1] at hl
            exact ih _ _ r' (k + 1) (by omega) (by omega) (TI_me hLn.1) (LI_row hL9 (meM_3 _)) (by rw [if_neg (by omega), meM_3]; exact hc9) hR _ _ hP hS ls (lv_sub hl [0, 1] rfl)
          · refine lv_iconst (v := -1) hx hb dX9_text_86 (by decide) ?_
            refine lv_aload_n hx hb dX9_text_87 rfl (lv_at hl 1 rfl) ?_
            refine fgetx hx hb ht inG9 hown hK hP (k := 0) (by decide) (x := ((meM ((mlP ρ υ false).2.1)) 0)) rfl (sm_obj _ _) rfl 10 (by decide) gw_949 (v := .int (((meM ((mlP ρ υ false).2.1)) 0) 10)) rfl dX9_text_88 ?_
            refine lv_isub hx hb dX9_text_91 ?_
            exact ret_i hx hb hr hlk hP hS dX9_text_92 (⟨by rw [← hR]; simp only [mxL, c1, c4, c6, hd, ↓reduceIte, Bool.false_eq_true], by rw [← hR]; simp only [mxL, c1, c4, c6, hd, ↓reduceIte, Bool.false_eq_true], by rw [← hR]; simp only [mxL, c1, c4, c6, hd, ↓reduceIte, Bool.false_eq_true]⟩)
      · have dc2 := c2
        rw [i_eq] at dc2
        have hk0 : k = 0 := by omega
        have hd : decide (k = 0) = true := decide_eq_true hk0
        have hLn := mlP_ok (σ := ρ) υ true hT hL (fun _ => by rw [if_pos hk0] at hcn; exact hcn)
        refine lv_iconst (v := 1) hx hb dX9_text_68 (by decide) ?_
        refine lv_goto (tgt := 73) hx hb dX9_text_69 (by decide) ?_
        refine callv (y := yX9_readLine) ⟨hx, hb, hml, hown, ht⟩ hK hN hP hS (k := 0) (c_X9_readLine l D ca ad hI ρ υ true hT hL) (by decide) (sm_obj _ _) rfl ok_X9_readLine gw_1012 ⟨by decide, by decide⟩ rfl hl.1 rfl (Nat.le_of_ble_eq_true rfl) ⟨by decide, by decide⟩ dX9_text_73 (fun v_ S_ T_ H locs hp7 hP hS => ?_)
        obtain ⟨rfl, rfl, rfl⟩ := hp7
        try dsimp only [Option.toList, List.cons_append, List.nil_append]
        refine br_eq (tgt := 86) hx hb dX9_text_76 (by decide) (fun c8 => ?_) (fun c8 => ?_)
        · refine lv_iconst (v := -1) hx hb dX9_text_86 (by decide) ?_
          refine lv_aload_n hx hb dX9_text_87 rfl (lv_at hl 1 rfl) ?_
          refine fgetx hx hb ht inG9 hown hK hP (k := 0) (by decide) (x := (((mlP ρ υ true).2.1) 0)) rfl (sm_obj _ _) rfl 10 (by decide) gw_949 (v := .int ((((mlP ρ υ true).2.1) 0) 10)) rfl dX9_text_88 ?_
          refine lv_isub hx hb dX9_text_91 ?_
          exact ret_i hx hb hr hlk hP hS dX9_text_92 (⟨by rw [← hR]; simp only [mxL, c1, c8, hd, ↓reduceIte, Bool.false_eq_true], by rw [← hR]; simp only [mxL, c1, c8, hd, ↓reduceIte, Bool.false_eq_true], by rw [← hR]; simp only [mxL, c1, c8, hd, ↓reduceIte, Bool.false_eq_true]⟩)
        · refine lv_aload_n hx hb dX9_text_79 rfl (lv_at hl 1 rfl) ?_
          refine callv (y := yX9_readEnd) ⟨hx, hb, hml, hown, ht⟩ hK hN hP hS (k := 0) (c_X9_readEnd l D ca ad hI ((mlP ρ υ true).2.1) ((mlP ρ υ true).2.2) hLn.1) (by decide) (sm_obj _ _) rfl ok_X9_readEnd gw_1077 ⟨by decide, by decide⟩ rfl hl.1 rfl (Nat.le_of_ble_eq_true rfl) ⟨by decide, by decide⟩ dX9_text_80 (fun v_ S_ T_ H locs hp9 hP hS => ?_)
          obtain ⟨rfl, rfl, rfl⟩ := hp9
          try dsimp only [Option.toList, List.cons_append, List.nil_append]
          refine br_ne (tgt := 93) hx hb dX9_text_83 (by decide) (fun c10 => ?_) (fun c10 => ?_)
          · refine lv_iinc (v := (nI k) + 1) (lv' := [(1, .int ((nI k) + 1)), (0, .ref (ad 0))]) hx hb dX9_text_93 hl (k := 0) rfl rfl (by decide) rfl (fun ls hl => ?_)
            refine lv_goto (tgt := 56) hx hb dX9_text_96 (by decide) ?_
            obtain ⟨hL9, hLc⟩ := hLn.2.2 c8
            rw [if_pos rfl] at hLc
            rw [if_pos hk0] at hcn
            have hc9 : ((k + 1 : Nat) : Int) = 1 + ((mlP ρ υ true).2.1 3 1).toInt + ((mlP ρ υ true).2.1 3 494).toInt := by rw [hLc.1, hLc.2, hcn.1, hcn.2, hk0]; rfl
            have hr1 := hL9.1.2.1
            have hr4 := hL9.1.2.2.1
            unfold rg at hr1 hr4
            obtain ⟨r', rfl⟩ : ∃ r', r = r' + 1 := ⟨r - 1, by omega⟩
            rw [mxL, if_neg c1, hd, if_pos c8, if_pos c10] at hR
            rw [nI_1] at hl
            exact ih _ _ r' (k + 1) (by omega) (by omega) (TI_me hLn.1) (LI_row hL9 (meM_3 _)) (by rw [if_neg (by omega), meM_3]; exact hc9) hR _ _ hP hS ls (lv_sub hl [0, 1] rfl)
          · refine lv_iconst (v := -1) hx hb dX9_text_86 (by decide) ?_
            refine lv_aload_n hx hb dX9_text_87 rfl (lv_at hl 1 rfl) ?_
            refine fgetx hx hb ht inG9 hown hK hP (k := 0) (by decide) (x := ((meM ((mlP ρ υ true).2.1)) 0)) rfl (sm_obj _ _) rfl 10 (by decide) gw_949 (v := .int (((meM ((mlP ρ υ true).2.1)) 0) 10)) rfl dX9_text_88 ?_
            refine lv_isub hx hb dX9_text_91 ?_
            exact ret_i hx hb hr hlk hP hS dX9_text_92 (⟨by rw [← hR]; simp only [mxL, c1, c8, c10, hd, ↓reduceIte, Bool.false_eq_true], by rw [← hR]; simp only [mxL, c1, c8, c10, hd, ↓reduceIte, Bool.false_eq_true], by rw [← hR]; simp only [mxL, c1, c8, c10, hd, ↓reduceIte, Bool.false_eq_true]⟩)
set_option maxHeartbeats 4000000 in
set_option maxRecDepth 100000 in
theorem lp_X9_text1 {l : Launch} {D : va_G} {ca : Nat → ClassId} {ad : Nat → Nat} (hI : Inj 6 ad) {σ : MI} {τ : ML} {t : Nat} (et : σ 0 2 = nI t) (ht7 : t ≤ 740) (h67 : σ 0 6 = 3 → 0 ≤ (σ 0 7).toInt) {p : Program} {e : Env} {s : State} {m : MethodId} {args : Array Value} {below : List Frame} {meth : Method} {c : Code} (hx : p.tables.exec = Jvm.exec) (hb : c.code = cX9_text) (hr : meth.sig.returnType = (some .int)) (ht : ∀ w ∈ GG, w.before args s = true) (hown : s.vm.findClass yX9_text.cls = some m.cls) (hlk : meth.locks = false) (hml : c.maxLocals = 3) (hK : va_K D vwCl (TY ca) s) (hN : NW s) : ∀ (n : Nat) (k : Nat) (hk : k ≤ 880) (hn : 880 - k < n) (H : Heap) (locs : List Loc) (hP : PW D 6 ad (mxf ca ad) (zrS (s2 (s2 (s2 (s2 (s2 σ 0 0 0) 0 3 (σ 0 2)) 0 2 0) 0 9 0) 0 4 0) k) τ H) (hS : va_S (AA 6 ad) s.heap H locs) (ls : Array Slot) (hl : lv_has ls 3 [(2, .int (nI k)), (1, .int 0), (0, .ref (ad 0))]), W p l e { frames := 6, cells := 0, slots := 0, locals := 135 } s m args below meth c H locs 0 0 (MQ below (QD D 6 ad (mxf ca ad) (fun v_ S_ T_ => some (.int ((mxP σ τ).1)) = v_ ∧ ((mxP σ τ).2.1) = S_ ∧ ((mxP σ τ).2.2) = T_)) args s 0 0 (AA 6 ad)) (F0 m 32 ls []) := by
  intro n
  induction n with
  | zero => intro k hk hn H locs hP hS ls hl; exfalso; omega
  | succ n ih =>
    intro k hk hn H locs hP hS ls hl
    have ek : (nI k).toInt = k := nI_toInt (by omega)
    have e880 : (880 : Int32).toInt = 880 := rfl
    refine lv_iload_n hx hb dX9_text_32 rfl (lv_at hl 0 rfl) ?_
    refine lv_sipush (v := 880) hx hb dX9_text_33 (by decide) ?_
    refine lv_icmp_ge (tgt := 52) hx hb dX9_text_36 (by decide) (fun c1 => ?_) (fun c1 => ?_)
    · have dc1 := c1
      rw [i_le] at dc1
      have e9 : k = 880 := by omega
      rw [e9] at hP
      have hT0 : TI (zrS (s2 (s2 (s2 (s2 (s2 σ 0 0 0) 0 3 (σ 0 2)) 0 2 0) 0 9 0) 0 4 0) 880) := ⟨t, 0, by rw [zrS_ne _ (by decide), s2_nj _ _ _ (by decide), s2_nj _ _ _ (by decide), s2_nj _ _ _ (by decide), s2_eq, et], ht7, by rw [zrS_ne _ (by decide), s2_eq]; rfl, by omega, by rw [zrS_ne _ (by decide), s2_nj _ _ _ (by decide), s2_nj _ _ _ (by decide), s2_nj _ _ _ (by decide), s2_nj _ _ _ (by decide), s2_nj _ _ _ (by decide), s2_nj _ _ _ (by decide), s2_nj _ _ _ (by decide), s2_nj _ _ _ (by decide), s2_nj _ _ _ (by decide), s2_nj _ _ _ (by decide)]; exact h67⟩
      refine lv_aload_n hx hb dX9_text_52 rfl (lv_at hl 2 rfl) ?_
      refine callv (y := yX9_go) ⟨hx, hb, hml, hown, ht⟩ hK hN hP hS (k := 0) (c_X9_go l D ca ad hI (zrS (s2 (s2 (s2 (s2 (s2 σ 0 0 0) 0 3 (σ 0 2)) 0 2 0) 0 9 0) 0 4 0) 880) τ hT0) (by decide) (sm_obj _ _) rfl ok_X9_go gw_996 ⟨by decide, by decide⟩ rfl hl.1 rfl (Nat.le_of_ble_eq_true rfl) ⟨by decide, by decide⟩ dX9_text_53 (fun v_ S_ T_ H locs hp2 hP hS => ?_)
      obtain ⟨rfl, rfl, rfl⟩ := hp2
      try dsimp only [Option.toList, List.cons_append, List.nil_append]
      exact lp_X9_text2 hI et ht7 h67 hx hb hr ht hown hlk hml hK hN 15 _ _ 14 0 (by omega) (by omega) (TI_go hT0) (LI_row (LI_zero (σ := zrS (s2 (s2 (s2 (s2 (s2 σ 0 0 0) 0 3 (σ 0 2)) 0 2 0) 0 9 0) 0 4 0) 880) (fun j hj => zrS_at _ 880 hj)) (goM_3 _)) (by rw [if_pos rfl, goM_3]; exact ⟨zrS_at _ 880 (by omega), zrS_at _ 880 (by omega)⟩) rfl _ _ hP hS ls (lv_sub hl [1, 2] rfl)
    · have dc1 := c1
      rw [i_le] at dc1
      refine lv_aload_n hx hb dX9_text_39 rfl (lv_at hl 2 rfl) ?_
      refine fgetx hx hb ht inG9 hown hK hP (k := 0) (by decide) (x := (upd (upd (upd (upd (upd (σ 0) 0 0) 3 (σ 0 2)) 2 0) 9 0) 4 0)) ((zrS_ne _ (by decide) _).trans ((s2_k _ _ _ _).trans (congrArg (fun f => upd f 4 0) ((s2_k _ _ _ _).trans (congrArg (fun f => upd f 9 0) ((s2_k _ _ _ _).trans (congrArg (fun f => upd f 2 0) ((s2_k _ _ _ _).trans (congrArg (fun f => upd f 3 (σ 0 2)) (s2_k _ _ _ _)))))))))) (sm_obj _ _) rfl 13 (by decide) gw_952 (v := .ref (ad 3)) rfl dX9_text_40 ?_
      refine lv_iload_n hx hb dX9_text_43 rfl (lv_at hl 0 rfl) ?_
      refine lv_iconst (v := 0) hx hb dX9_text_44 (by decide) ?_
      refine astj hx hb hK hP hI hS (k := 3) (by decide) 0 (fun f => sm_read f _ ) rfl (vp_in_nI (by omega) (by decide)) (j := k) (nI_clamp (by omega)) dX9_text_45 (fun H locs hP hS => ?_)
      refine lv_iinc (v := (nI k) + 1) (lv' := [(2, .int ((nI k) + 1)), (1, .int 0), (0, .ref (ad 0))]) hx hb dX9_text_46 hl (k := 0) rfl rfl (by decide) rfl (fun ls hl => ?_)
      refine lv_goto (tgt := 32) hx hb dX9_text_49 (by decide) ?_
      rw [nI_1] at hl
      exact ih (k + 1) (by omega) (by omega) _ _ (by rw [zrS]; exact hP) hS ls (lv_sub hl [0, 1, 2] rfl)
set_option maxHeartbeats 4000000 in
set_option maxRecDepth 100000 in
theorem c_X9_text (l : Launch) (D : va_G) (ca : Nat → ClassId) (ad : Nat → Nat) (hI : Inj 6 ad) (σ : MI) (τ : ML) {t : Nat} (et : σ 0 2 = nI t) (ht7 : t ≤ 740) (h67 : σ 0 6 = 3 → 0 ≤ (σ 0 7).toInt) : CT l D (TY ca) 6 ad (mxf ca ad) yX9_text cX9_text 3 (some .int) 6 135 [.ref (ad 0)] σ τ (fun v_ S_ T_ => some (.int ((mxP σ τ).1)) = v_ ∧ ((mxP σ τ).2.1) = S_ ∧ ((mxP σ τ).2.2) = T_) := by
  refine CT.of (by decide) (Nat.le_of_ble_eq_true rfl) ?_
  intro p e s m args below meth c hx hb hr ht hown hlk hml hP hK hN hS ls hl
  have hl : lv_has ls 3 [(0, .ref (ad 0))] := hl
  refine lv_aload_n hx hb dX9_text_0 rfl (lv_at hl 0 rfl) ?_
  refine lv_iconst (v := 0) hx hb dX9_text_1 (by decide) ?_
  refine fputx (ref := "") (w := 0) hx hb ht inG9 tyX9 tyX9_ok nmX9 hown hK hP hI hS (k := 0) (by decide) (sm_obj _ _) rfl 0 (by decide) gw_939 rfl rfl rfl (Nat.le_of_ble_eq_true rfl) (sm_obj _ _) dX9_text_2 (fun H locs hP hS => ?_)
  refine lv_aload_n hx hb dX9_text_5 rfl (lv_at hl 0 rfl) ?_
  refine lv_aload_n hx hb dX9_text_6 rfl (lv_at hl 0 rfl) ?_
  refine fgetx hx hb ht inG9 hown hK hP (k := 0) (by decide) (x := (upd (σ 0) 0 0)) (s2_k _ _ _ _) (sm_obj _ _) rfl 2 (by decide) gw_941 (v := .int ((σ 0) 2)) rfl dX9_text_7 ?_
  refine fputx (ref := "") (w := (σ 0) 2) hx hb ht inG9 tyX9 tyX9_ok nmX9 hown hK hP hI hS (k := 0) (by decide) (sm_obj _ _) rfl 3 (by decide) gw_942 rfl rfl rfl (Nat.le_of_ble_eq_true rfl) (sm_obj _ _) dX9_text_10 (fun H locs hP hS => ?_)
  refine lv_aload_n hx hb dX9_text_13 rfl (lv_at hl 0 rfl) ?_
  refine lv_iconst (v := 0) hx hb dX9_text_14 (by decide) ?_
  refine fputx (ref := "") (w := 0) hx hb ht inG9 tyX9 tyX9_ok nmX9 hown hK hP hI hS (k := 0) (by decide) (sm_obj _ _) rfl 2 (by decide) gw_941 rfl rfl rfl (Nat.le_of_ble_eq_true rfl) (sm_obj _ _) dX9_text_15 (fun H locs hP hS => ?_)
  refine lv_aload_n hx hb dX9_text_18 rfl (lv_at hl 0 rfl) ?_
  refine lv_iconst (v := 0) hx hb dX9_text_19 (by decide) ?_
  refine fputx (ref := "") (w := 0) hx hb ht inG9 tyX9 tyX9_ok nmX9 hown hK hP hI hS (k := 0) (by decide) (sm_obj _ _) rfl 9 (by decide) gw_948 rfl rfl rfl (Nat.le_of_ble_eq_true rfl) (sm_obj _ _) dX9_text_20 (fun H locs hP hS => ?_)
  refine lv_aload_n hx hb dX9_text_23 rfl (lv_at hl 0 rfl) ?_
  refine lv_iconst (v := 0) hx hb dX9_text_24 (by decide) ?_
  refine fputx (ref := "") (w := 0) hx hb ht inG9 tyX9 tyX9_ok nmX9 hown hK hP hI hS (k := 0) (by decide) (sm_obj _ _) rfl 4 (by decide) gw_943 rfl rfl rfl (Nat.le_of_ble_eq_true rfl) (sm_obj _ _) dX9_text_25 (fun H locs hP hS => ?_)
  refine lv_iconst (v := 0) hx hb dX9_text_28 (by decide) ?_
  refine lv_istore_n (lv' := [(1, .int 0), (0, .ref (ad 0))]) hx hb dX9_text_29 rfl hl (by decide) rfl (fun ls hl => ?_)
  refine lv_iconst (v := 0) hx hb dX9_text_30 (by decide) ?_
  refine lv_istore_n (lv' := [(2, .int 0), (1, .int 0), (0, .ref (ad 0))]) hx hb dX9_text_31 rfl hl (by decide) rfl (fun ls hl => ?_)
  exact lp_X9_text1 hI et ht7 h67 hx hb hr ht hown hlk hml hK hN 881 0 (by omega) (by omega) _ _ hP hS ls (lv_sub hl [0, 1, 2] rfl)
