set_option maxHeartbeats 4000000 in
set_option maxRecDepth 100000 in
theorem c_X9_lastBase (l : Launch) (D : va_G) (ca : Nat → ClassId) (ad : Nat → Nat) (hI : Inj 6 ad) (σ : MI) (τ : ML) (hR : RI (σ 2)) (x : Int32) {a : Nat} (ea : x.toNatClampNeg = a) (va : vp_in x 6) : CT l D (TY ca) 6 ad (mxf ca ad) yX9_lastBase cX9_lastBase 2 (some .int) 1 23 [.ref (ad 0), .int x] σ τ (fun v_ S_ T_ => some (.int (mLate (σ 2) a)) = v_ ∧ σ = S_ ∧ τ = T_) := by
  refine CT.of (by decide) (Nat.le_of_ble_eq_true rfl) ?_
  intro p e s m args below meth c hx hb hr ht hown hlk hml hP hK hN hS ls hl
  have hl : lv_has ls 2 [(0, .ref (ad 0)), (1, .int x)] := hl
  refine lv_aload_n hx hb dX9_lastBase_0 rfl (lv_at hl 0 rfl) ?_
  refine fgetx hx hb ht inG9 hown hK hP (k := 0) (by decide) (x := (σ 0)) rfl (sm_obj _ _) rfl 12 (by decide) gw_951 (v := .ref (ad 2)) rfl dX9_lastBase_1 ?_
  refine lv_sipush (v := 434) hx hb dX9_lastBase_4 (by decide) ?_
  refine lv_bipush (v := 10) hx hb dX9_lastBase_7 (by decide) ?_
  refine lv_iload_n hx hb dX9_lastBase_9 rfl (lv_at hl 1 rfl) ?_
  refine lv_imul hx hb dX9_lastBase_10 ?_
  refine lv_iadd hx hb dX9_lastBase_11 ?_
  refine aldj hx hb hK hP (k := 2) (by decide) (x := (σ 2)) rfl 0 (sm_now _ _) rfl (ix1v 434 10 880 rfl rfl ea va (by have := vpa va ea; omega) (by decide)) (j := 434 + 10 * a) (ix1c 434 10 880 rfl rfl ea va (by have := vpa va ea; omega) (by decide)) dX9_lastBase_12 ?_
  refine lv_if_ne (tgt := 20) hx hb dX9_lastBase_13 (by decide) (fun c1 => ?_) (fun c1 => ?_)
  · have dc1 := c1
    rw [i_eq] at dc1
    refine lv_aload_n hx hb dX9_lastBase_20 rfl (lv_at hl 0 rfl) ?_
    refine lv_iload_n hx hb dX9_lastBase_21 rfl (lv_at hl 1 rfl) ?_
    refine lv_aload_n hx hb dX9_lastBase_22 rfl (lv_at hl 0 rfl) ?_
    refine fgetx hx hb ht inG9 hown hK hP (k := 0) (by decide) (x := (σ 0)) rfl (sm_obj _ _) rfl 12 (by decide) gw_951 (v := .ref (ad 2)) rfl dX9_lastBase_23 ?_
    refine lv_sipush (v := 434) hx hb dX9_lastBase_26 (by decide) ?_
    refine lv_bipush (v := 10) hx hb dX9_lastBase_29 (by decide) ?_
    refine lv_iload_n hx hb dX9_lastBase_31 rfl (lv_at hl 1 rfl) ?_
    refine lv_imul hx hb dX9_lastBase_32 ?_
    refine lv_iadd hx hb dX9_lastBase_33 ?_
    refine aldj hx hb hK hP (k := 2) (by decide) (x := (σ 2)) rfl 0 (sm_now _ _) rfl (ix1v 434 10 880 rfl rfl ea va (by have := vpa va ea; omega) (by decide)) (j := 434 + 10 * a) (ix1c 434 10 880 rfl rfl ea va (by have := vpa va ea; omega) (by decide)) dX9_lastBase_34 ?_
    refine lv_iconst (v := 1) hx hb dX9_lastBase_35 (by decide) ?_
    refine lv_isub hx hb dX9_lastBase_36 ?_
    refine lv_iconst (v := 0) hx hb dX9_lastBase_37 (by decide) ?_
    refine callv (y := yX9_baseOf) ⟨hx, hb, hml, hown, ht⟩ hK hN hP hS (k := 0) (c_X9_baseOf l D ca ad hI σ τ x (((σ 2) (434 + 10 * a)) - 1) (0 : Int32) ea va rfl (vp_m1 (hR.base (vpa va ea)) ‹_›) (show Int32.toNatClampNeg 0 = 0 from rfl) (by rw [vp_in_iff]; decide)) (by decide) (sm_obj _ _) rfl ok_X9_baseOf gw_1128 ⟨by decide, by decide⟩ rfl hl.1 rfl (Nat.le_of_ble_eq_true rfl) ⟨by decide, by decide⟩ dX9_lastBase_38 (fun v_ S_ T_ H locs hp2 hP hS => ?_)
    obtain ⟨rfl, rfl, rfl⟩ := hp2
    try dsimp only [Option.toList, List.cons_append, List.nil_append]
    exact ret_i hx hb hr hlk hP hS dX9_lastBase_41 (⟨by first | with_reducible rfl | (simp only [mLate, c1, ↓reduceIte, Bool.false_eq_true]; done) | (simp only [mLate, c1, ↓reduceIte, Bool.false_eq_true]; rfl) | rfl, by first | with_reducible rfl | (simp only [mLate, c1, ↓reduceIte, Bool.false_eq_true]; done) | (simp only [mLate, c1, ↓reduceIte, Bool.false_eq_true]; rfl) | rfl, rfl⟩)
  · have dc1 := c1
    rw [i_eq] at dc1
    refine lv_iconst (v := -1) hx hb dX9_lastBase_16 (by decide) ?_
    refine lv_goto (tgt := 41) hx hb dX9_lastBase_17 (by decide) ?_
    exact ret_i hx hb hr hlk hP hS dX9_lastBase_41 (⟨by first | with_reducible rfl | (simp only [mLate, c1, ↓reduceIte, Bool.false_eq_true]; done) | (simp only [mLate, c1, ↓reduceIte, Bool.false_eq_true]; rfl) | rfl, by first | with_reducible rfl | (simp only [mLate, c1, ↓reduceIte, Bool.false_eq_true]; done) | (simp only [mLate, c1, ↓reduceIte, Bool.false_eq_true]; rfl) | rfl, rfl⟩)
set_option maxHeartbeats 4000000 in
set_option maxRecDepth 100000 in
theorem lp_X9_snap2 {l : Launch} {D : va_G} {ca : Nat → ClassId} {ad : Nat → Nat} (hI : Inj 6 ad) {σ : MI} {τ : ML} (h8 : rg (σ 0 16) 0 8) {p : Program} {e : Env} {s : State} {m : MethodId} {args : Array Value} {below : List Frame} {meth : Method} {c : Code} (hx : p.tables.exec = Jvm.exec) (hb : c.code = cX9_snap) (hr : meth.sig.returnType = none) (ht : ∀ w ∈ GG, w.before args s = true) (hown : s.vm.findClass yX9_snap.cls = some m.cls) (hlk : meth.locks = false) (hml : c.maxLocals = 2) (hK : va_K D vwCl (TY ca) s) (hN : NW s) : ∀ (n : Nat) (ρ : MI) (hρ : rg (ρ 0 16) 0 7) (hfin : snC ρ = snS σ) (k : Nat) (hk : k ≤ 880) (hn : 880 - k < n) (H : Heap) (locs : List Loc) (hP : PW D 6 ad (mxf ca ad) (cpS ρ (880 * (ρ 0 16).toNatClampNeg) k) τ H) (hS : va_S (AA 6 ad) s.heap H locs) (ls : Array Slot) (hl : lv_has ls 2 [(1, .int (nI k)), (0, .ref (ad 0))]), W p l e { frames := 0, cells := 0, slots := 0, locals := 0 } s m args below meth c H locs 0 0 (MQ below (QD D 6 ad (mxf ca ad) (fun v_ S_ T_ => none = v_ ∧ (snS σ) = S_ ∧ τ = T_)) args s 0 0 (AA 6 ad)) (F0 m 52 ls []) := by
  intro n
  induction n with
  | zero => intro ρ hρ hfin k hk hn H locs hP hS ls hl; exfalso; omega
  | succ n ih =>
    intro ρ hρ hfin k hk hn H locs hP hS ls hl
    unfold rg at hρ
    have e8 : (880 : Int32).toInt = 880 := rfl
    have ek : (nI k).toInt = k := nI_toInt (by omega)
    have v7 : vp_in (ρ 0 16) 8 := by rw [vp_in_iff]; omega
    have h7 := clampN v7
    refine lv_iload_n hx hb dX9_snap_52 rfl (lv_at hl 0 rfl) ?_
    refine lv_sipush (v := 880) hx hb dX9_snap_53 (by decide) ?_
    refine lv_icmp_ge (tgt := 86) hx hb dX9_snap_56 (by decide) (fun c1 => ?_) (fun c1 => ?_)
    · have dc1 := c1
      rw [i_le] at dc1
      refine lv_aload_n hx hb dX9_snap_86 rfl (lv_at hl 1 rfl) ?_
      refine lv_dup hx hb dX9_snap_87 rfl ?_
      refine fgetx hx hb ht inG9 hown hK hP (k := 0) (by decide) (x := (ρ 0)) (cpS_ne _ _ (by decide) _) (sm_obj _ _) rfl 16 (by decide) gw_955 (v := .int ((ρ 0) 16)) rfl dX9_snap_88 ?_
      refine lv_iconst (v := 1) hx hb dX9_snap_91 (by decide) ?_
      refine lv_iadd hx hb dX9_snap_92 ?_
      refine fputx (ref := "") (w := ((ρ 0) 16) + 1) hx hb ht inG9 tyX9 tyX9_ok nmX9 hown hK hP hI hS (k := 0) (by decide) (sm_obj _ _) rfl 16 (by decide) gw_955 rfl rfl rfl (Nat.le_of_ble_eq_true rfl) (sm_obj _ _) dX9_snap_93 (fun H locs hP hS => ?_)
      exact ret_v hx hb hr hlk hP hS dX9_snap_96 (⟨rfl, by rw [← hfin, show k = 880 by omega]; rfl, rfl⟩)
    · have dc1 := c1
      rw [i_le] at dc1
      refine lv_aload_n hx hb dX9_snap_59 rfl (lv_at hl 1 rfl) ?_
      refine fgetx hx hb ht inG9 hown hK hP (k := 0) (by decide) (x := (ρ 0)) (cpS_ne _ _ (by decide) _) (sm_obj _ _) rfl 14 (by decide) gw_953 (v := .ref (ad 4)) rfl dX9_snap_60 ?_
      refine lv_sipush (v := 880) hx hb dX9_snap_63 (by decide) ?_
      refine lv_aload_n hx hb dX9_snap_66 rfl (lv_at hl 1 rfl) ?_
      refine fgetx hx hb ht inG9 hown hK hP (k := 0) (by decide) (x := (ρ 0)) (cpS_ne _ _ (by decide) _) (sm_obj _ _) rfl 16 (by decide) gw_955 (v := .int ((ρ 0) 16)) rfl dX9_snap_67 ?_
      refine lv_imul hx hb dX9_snap_70 ?_
      refine lv_iload_n hx hb dX9_snap_71 rfl (lv_at hl 0 rfl) ?_
      refine lv_iadd hx hb dX9_snap_72 ?_
      refine lv_aload_n hx hb dX9_snap_73 rfl (lv_at hl 1 rfl) ?_
      refine fgetx hx hb ht inG9 hown hK hP (k := 0) (by decide) (x := (ρ 0)) (cpS_ne _ _ (by decide) _) (sm_obj _ _) rfl 12 (by decide) gw_951 (v := .ref (ad 2)) rfl dX9_snap_74 ?_
      refine lv_iload_n hx hb dX9_snap_77 rfl (lv_at hl 0 rfl) ?_
      refine aldj hx hb hK hP (k := 2) (by decide) (x := (ρ 2)) (cpS_ne _ _ (by decide) _) 0 (sm_now _ _) rfl (vp_in_nI (by omega) (by decide)) (j := k) (nI_clamp (by omega)) dX9_snap_78 ?_
      refine astj hx hb hK hP hI hS (k := 4) (by decide) 0 (fun f => sm_snap f _ ) rfl (by rw [ixS rfl v7]; exact vp_in_nI (by omega) (by decide)) (j := (880 * (ρ 0 16).toNatClampNeg + k)) (by rw [ixS rfl v7]; exact nI_clamp (by omega)) dX9_snap_79 (fun H locs hP hS => ?_)
      refine lv_iinc (v := (nI k) + 1) (lv' := [(1, .int ((nI k) + 1)), (0, .ref (ad 0))]) hx hb dX9_snap_80 hl (k := 0) rfl rfl (by decide) rfl (fun ls hl => ?_)
      refine lv_goto (tgt := 52) hx hb dX9_snap_83 (by decide) ?_
      rw [nI_1] at hl
      exact ih ρ hρ hfin (k + 1) (by omega) (by omega) _ _ hP hS ls (lv_sub hl [0, 1] rfl)
set_option maxHeartbeats 4000000 in
set_option maxRecDepth 100000 in
theorem lp_X9_snap1 {l : Launch} {D : va_G} {ca : Nat → ClassId} {ad : Nat → Nat} (hI : Inj 6 ad) {σ : MI} {τ : ML} (h8 : rg (σ 0 16) 0 8) {p : Program} {e : Env} {s : State} {m : MethodId} {args : Array Value} {below : List Frame} {meth : Method} {c : Code} (hx : p.tables.exec = Jvm.exec) (hb : c.code = cX9_snap) (hr : meth.sig.returnType = none) (ht : ∀ w ∈ GG, w.before args s = true) (hown : s.vm.findClass yX9_snap.cls = some m.cls) (hlk : meth.locks = false) (hml : c.maxLocals = 2) (hK : va_K D vwCl (TY ca) s) (hN : NW s) : ∀ (n : Nat) (hs8 : σ 0 16 = 8) (k : Nat) (hk : k ≤ 6160) (hn : 6160 - k < n) (H : Heap) (locs : List Loc) (hP : PW D 6 ad (mxf ca ad) (shS σ k) τ H) (hS : va_S (AA 6 ad) s.heap H locs) (ls : Array Slot) (hl : lv_has ls 2 [(1, .int (nI k)), (0, .ref (ad 0))]), W p l e { frames := 0, cells := 0, slots := 0, locals := 0 } s m args below meth c H locs 0 0 (MQ below (QD D 6 ad (mxf ca ad) (fun v_ S_ T_ => none = v_ ∧ (snS σ) = S_ ∧ τ = T_)) args s 0 0 (AA 6 ad)) (F0 m 11 ls []) := by
  intro n
  induction n with
  | zero => intro hs8 k hk hn H locs hP hS ls hl; exfalso; omega
  | succ n ih =>
    intro hs8 k hk hn H locs hP hS ls hl
    have e8 : (6160 : Int32).toInt = 6160 := rfl
    have ek : (nI k).toInt = k := nI_toInt (by omega)
    refine lv_iload_n hx hb dX9_snap_11 rfl (lv_at hl 0 rfl) ?_
    refine lv_sipush (v := 6160) hx hb dX9_snap_12 (by decide) ?_
    refine lv_icmp_ge (tgt := 40) hx hb dX9_snap_15 (by decide) (fun c1 => ?_) (fun c1 => ?_)
    · have dc1 := c1
      rw [i_le] at dc1
      have hke : k = 6160 := by omega
      refine lv_aload_n hx hb dX9_snap_40 rfl (lv_at hl 1 rfl) ?_
      refine lv_dup hx hb dX9_snap_41 rfl ?_
      refine fgetx hx hb ht inG9 hown hK hP (k := 0) (by decide) (x := (σ 0)) (shS_ne _ (by decide) _) (sm_obj _ _) rfl 16 (by decide) gw_955 (v := .int ((σ 0) 16)) rfl dX9_snap_42 ?_
      refine lv_iconst (v := 1) hx hb dX9_snap_45 (by decide) ?_
      refine lv_isub hx hb dX9_snap_46 ?_
      refine fputx (ref := "") (w := ((σ 0) 16) - 1) hx hb ht inG9 tyX9 tyX9_ok nmX9 hown hK hP hI hS (k := 0) (by decide) (sm_obj _ _) rfl 16 (by decide) gw_955 rfl rfl rfl (Nat.le_of_ble_eq_true rfl) (sm_obj _ _) dX9_snap_47 (fun H locs hP hS => ?_)
      refine lv_iconst (v := 0) hx hb dX9_snap_50 (by decide) ?_
      refine lv_istore_n (lv' := [(1, .int 0), (0, .ref (ad 0))]) hx hb dX9_snap_51 rfl hl (by decide) rfl (fun ls hl => ?_)
      exact lp_X9_snap2 hI h8 hx hb hr ht hown hlk hml hK hN 881 (s2 (shS σ k) 0 16 (σ 0 16 - 1)) (by rw [s2_eq, hs8]; exact ⟨by decide, by decide⟩) (by rw [snS, sn1, if_pos hs8, hke]) 0 (by omega) (by omega) _ _ hP hS ls hl
    · have dc1 := c1
      rw [i_le] at dc1
      refine lv_aload_n hx hb dX9_snap_18 rfl (lv_at hl 1 rfl) ?_
      refine fgetx hx hb ht inG9 hown hK hP (k := 0) (by decide) (x := (σ 0)) (shS_ne _ (by decide) _) (sm_obj _ _) rfl 14 (by decide) gw_953 (v := .ref (ad 4)) rfl dX9_snap_19 ?_
      refine lv_iload_n hx hb dX9_snap_22 rfl (lv_at hl 0 rfl) ?_
      refine lv_aload_n hx hb dX9_snap_23 rfl (lv_at hl 1 rfl) ?_
      refine fgetx hx hb ht inG9 hown hK hP (k := 0) (by decide) (x := (σ 0)) (shS_ne _ (by decide) _) (sm_obj _ _) rfl 14 (by decide) gw_953 (v := .ref (ad 4)) rfl dX9_snap_24 ?_
      refine lv_iload_n hx hb dX9_snap_27 rfl (lv_at hl 0 rfl) ?_
      refine lv_sipush (v := 880) hx hb dX9_snap_28 (by decide) ?_
      refine lv_iadd hx hb dX9_snap_31 ?_
      refine aldj hx hb hK hP (k := 4) (by decide) (x := ((shS σ k) 4)) rfl 0 (sm_snap _ _) rfl (by rw [ad880]; exact vp_in_nI (by omega) (by decide)) (j := (k + 880)) (by rw [ad880]; exact nI_clamp (by omega)) dX9_snap_32 ?_
      refine astj hx hb hK hP hI hS (k := 4) (by decide) 0 (fun f => sm_snap f _ ) rfl (vp_in_nI (by omega) (by decide)) (j := k) (nI_clamp (by omega)) dX9_snap_33 (fun H locs hP hS => ?_)
      refine lv_iinc (v := (nI k) + 1) (lv' := [(1, .int ((nI k) + 1)), (0, .ref (ad 0))]) hx hb dX9_snap_34 hl (k := 0) rfl rfl (by decide) rfl (fun ls hl => ?_)
      refine lv_goto (tgt := 11) hx hb dX9_snap_37 (by decide) ?_
      rw [nI_1] at hl
      exact ih hs8 (k + 1) (by omega) (by omega) _ _ hP hS ls (lv_sub hl [0, 1] rfl)
set_option maxHeartbeats 4000000 in
set_option maxRecDepth 100000 in
theorem c_X9_snap (l : Launch) (D : va_G) (ca : Nat → ClassId) (ad : Nat → Nat) (hI : Inj 6 ad) (σ : MI) (τ : ML) (h8 : rg (σ 0 16) 0 8) : CT l D (TY ca) 6 ad (mxf ca ad) yX9_snap cX9_snap 2 none 0 0 [.ref (ad 0)] σ τ (fun v_ S_ T_ => none = v_ ∧ (snS σ) = S_ ∧ τ = T_) := by
  refine CT.of (by decide) (Nat.le_of_ble_eq_true rfl) ?_
  intro p e s m args below meth c hx hb hr ht hown hlk hml hP hK hN hS ls hl
  have hl : lv_has ls 2 [(0, .ref (ad 0))] := hl
  refine lv_aload_n hx hb dX9_snap_0 rfl (lv_at hl 0 rfl) ?_
  refine fgetx hx hb ht inG9 hown hK hP (k := 0) (by decide) (x := (σ 0)) rfl (sm_obj _ _) rfl 16 (by decide) gw_955 (v := .int ((σ 0) 16)) rfl dX9_snap_1 ?_
  refine lv_bipush (v := 8) hx hb dX9_snap_4 (by decide) ?_
  refine lv_icmp_ne (tgt := 50) hx hb dX9_snap_6 (by decide) (fun c1 => ?_) (fun c1 => ?_)
  · have dc1 := c1
    rw [i_eq] at dc1
    refine lv_iconst (v := 0) hx hb dX9_snap_50 (by decide) ?_
    refine lv_istore_n (lv' := [(1, .int 0), (0, .ref (ad 0))]) hx hb dX9_snap_51 rfl hl (by decide) rfl (fun ls hl => ?_)
    exact lp_X9_snap2 hI h8 hx hb hr ht hown hlk hml hK hN 881 σ (by unfold rg at h8 ⊢; have e8 : (8 : Int32).toInt = 8 := rfl; omega) (by rw [snS, sn1, if_neg c1]) 0 (by omega) (by omega) _ _ hP hS ls hl
  · have dc1 := c1
    rw [i_eq] at dc1
    refine lv_iconst (v := 0) hx hb dX9_snap_9 (by decide) ?_
    refine lv_istore_n (lv' := [(1, .int 0), (0, .ref (ad 0))]) hx hb dX9_snap_10 rfl hl (by decide) rfl (fun ls hl => ?_)
    exact lp_X9_snap1 hI h8 hx hb hr ht hown hlk hml hK hN 6161 c1 0 (by omega) (by omega) _ _ hP hS ls hl
set_option maxHeartbeats 4000000 in
set_option maxRecDepth 100000 in
theorem c_X9_publish (l : Launch) (D : va_G) (ca : Nat → ClassId) (ad : Nat → Nat) (hI : Inj 6 ad) (σ : MI) (τ : ML) (hR : RI (σ 2)) (h8 : rg (σ 0 16) 0 8) (x mo v : Int32) (b : Bool) : CT l D (TY ca) 6 ad (mxf ca ad) yX9_publish cX9_publish 6 (some .int) 2 44 [.ref (ad 0), .int x, .int mo, .int v, .int (b2i b)] σ τ (fun v_ S_ T_ => some (.int (mPbR (σ 2) x mo v)) = v_ ∧ (mPbM σ x mo v b) = S_ ∧ τ = T_) := by
  refine CT.of (by decide) (Nat.le_of_ble_eq_true rfl) ?_
  intro p e s m args below meth c hx hb hr ht hown hlk hml hP hK hN hS ls hl
  have hl : lv_has ls 6 [(0, .ref (ad 0)), (1, .int x), (2, .int mo), (3, .int v), (4, .int (b2i b))] := hl
  refine lv_aload_n hx hb dX9_publish_0 rfl (lv_at hl 0 rfl) ?_
  refine lv_iconst (v := 0) hx hb dX9_publish_1 (by decide) ?_
  refine fputx (ref := "") (w := 0) hx hb ht inG9 tyX9 tyX9_ok nmX9 hown hK hP hI hS (k := 0) (by decide) (sm_obj _ _) rfl 0 (by decide) gw_939 rfl rfl rfl (Nat.le_of_ble_eq_true rfl) (sm_obj _ _) dX9_publish_2 (fun H locs hP hS => ?_)
  refine lv_aload_n hx hb dX9_publish_5 rfl (lv_at hl 0 rfl) ?_
  refine lv_iload_n hx hb dX9_publish_6 rfl (lv_at hl 1 rfl) ?_
  refine callv (y := yX9_isIndex) ⟨hx, hb, hml, hown, ht⟩ hK hN hP hS (k := 0) (c_X9_isIndex l D ca ad hI (s2 σ 0 0 0) τ x) (by decide) (sm_obj _ _) rfl ok_X9_isIndex gw_1105 ⟨by decide, by decide⟩ rfl hl.1 rfl (Nat.le_of_ble_eq_true rfl) ⟨by decide, by decide⟩ dX9_publish_7 (fun v_ S_ T_ H locs hp1 hP hS => ?_)
  obtain ⟨rfl, rfl, rfl⟩ := hp1
  try dsimp only [Option.toList, List.cons_append, List.nil_append]
  refine stk_i (v := (b2i (mIn x 0 ((σ 2) 1 - 1)))) (by first | (rw [(show (s2 σ 0 0 0) 2 = (σ 2) from (s2_nk _ _ _ (by omega)))]; done) | (rw [(show (s2 σ 0 0 0) 2 = (σ 2) from (s2_nk _ _ _ (by omega)))]; rfl)) ?_
  refine br_eq (tgt := 36) hx hb dX9_publish_10 (by decide) (fun c2 => ?_) (fun c2 => ?_)
  · refine lv_iconst (v := -1) hx hb dX9_publish_36 (by decide) ?_
    exact ret_i hx hb hr hlk hP hS dX9_publish_37 (⟨by have hq : mPbC (σ 2) x mo v = (-1) := (by simp only [mPbC, c2, ↓reduceIte, Bool.false_eq_true]); rw [mPbR, hq, if_neg n11], by have hq : mPbC (σ 2) x mo v = (-1) := (by simp only [mPbC, c2, ↓reduceIte, Bool.false_eq_true]); rw [mPbM, hq, if_neg n11], rfl⟩)
  · have vx := (mIx hR c2).1
    refine lv_iload_n hx hb dX9_publish_13 rfl (lv_at hl 2 rfl) ?_
    refine lv_iconst (v := 0) hx hb dX9_publish_14 (by decide) ?_
    refine lv_aload_n hx hb dX9_publish_15 rfl (lv_at hl 0 rfl) ?_
    refine callv (y := yX9_month) ⟨hx, hb, hml, hown, ht⟩ hK hN hP hS (k := 0) (c_X9_month l D ca ad hI (s2 σ 0 0 0) τ ) (by decide) (sm_obj _ _) rfl ok_X9_month gw_1089 ⟨by decide, by decide⟩ rfl hl.1 rfl (Nat.le_of_ble_eq_true rfl) ⟨by decide, by decide⟩ dX9_publish_16 (fun v_ S_ T_ H locs hp3 hP hS => ?_)
    obtain ⟨rfl, rfl, rfl⟩ := hp3
    try dsimp only [Option.toList, List.cons_append, List.nil_append]
    refine stk_i (v := ((σ 2) 0)) (by first | (rw [(show (s2 σ 0 0 0) 2 = (σ 2) from (s2_nk _ _ _ (by omega)))]; done) | (rw [(show (s2 σ 0 0 0) 2 = (σ 2) from (s2_nk _ _ _ (by omega)))]; rfl)) ?_
    refine calls (y := yX9_isIn) ⟨hx, hb, hml, hown, ht⟩ hK hN hP hS (c_X9_isIn l D ca ad hI (s2 σ 0 0 0) τ mo (0 : Int32) ((σ 2) 0)) ok_X9_isIn gw_1042 ⟨by decide, by decide⟩ rfl hl.1 rfl (Nat.le_of_ble_eq_true rfl) ⟨by decide, by decide⟩ dX9_publish_19 (fun v_ S_ T_ H locs hp4 hP hS => ?_)
    obtain ⟨rfl, rfl, rfl⟩ := hp4
    try dsimp only [Option.toList, List.cons_append, List.nil_append]
    refine br_eq (tgt := 36) hx hb dX9_publish_22 (by decide) (fun c5 => ?_) (fun c5 => ?_)
    · refine lv_iconst (v := -1) hx hb dX9_publish_36 (by decide) ?_
      exact ret_i hx hb hr hlk hP hS dX9_publish_37 (⟨by have hq : mPbC (σ 2) x mo v = (-1) := (by simp only [mPbC, c2, c5, ↓reduceIte, Bool.false_eq_true]); rw [mPbR, hq, if_neg n11], by have hq : mPbC (σ 2) x mo v = (-1) := (by simp only [mPbC, c2, c5, ↓reduceIte, Bool.false_eq_true]); rw [mPbM, hq, if_neg n11], rfl⟩)
    · have vm := mNx hR c5
      refine lv_iload_n hx hb dX9_publish_25 rfl (lv_at hl 3 rfl) ?_
      refine lv_iconst (v := 1) hx hb dX9_publish_26 (by decide) ?_
      refine lv_sipush (v := 999) hx hb dX9_publish_27 (by decide) ?_
      refine calls (y := yX9_isIn) ⟨hx, hb, hml, hown, ht⟩ hK hN hP hS (c_X9_isIn l D ca ad hI (s2 σ 0 0 0) τ v (1 : Int32) (999 : Int32)) ok_X9_isIn gw_1042 ⟨by decide, by decide⟩ rfl hl.1 rfl (Nat.le_of_ble_eq_true rfl) ⟨by decide, by decide⟩ dX9_publish_30 (fun v_ S_ T_ H locs hp6 hP hS => ?_)
      obtain ⟨rfl, rfl, rfl⟩ := hp6
      try dsimp only [Option.toList, List.cons_append, List.nil_append]
      refine br_ne (tgt := 38) hx hb dX9_publish_33 (by decide) (fun c7 => ?_) (fun c7 => ?_)
      · refine lv_aload_n hx hb dX9_publish_38 rfl (lv_at hl 0 rfl) ?_
        refine lv_iload_n hx hb dX9_publish_39 rfl (lv_at hl 1 rfl) ?_
        refine lv_iload_n hx hb dX9_publish_40 rfl (lv_at hl 2 rfl) ?_
        refine callv (y := yX9_sureOf) ⟨hx, hb, hml, hown, ht⟩ hK hN hP hS (k := 0) (c_X9_sureOf l D ca ad hI (s2 σ 0 0 0) τ x mo rfl (by assumption) rfl (by assumption)) (by decide) (sm_obj _ _) rfl ok_X9_sureOf gw_1116 ⟨by decide, by decide⟩ rfl hl.1 rfl (Nat.le_of_ble_eq_true rfl) ⟨by decide, by decide⟩ dX9_publish_41 (fun v_ S_ T_ H locs hp8 hP hS => ?_)
        obtain ⟨rfl, rfl, rfl⟩ := hp8
        try dsimp only [Option.toList, List.cons_append, List.nil_append]
        refine stk_i (v := ((σ 2) (218 + 36 * x.toNatClampNeg + mo.toNatClampNeg))) (by first | (rw [(show (s2 σ 0 0 0) 2 = (σ 2) from (s2_nk _ _ _ (by omega)))]; done) | (rw [(show (s2 σ 0 0 0) 2 = (σ 2) from (s2_nk _ _ _ (by omega)))]; rfl)) ?_
        refine lv_iconst (v := 2) hx hb dX9_publish_44 (by decide) ?_
        refine lv_icmp_ne (tgt := 51) hx hb dX9_publish_45 (by decide) (fun c9 => ?_) (fun c9 => ?_)
        · have dc9 := c9
          rw [i_eq] at dc9
          refine lv_iload_n hx hb dX9_publish_51 rfl (lv_at hl 2 rfl) ?_
          refine lv_aload_n hx hb dX9_publish_52 rfl (lv_at hl 0 rfl) ?_
          refine lv_iload_n hx hb dX9_publish_53 rfl (lv_at hl 1 rfl) ?_
          refine callv (y := yX9_lastBase) ⟨hx, hb, hml, hown, ht⟩ hK hN hP hS (k := 0) (c_X9_lastBase l D ca ad hI (s2 σ 0 0 0) τ (by rw [show (s2 σ 0 0 0) 2 = (σ 2) from (s2_nk _ _ _ (by omega))]; exact hR) x rfl (by assumption)) (by decide) (sm_obj _ _) rfl ok_X9_lastBase gw_1219 ⟨by decide, by decide⟩ rfl hl.1 rfl (Nat.le_of_ble_eq_true rfl) ⟨by decide, by decide⟩ dX9_publish_54 (fun v_ S_ T_ H locs hp10 hP hS => ?_)
          obtain ⟨rfl, rfl, rfl⟩ := hp10
          try dsimp only [Option.toList, List.cons_append, List.nil_append]
          refine stk_i (v := (mLate ((σ 2)) x.toNatClampNeg)) (by first | (rw [(show (s2 σ 0 0 0) 2 = (σ 2) from (s2_nk _ _ _ (by omega)))]; done) | (rw [(show (s2 σ 0 0 0) 2 = (σ 2) from (s2_nk _ _ _ (by omega)))]; rfl)) ?_
          refine lv_icmp_gt (tgt := 63) hx hb dX9_publish_57 (by decide) (fun c11 => ?_) (fun c11 => ?_)
          · have dc11 := c11
            rw [i_lt] at dc11
            refine lv_aload_n hx hb dX9_publish_63 rfl (lv_at hl 0 rfl) ?_
            refine callv (y := yX9_snap) ⟨hx, hb, hml, hown, ht⟩ hK hN hP hS (k := 0) (c_X9_snap l D ca ad hI (s2 σ 0 0 0) τ (by rw [s2_nj _ _ _ (by decide)]; exact h8)) (by decide) (sm_obj _ _) rfl ok_X9_snap gw_1223 ⟨by decide, by decide⟩ rfl hl.1 rfl (Nat.le_of_ble_eq_true rfl) ⟨by decide, by decide⟩ dX9_publish_64 (fun v_ S_ T_ H locs hp12 hP hS => ?_)
            obtain ⟨rfl, rfl, rfl⟩ := hp12
            try dsimp only [Option.toList, List.cons_append, List.nil_append]
            refine lv_aload_n hx hb dX9_publish_67 rfl (lv_at hl 0 rfl) ?_
            refine lv_iload_n hx hb dX9_publish_68 rfl (lv_at hl 1 rfl) ?_
            refine lv_iload_n hx hb dX9_publish_69 rfl (lv_at hl 2 rfl) ?_
            refine callv (y := yX9_sureOf) ⟨hx, hb, hml, hown, ht⟩ hK hN hP hS (k := 0) (c_X9_sureOf l D ca ad hI (snS (s2 σ 0 0 0)) τ x mo rfl (by assumption) rfl (by assumption)) (by decide) (sm_obj _ _) rfl ok_X9_sureOf gw_1116 ⟨by decide, by decide⟩ rfl hl.1 rfl (Nat.le_of_ble_eq_true rfl) ⟨by decide, by decide⟩ dX9_publish_70 (fun v_ S_ T_ H locs hp13 hP hS => ?_)
            obtain ⟨rfl, rfl, rfl⟩ := hp13
            try dsimp only [Option.toList, List.cons_append, List.nil_append]
            refine stk_i (v := ((σ 2) (218 + 36 * x.toNatClampNeg + mo.toNatClampNeg))) (by first | (rw [(show (snS (s2 σ 0 0 0)) 2 = (σ 2) from ((snS_ne _ (by decide) (by decide)).trans (s2_nk _ _ _ (by omega))))]; done) | (rw [(show (snS (s2 σ 0 0 0)) 2 = (σ 2) from ((snS_ne _ (by decide) (by decide)).trans (s2_nk _ _ _ (by omega))))]; rfl)) ?_
            refine lv_if_ne (tgt := 80) hx hb dX9_publish_73 (by decide) (fun c14 => ?_) (fun c14 => ?_)
            · have dc14 := c14
              rw [i_eq] at dc14
              refine lv_aload_n hx hb dX9_publish_80 rfl (lv_at hl 0 rfl) ?_
              refine lv_iload_n hx hb dX9_publish_81 rfl (lv_at hl 1 rfl) ?_
              refine lv_iload_n hx hb dX9_publish_82 rfl (lv_at hl 2 rfl) ?_
              refine callv (y := yX9_valueOf) ⟨hx, hb, hml, hown, ht⟩ hK hN hP hS (k := 0) (c_X9_valueOf l D ca ad hI (snS (s2 σ 0 0 0)) τ x mo rfl (by assumption) rfl (by assumption)) (by decide) (sm_obj _ _) rfl ok_X9_valueOf gw_1120 ⟨by decide, by decide⟩ rfl hl.1 rfl (Nat.le_of_ble_eq_true rfl) ⟨by decide, by decide⟩ dX9_publish_83 (fun v_ S_ T_ H locs hp15 hP hS => ?_)
              obtain ⟨rfl, rfl, rfl⟩ := hp15
              try dsimp only [Option.toList, List.cons_append, List.nil_append]
              refine stk_i (v := ((σ 2) (2 + 36 * x.toNatClampNeg + mo.toNatClampNeg))) (by first | (rw [(show (snS (s2 σ 0 0 0)) 2 = (σ 2) from ((snS_ne _ (by decide) (by decide)).trans (s2_nk _ _ _ (by omega))))]; done) | (rw [(show (snS (s2 σ 0 0 0)) 2 = (σ 2) from ((snS_ne _ (by decide) (by decide)).trans (s2_nk _ _ _ (by omega))))]; rfl)) ?_
              refine lv_istore (lv' := [(5, .int ((σ 2) (2 + 36 * x.toNatClampNeg + mo.toNatClampNeg))), (0, .ref (ad 0)), (1, .int x), (2, .int mo), (3, .int v), (4, .int (b2i b))]) hx hb dX9_publish_86 hl (by decide) rfl (fun ls hl => ?_)
              refine lv_aload_n hx hb dX9_publish_88 rfl (lv_at hl 1 rfl) ?_
              refine fgetx hx hb ht inG9 hown hK hP (k := 0) (by decide) (x := ((snS (s2 σ 0 0 0)) 0)) rfl (sm_obj _ _) rfl 12 (by decide) gw_951 (v := .ref (ad 2)) rfl dX9_publish_89 ?_
              refine lv_iconst (v := 2) hx hb dX9_publish_92 (by decide) ?_
              refine lv_bipush (v := 36) hx hb dX9_publish_93 (by decide) ?_
              refine lv_iload_n hx hb dX9_publish_95 rfl (lv_at hl 2 rfl) ?_
              refine lv_imul hx hb dX9_publish_96 ?_
              refine lv_iadd hx hb dX9_publish_97 ?_
              refine lv_iload_n hx hb dX9_publish_98 rfl (lv_at hl 3 rfl) ?_
              refine lv_iadd hx hb dX9_publish_99 ?_
              refine lv_iload_n hx hb dX9_publish_100 rfl (lv_at hl 4 rfl) ?_
              refine astj hx hb hK hP hI hS (k := 2) (by decide) 0 (fun f => sm_now f _ ) rfl (ix2v 2 36 880 rfl rfl rfl vx rfl vm (by have := clampN vx; have := clampN vm; omega) (by decide)) (j := (2 + 36 * x.toNatClampNeg + mo.toNatClampNeg)) (ix2c 2 36 880 rfl rfl rfl vx rfl vm (by have := clampN vx; have := clampN vm; omega) (by decide)) dX9_publish_101 (fun H locs hP hS => ?_)
              refine lv_aload_n hx hb dX9_publish_102 rfl (lv_at hl 1 rfl) ?_
              refine fgetx hx hb ht inG9 hown hK hP (k := 0) (by decide) (x := ((snS (s2 σ 0 0 0)) 0)) (s2_nk _ _ _ (by omega)) (sm_obj _ _) rfl 12 (by decide) gw_951 (v := .ref (ad 2)) rfl dX9_publish_103 ?_
              refine lv_sipush (v := 218) hx hb dX9_publish_106 (by decide) ?_
              refine lv_bipush (v := 36) hx hb dX9_publish_109 (by decide) ?_
              refine lv_iload_n hx hb dX9_publish_111 rfl (lv_at hl 2 rfl) ?_
              refine lv_imul hx hb dX9_publish_112 ?_
              refine lv_iadd hx hb dX9_publish_113 ?_
              refine lv_iload_n hx hb dX9_publish_114 rfl (lv_at hl 3 rfl) ?_
              refine lv_iadd hx hb dX9_publish_115 ?_
              refine lv_iload hx hb dX9_publish_116 (lv_at hl 5 rfl) ?_
              refine br_eq (tgt := 125) hx hb dX9_publish_118 (by decide) (fun c16 => ?_) (fun c16 => ?_)
              · refine lv_iconst (v := 1) hx hb dX9_publish_125 (by decide) ?_
                refine astj hx hb hK hP hI hS (k := 2) (by decide) 0 (fun f => sm_now f _ ) rfl (ix2v 218 36 880 rfl rfl rfl vx rfl vm (by have := clampN vx; have := clampN vm; omega) (by decide)) (j := (218 + 36 * x.toNatClampNeg + mo.toNatClampNeg)) (ix2c 218 36 880 rfl rfl rfl vx rfl vm (by have := clampN vx; have := clampN vm; omega) (by decide)) dX9_publish_126 (fun H locs hP hS => ?_)
                refine lv_iload hx hb dX9_publish_127 (lv_at hl 0 rfl) ?_
                exact ret_i hx hb hr hlk hP hS dX9_publish_129 (⟨by have hq : mPbC (σ 2) x mo v = 1 := (by simp only [mPbC, c2, c5, c7, c9, c11, c14, c16, ↓reduceIte, Bool.false_eq_true, ne02]); simp only [mPbR, hq, c2, c5, c7, c9, c11, c14, c16, ↓reduceIte, Bool.false_eq_true], by have hq : mPbC (σ 2) x mo v = 1 := (by simp only [mPbC, c2, c5, c7, c9, c11, c14, c16, ↓reduceIte, Bool.false_eq_true, ne02]); simp only [mPbM, hq, c2, c5, c7, c9, c11, c14, c16, ↓reduceIte, Bool.false_eq_true], rfl⟩)
              · refine lv_iconst (v := 2) hx hb dX9_publish_121 (by decide) ?_
                refine lv_goto (tgt := 126) hx hb dX9_publish_122 (by decide) ?_
                refine astj hx hb hK hP hI hS (k := 2) (by decide) 0 (fun f => sm_now f _ ) rfl (ix2v 218 36 880 rfl rfl rfl vx rfl vm (by have := clampN vx; have := clampN vm; omega) (by decide)) (j := (218 + 36 * x.toNatClampNeg + mo.toNatClampNeg)) (ix2c 218 36 880 rfl rfl rfl vx rfl vm (by have := clampN vx; have := clampN vm; omega) (by decide)) dX9_publish_126 (fun H locs hP hS => ?_)
                refine lv_iload hx hb dX9_publish_127 (lv_at hl 0 rfl) ?_
                exact ret_i hx hb hr hlk hP hS dX9_publish_129 (⟨by have hq : mPbC (σ 2) x mo v = 1 := (by simp only [mPbC, c2, c5, c7, c9, c11, c14, c16, ↓reduceIte, Bool.false_eq_true, ne02]); simp only [mPbR, hq, c2, c5, c7, c9, c11, c14, c16, ↓reduceIte, Bool.false_eq_true], by have hq : mPbC (σ 2) x mo v = 1 := (by simp only [mPbC, c2, c5, c7, c9, c11, c14, c16, ↓reduceIte, Bool.false_eq_true, ne02]); simp only [mPbM, hq, c2, c5, c7, c9, c11, c14, c16, ↓reduceIte, Bool.false_eq_true], rfl⟩)
            · have dc14 := c14
              rw [i_eq] at dc14
              refine lv_iconst (v := 0) hx hb dX9_publish_76 (by decide) ?_
              refine lv_goto (tgt := 86) hx hb dX9_publish_77 (by decide) ?_
              refine lv_istore (lv' := [(5, .int 0), (0, .ref (ad 0)), (1, .int x), (2, .int mo), (3, .int v), (4, .int (b2i b))]) hx hb dX9_publish_86 hl (by decide) rfl (fun ls hl => ?_)
              refine lv_aload_n hx hb dX9_publish_88 rfl (lv_at hl 1 rfl) ?_
              refine fgetx hx hb ht inG9 hown hK hP (k := 0) (by decide) (x := ((snS (s2 σ 0 0 0)) 0)) rfl (sm_obj _ _) rfl 12 (by decide) gw_951 (v := .ref (ad 2)) rfl dX9_publish_89 ?_
              refine lv_iconst (v := 2) hx hb dX9_publish_92 (by decide) ?_
              refine lv_bipush (v := 36) hx hb dX9_publish_93 (by decide) ?_
              refine lv_iload_n hx hb dX9_publish_95 rfl (lv_at hl 2 rfl) ?_
              refine lv_imul hx hb dX9_publish_96 ?_
              refine lv_iadd hx hb dX9_publish_97 ?_
              refine lv_iload_n hx hb dX9_publish_98 rfl (lv_at hl 3 rfl) ?_
              refine lv_iadd hx hb dX9_publish_99 ?_
              refine lv_iload_n hx hb dX9_publish_100 rfl (lv_at hl 4 rfl) ?_
              refine astj hx hb hK hP hI hS (k := 2) (by decide) 0 (fun f => sm_now f _ ) rfl (ix2v 2 36 880 rfl rfl rfl vx rfl vm (by have := clampN vx; have := clampN vm; omega) (by decide)) (j := (2 + 36 * x.toNatClampNeg + mo.toNatClampNeg)) (ix2c 2 36 880 rfl rfl rfl vx rfl vm (by have := clampN vx; have := clampN vm; omega) (by decide)) dX9_publish_101 (fun H locs hP hS => ?_)
              refine lv_aload_n hx hb dX9_publish_102 rfl (lv_at hl 1 rfl) ?_
              refine fgetx hx hb ht inG9 hown hK hP (k := 0) (by decide) (x := ((snS (s2 σ 0 0 0)) 0)) (s2_nk _ _ _ (by omega)) (sm_obj _ _) rfl 12 (by decide) gw_951 (v := .ref (ad 2)) rfl dX9_publish_103 ?_
              refine lv_sipush (v := 218) hx hb dX9_publish_106 (by decide) ?_
              refine lv_bipush (v := 36) hx hb dX9_publish_109 (by decide) ?_
              refine lv_iload_n hx hb dX9_publish_111 rfl (lv_at hl 2 rfl) ?_
              refine lv_imul hx hb dX9_publish_112 ?_
              refine lv_iadd hx hb dX9_publish_113 ?_
              refine lv_iload_n hx hb dX9_publish_114 rfl (lv_at hl 3 rfl) ?_
              refine lv_iadd hx hb dX9_publish_115 ?_
              refine lv_iload hx hb dX9_publish_116 (lv_at hl 5 rfl) ?_
              refine br_eq (tgt := 125) hx hb dX9_publish_118 (by decide) (fun c17 => ?_) (fun c17 => ?_)
              · refine lv_iconst (v := 1) hx hb dX9_publish_125 (by decide) ?_
                refine astj hx hb hK hP hI hS (k := 2) (by decide) 0 (fun f => sm_now f _ ) rfl (ix2v 218 36 880 rfl rfl rfl vx rfl vm (by have := clampN vx; have := clampN vm; omega) (by decide)) (j := (218 + 36 * x.toNatClampNeg + mo.toNatClampNeg)) (ix2c 218 36 880 rfl rfl rfl vx rfl vm (by have := clampN vx; have := clampN vm; omega) (by decide)) dX9_publish_126 (fun H locs hP hS => ?_)
                refine lv_iload hx hb dX9_publish_127 (lv_at hl 0 rfl) ?_
                exact ret_i hx hb hr hlk hP hS dX9_publish_129 (⟨by have hq : mPbC (σ 2) x mo v = 1 := (by simp only [mPbC, c2, c5, c7, c9, c11, c14, c17, ↓reduceIte, Bool.false_eq_true, ne02]); simp only [mPbR, hq, c2, c5, c7, c9, c11, c14, c17, ↓reduceIte, Bool.false_eq_true], by have hq : mPbC (σ 2) x mo v = 1 := (by simp only [mPbC, c2, c5, c7, c9, c11, c14, c17, ↓reduceIte, Bool.false_eq_true, ne02]); simp only [mPbM, hq, c2, c5, c7, c9, c11, c14, c17, ↓reduceIte, Bool.false_eq_true], rfl⟩)
              · refine lv_iconst (v := 2) hx hb dX9_publish_121 (by decide) ?_
                refine lv_goto (tgt := 126) hx hb dX9_publish_122 (by decide) ?_
                refine astj hx hb hK hP hI hS (k := 2) (by decide) 0 (fun f => sm_now f _ ) rfl (ix2v 218 36 880 rfl rfl rfl vx rfl vm (by have := clampN vx; have := clampN vm; omega) (by decide)) (j := (218 + 36 * x.toNatClampNeg + mo.toNatClampNeg)) (ix2c 218 36 880 rfl rfl rfl vx rfl vm (by have := clampN vx; have := clampN vm; omega) (by decide)) dX9_publish_126 (fun H locs hP hS => ?_)
                refine lv_iload hx hb dX9_publish_127 (lv_at hl 0 rfl) ?_
                exact ret_i hx hb hr hlk hP hS dX9_publish_129 (⟨by have hq : mPbC (σ 2) x mo v = 1 := (by simp only [mPbC, c2, c5, c7, c9, c11, c14, c17, ↓reduceIte, Bool.false_eq_true, ne02]); simp only [mPbR, hq, c2, c5, c7, c9, c11, c14, c17, ↓reduceIte, Bool.false_eq_true], by have hq : mPbC (σ 2) x mo v = 1 := (by simp only [mPbC, c2, c5, c7, c9, c11, c14, c17, ↓reduceIte, Bool.false_eq_true, ne02]); simp only [mPbM, hq, c2, c5, c7, c9, c11, c14, c17, ↓reduceIte, Bool.false_eq_true], rfl⟩)
          · have dc11 := c11
            rw [i_lt] at dc11
            refine lv_bipush (v := -3) hx hb dX9_publish_60 (by decide) ?_
            exact ret_i hx hb hr hlk hP hS dX9_publish_62 (⟨by have hq : mPbC (σ 2) x mo v = (-3) := (by simp only [mPbC, c2, c5, c7, c9, c11, ↓reduceIte, Bool.false_eq_true]); rw [mPbR, hq, if_neg n31], by have hq : mPbC (σ 2) x mo v = (-3) := (by simp only [mPbC, c2, c5, c7, c9, c11, ↓reduceIte, Bool.false_eq_true]); rw [mPbM, hq, if_neg n31], rfl⟩)
        · have dc9 := c9
          rw [i_eq] at dc9
          refine lv_bipush (v := -2) hx hb dX9_publish_48 (by decide) ?_
          exact ret_i hx hb hr hlk hP hS dX9_publish_50 (⟨by have hq : mPbC (σ 2) x mo v = (-2) := (by simp only [mPbC, c2, c5, c7, c9, ↓reduceIte, Bool.false_eq_true]); rw [mPbR, hq, if_neg n21], by have hq : mPbC (σ 2) x mo v = (-2) := (by simp only [mPbC, c2, c5, c7, c9, ↓reduceIte, Bool.false_eq_true]); rw [mPbM, hq, if_neg n21], rfl⟩)
      · refine lv_iconst (v := -1) hx hb dX9_publish_36 (by decide) ?_
        exact ret_i hx hb hr hlk hP hS dX9_publish_37 (⟨by have hq : mPbC (σ 2) x mo v = (-1) := (by simp only [mPbC, c2, c5, c7, ↓reduceIte, Bool.false_eq_true]); rw [mPbR, hq, if_neg n11], by have hq : mPbC (σ 2) x mo v = (-1) := (by simp only [mPbC, c2, c5, c7, ↓reduceIte, Bool.false_eq_true]); rw [mPbM, hq, if_neg n11], rfl⟩)
set_option maxHeartbeats 4000000 in
set_option maxRecDepth 100000 in
theorem lp_X9_undo {l : Launch} {D : va_G} {ca : Nat → ClassId} {ad : Nat → Nat} (hI : Inj 6 ad) {σ : MI} {τ : ML} (h8 : rg (σ 0 16) 0 8) {p : Program} {e : Env} {s : State} {m : MethodId} {args : Array Value} {below : List Frame} {meth : Method} {c : Code} (hx : p.tables.exec = Jvm.exec) (hb : c.code = cX9_undo) (hr : meth.sig.returnType = (some .int)) (ht : ∀ w ∈ GG, w.before args s = true) (hown : s.vm.findClass yX9_undo.cls = some m.cls) (hlk : meth.locks = false) (hml : c.maxLocals = 2) (hK : va_K D vwCl (TY ca) s) (hN : NW s) : ∀ (n : Nat) (hz : ¬ σ 0 16 = 0) (k : Nat) (hk : k ≤ 880) (hn : 880 - k < n) (H : Heap) (locs : List Loc) (hP : PW D 6 ad (mxf ca ad) (bkS (mUd σ) (880 * (σ 0 16 - 1).toNatClampNeg) k) τ H) (hS : va_S (AA 6 ad) s.heap H locs) (ls : Array Slot) (hl : lv_has ls 2 [(1, .int (nI k)), (0, .ref (ad 0))]), W p l e { frames := 0, cells := 0, slots := 0, locals := 0 } s m args below meth c H locs 0 0 (MQ below (QD D 6 ad (mxf ca ad) (fun v_ S_ T_ => some (.int (mUnR σ)) = v_ ∧ (mUnM σ) = S_ ∧ τ = T_)) args s 0 0 (AA 6 ad)) (F0 m 26 ls []) := by
  intro n
  induction n with
  | zero => intro hz k hk hn H locs hP hS ls hl; exfalso; omega
  | succ n ih =>
    intro hz k hk hn H locs hP hS ls hl
    have e8 : (880 : Int32).toInt = 880 := rfl
    have ek : (nI k).toInt = k := nI_toInt (by omega)
    have v7 := vp_s h8 hz
    have h7 := clampN v7
    have e16 : mUd σ 0 16 = σ 0 16 - 1 := by rw [mUd, s2_eq]
    have e4 : mUd σ 4 = σ 4 := by rw [mUd, s2_nk _ _ _ (by decide), s2_nk _ _ _ (by decide)]
    refine lv_iload_n hx hb dX9_undo_26 rfl (lv_at hl 0 rfl) ?_
    refine lv_sipush (v := 880) hx hb dX9_undo_27 (by decide) ?_
    refine lv_icmp_ge (tgt := 60) hx hb dX9_undo_30 (by decide) (fun c1 => ?_) (fun c1 => ?_)
    · have dc1 := c1
      rw [i_le] at dc1
      refine lv_aload_n hx hb dX9_undo_60 rfl (lv_at hl 1 rfl) ?_
      refine fgetx hx hb ht inG9 hown hK hP (k := 0) (by decide) (x := ((mUd σ) 0)) (bkS_ne _ _ (by decide) _) (sm_obj _ _) rfl 16 (by decide) gw_955 (v := .int (((mUd σ) 0) 16)) rfl dX9_undo_61 ?_
      exact ret_i hx hb hr hlk hP hS dX9_undo_64 (⟨by rw [mUnR, if_neg hz, ← e16], by rw [mUnM, if_neg hz, show k = 880 by omega], rfl⟩)
    · have dc1 := c1
      rw [i_le] at dc1
      refine lv_aload_n hx hb dX9_undo_33 rfl (lv_at hl 1 rfl) ?_
      refine fgetx hx hb ht inG9 hown hK hP (k := 0) (by decide) (x := ((mUd σ) 0)) (bkS_ne _ _ (by decide) _) (sm_obj _ _) rfl 12 (by decide) gw_951 (v := .ref (ad 2)) rfl dX9_undo_34 ?_
      refine lv_iload_n hx hb dX9_undo_37 rfl (lv_at hl 0 rfl) ?_
      refine lv_aload_n hx hb dX9_undo_38 rfl (lv_at hl 1 rfl) ?_
      refine fgetx hx hb ht inG9 hown hK hP (k := 0) (by decide) (x := ((mUd σ) 0)) (bkS_ne _ _ (by decide) _) (sm_obj _ _) rfl 14 (by decide) gw_953 (v := .ref (ad 4)) rfl dX9_undo_39 ?_
      refine lv_sipush (v := 880) hx hb dX9_undo_42 (by decide) ?_
      refine lv_aload_n hx hb dX9_undo_45 rfl (lv_at hl 1 rfl) ?_
      refine fgetx hx hb ht inG9 hown hK hP (k := 0) (by decide) (x := ((mUd σ) 0)) (bkS_ne _ _ (by decide) _) (sm_obj _ _) rfl 16 (by decide) gw_955 (v := .int (((mUd σ) 0) 16)) rfl dX9_undo_46 ?_
      refine lv_imul hx hb dX9_undo_49 ?_
      refine lv_iload_n hx hb dX9_undo_50 rfl (lv_at hl 0 rfl) ?_
      refine lv_iadd hx hb dX9_undo_51 ?_
      refine aldj hx hb hK hP (k := 4) (by decide) (x := ((mUd σ) 4)) (bkS_ne _ _ (by decide) _) 0 (sm_snap _ _) rfl (by rw [ixS (a := (σ 0 16 - 1).toNatClampNeg) (by rw [e16]) (by rw [e16]; exact v7)]; exact vp_in_nI (by omega) (by decide)) (j := ((880 * (σ 0 16 - 1).toNatClampNeg) + k)) (by rw [ixS (by rw [e16]) (by rw [e16]; exact v7)]; exact nI_clamp (by omega)) dX9_undo_52 ?_
      refine astj hx hb hK hP hI hS (k := 2) (by decide) 0 (fun f => sm_now f _ ) rfl (vp_in_nI (by omega) (by decide)) (j := k) (nI_clamp (by omega)) dX9_undo_53 (fun H locs hP hS => ?_)
      refine lv_iinc (v := (nI k) + 1) (lv' := [(1, .int ((nI k) + 1)), (0, .ref (ad 0))]) hx hb dX9_undo_54 hl (k := 0) rfl rfl (by decide) rfl (fun ls hl => ?_)
      refine lv_goto (tgt := 26) hx hb dX9_undo_57 (by decide) ?_
      rw [nI_1] at hl
      exact ih hz (k + 1) (by omega) (by omega) _ _ hP hS ls (lv_sub hl [0, 1] rfl)
set_option maxHeartbeats 4000000 in
set_option maxRecDepth 100000 in
theorem c_X9_undo (l : Launch) (D : va_G) (ca : Nat → ClassId) (ad : Nat → Nat) (hI : Inj 6 ad) (σ : MI) (τ : ML) (h8 : rg (σ 0 16) 0 8) : CT l D (TY ca) 6 ad (mxf ca ad) yX9_undo cX9_undo 2 (some .int) 0 0 [.ref (ad 0)] σ τ (fun v_ S_ T_ => some (.int (mUnR σ)) = v_ ∧ (mUnM σ) = S_ ∧ τ = T_) := by
  refine CT.of (by decide) (Nat.le_of_ble_eq_true rfl) ?_
  intro p e s m args below meth c hx hb hr ht hown hlk hml hP hK hN hS ls hl
  have hl : lv_has ls 2 [(0, .ref (ad 0))] := hl
  refine lv_aload_n hx hb dX9_undo_0 rfl (lv_at hl 0 rfl) ?_
  refine lv_iconst (v := 0) hx hb dX9_undo_1 (by decide) ?_
  refine fputx (ref := "") (w := 0) hx hb ht inG9 tyX9 tyX9_ok nmX9 hown hK hP hI hS (k := 0) (by decide) (sm_obj _ _) rfl 0 (by decide) gw_939 rfl rfl rfl (Nat.le_of_ble_eq_true rfl) (sm_obj _ _) dX9_undo_2 (fun H locs hP hS => ?_)
  refine lv_aload_n hx hb dX9_undo_5 rfl (lv_at hl 0 rfl) ?_
  refine fgetx hx hb ht inG9 hown hK hP (k := 0) (by decide) (x := (upd (σ 0) 0 0)) (s2_k _ _ _ _) (sm_obj _ _) rfl 16 (by decide) gw_955 (v := .int ((σ 0) 16)) rfl dX9_undo_6 ?_
  refine lv_if_ne (tgt := 14) hx hb dX9_undo_9 (by decide) (fun c1 => ?_) (fun c1 => ?_)
  · have dc1 := c1
    rw [i_eq] at dc1
    refine lv_aload_n hx hb dX9_undo_14 rfl (lv_at hl 0 rfl) ?_
    refine lv_dup hx hb dX9_undo_15 rfl ?_
    refine fgetx hx hb ht inG9 hown hK hP (k := 0) (by decide) (x := (upd (σ 0) 0 0)) (s2_k _ _ _ _) (sm_obj _ _) rfl 16 (by decide) gw_955 (v := .int ((σ 0) 16)) rfl dX9_undo_16 ?_
    refine lv_iconst (v := 1) hx hb dX9_undo_19 (by decide) ?_
    refine lv_isub hx hb dX9_undo_20 ?_
    refine fputx (ref := "") (w := ((σ 0) 16) - 1) hx hb ht inG9 tyX9 tyX9_ok nmX9 hown hK hP hI hS (k := 0) (by decide) (sm_obj _ _) rfl 16 (by decide) gw_955 rfl rfl rfl (Nat.le_of_ble_eq_true rfl) (sm_obj _ _) dX9_undo_21 (fun H locs hP hS => ?_)
    refine lv_iconst (v := 0) hx hb dX9_undo_24 (by decide) ?_
    refine lv_istore_n (lv' := [(1, .int 0), (0, .ref (ad 0))]) hx hb dX9_undo_25 rfl hl (by decide) rfl (fun ls hl => ?_)
    exact lp_X9_undo hI h8 hx hb hr ht hown hlk hml hK hN 881 c1 0 (by omega) (by omega) _ _ hP hS ls hl
  · have dc1 := c1
    rw [i_eq] at dc1
    refine lv_iconst (v := -1) hx hb dX9_undo_12 (by decide) ?_
    exact ret_i hx hb hr hlk hP hS dX9_undo_13 (⟨by first | with_reducible rfl | (simp only [mUnR, mUnM, c1, ↓reduceIte, Bool.false_eq_true]; done) | (simp only [mUnR, mUnM, c1, ↓reduceIte, Bool.false_eq_true]; rfl) | rfl, by first | with_reducible rfl | (simp only [mUnR, mUnM, c1, ↓reduceIte, Bool.false_eq_true]; done) | (simp only [mUnR, mUnM, c1, ↓reduceIte, Bool.false_eq_true]; rfl) | rfl, rfl⟩)
