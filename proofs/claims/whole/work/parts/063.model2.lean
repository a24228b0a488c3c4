set_option maxHeartbeats 4000000 in
set_option maxRecDepth 100000 in
theorem lp_X9_settled {l : Launch} {D : va_G} {ca : Nat → ClassId} {ad : Nat → Nat} (hI : Inj 6 ad) {σ : MI} {τ : ML} (hR : RI (σ 2)) {p : Program} {e : Env} {s : State} {m : MethodId} {args : Array Value} {below : List Frame} {meth : Method} {c : Code} (hx : p.tables.exec = Jvm.exec) (hb : c.code = cX9_settled) (hr : meth.sig.returnType = (some .int)) (ht : ∀ w ∈ GG, w.before args s = true) (hown : s.vm.findClass yX9_settled.cls = some m.cls) (hlk : meth.locks = false) (hml : c.maxLocals = 3) (hK : va_K D vwCl (TY ca) s) (hN : NW s) : ∀ (n : Nat) (k : Nat) (hk : k ≤ (σ 2 609).toNatClampNeg) (hn : (σ 2 609).toNatClampNeg - k < n) (a : Int32) (ha : mSet (σ 2) k = a) (H : Heap) (locs : List Loc) (hP : PW D 6 ad (mxf ca ad) σ τ H) (hS : va_S (AA 6 ad) s.heap H locs) (ls : Array Slot) (hl : lv_has ls 3 [(2, .int (nI k)), (1, .int a), (0, .ref (ad 0))]), W p l e { frames := 1, cells := 0, slots := 0, locals := 22 } s m args below meth c H locs 0 0 (MQ below (QD D 6 ad (mxf ca ad) (fun v_ S_ T_ => some (.int (mSet (σ 2) (σ 2 609).toNatClampNeg)) = v_ ∧ σ = S_ ∧ τ = T_)) args s 0 0 (AA 6 ad)) (F0 m 4 ls []) := by
  intro n
  induction n with
  | zero => intro k hk hn a ha H locs hP hS ls hl; exfalso; omega
  | succ n ih =>
    intro k hk hn a ha H locs hP hS ls hl
    have h9 := hR.2.2.2.1
    unfold rg at h9
    have hc := clampI (σ 2 609)
    have ek : (nI k).toInt = k := nI_toInt (by omega)
    refine lv_iload_n hx hb dX9_settled_4 rfl (lv_at hl 0 rfl) ?_
    refine lv_aload_n hx hb dX9_settled_5 rfl (lv_at hl 2 rfl) ?_
    refine fgetx hx hb ht inG9 hown hK hP (k := 0) (by decide) (x := (σ 0)) rfl (sm_obj _ _) rfl 12 (by decide) gw_951 (v := .ref (ad 2)) rfl dX9_settled_6 ?_
    refine lv_sipush (v := 609) hx hb dX9_settled_9 (by decide) ?_
    refine aldj hx hb hK hP (k := 2) (by decide) (x := (σ 2)) rfl 0 (sm_now _ _) rfl (by rw [vp_in_iff]; decide) (j := 609) rfl dX9_settled_12 ?_
    refine lv_icmp_ge (tgt := 32) hx hb dX9_settled_13 (by decide) (fun c1 => ?_) (fun c1 => ?_)
    · have dc1 := c1
      rw [i_le] at dc1
      refine lv_iload_n hx hb dX9_settled_32 rfl (lv_at hl 1 rfl) ?_
      exact ret_i hx hb hr hlk hP hS dX9_settled_33 (⟨by rw [← ha, show (σ 2 609).toNatClampNeg = k by omega], rfl, rfl⟩)
    · have dc1 := c1
      rw [i_le] at dc1
      refine lv_iload_n hx hb dX9_settled_16 rfl (lv_at hl 1 rfl) ?_
      refine lv_aload_n hx hb dX9_settled_17 rfl (lv_at hl 2 rfl) ?_
      refine lv_iload_n hx hb dX9_settled_18 rfl (lv_at hl 0 rfl) ?_
      refine lv_bipush (v := 6) hx hb dX9_settled_19 (by decide) ?_
      refine callv (y := yX9_its) ⟨hx, hb, hml, hown, ht⟩ hK hN hP hS (k := 0) (c_X9_its l D ca ad hI σ τ (nI k) (6 : Int32) (nI_clamp (by omega)) (vp_in_nI (by omega) (by decide)) (show Int32.toNatClampNeg 6 = 6 from rfl) (by rw [vp_in_iff]; decide)) (by decide) (sm_obj _ _) rfl ok_X9_its gw_1097 ⟨by decide, by decide⟩ rfl hl.1 rfl (Nat.le_of_ble_eq_true rfl) ⟨by decide, by decide⟩ dX9_settled_21 (fun v_ S_ T_ H locs hp2 hP hS => ?_)
      obtain ⟨rfl, rfl, rfl⟩ := hp2
      try dsimp only [Option.toList, List.cons_append, List.nil_append]
      refine lv_iadd hx hb dX9_settled_24 ?_
      refine lv_istore_n (lv' := [(1, .int (a + (σ 2 (610 + 9 * k + 6)))), (2, .int (nI k)), (0, .ref (ad 0))]) hx hb dX9_settled_25 rfl hl (by decide) rfl (fun ls hl => ?_)
      refine lv_iinc (v := (nI k) + 1) (lv' := [(2, .int ((nI k) + 1)), (1, .int (a + (σ 2 (610 + 9 * k + 6)))), (0, .ref (ad 0))]) hx hb dX9_settled_26 hl (k := 1) rfl rfl (by decide) rfl (fun ls hl => ?_)
      refine lv_goto (tgt := 4) hx hb dX9_settled_29 (by decide) ?_
      rw [nI_1] at hl
      exact ih (k + 1) (by omega) (by omega) _ (by rw [mSet, ha]) _ _ hP hS ls (lv_sub hl [0, 1, 2] rfl)
set_option maxHeartbeats 4000000 in
set_option maxRecDepth 100000 in
theorem c_X9_settled (l : Launch) (D : va_G) (ca : Nat → ClassId) (ad : Nat → Nat) (hI : Inj 6 ad) (σ : MI) (τ : ML) (hR : RI (σ 2)) : CT l D (TY ca) 6 ad (mxf ca ad) yX9_settled cX9_settled 3 (some .int) 1 22 [.ref (ad 0)] σ τ (fun v_ S_ T_ => some (.int (mSet (σ 2) (σ 2 609).toNatClampNeg)) = v_ ∧ σ = S_ ∧ τ = T_) := by
  refine CT.of (by decide) (Nat.le_of_ble_eq_true rfl) ?_
  intro p e s m args below meth c hx hb hr ht hown hlk hml hP hK hN hS ls hl
  have hl : lv_has ls 3 [(0, .ref (ad 0))] := hl
  refine lv_iconst (v := 0) hx hb dX9_settled_0 (by decide) ?_
  refine lv_istore_n (lv' := [(1, .int 0), (0, .ref (ad 0))]) hx hb dX9_settled_1 rfl hl (by decide) rfl (fun ls hl => ?_)
  refine lv_iconst (v := 0) hx hb dX9_settled_2 (by decide) ?_
  refine lv_istore_n (lv' := [(2, .int 0), (1, .int 0), (0, .ref (ad 0))]) hx hb dX9_settled_3 rfl hl (by decide) rfl (fun ls hl => ?_)
  exact lp_X9_settled hI hR hx hb hr ht hown hlk hml hK hN ((σ 2 609).toNatClampNeg + 1) 0 (by omega) (by omega) _ rfl _ _ hP hS ls hl
set_option maxHeartbeats 4000000 in
set_option maxRecDepth 100000 in
theorem lp_X9_ratio {l : Launch} {D : va_G} {ca : Nat → ClassId} {ad : Nat → Nat} (hI : Inj 6 ad) {σ : MI} {τ : ML} (i_ a_ z_ : Int32) {a c_ e_ : Nat} (ea : i_.toNatClampNeg = a) (va : vp_in i_ 6) (ec : a_.toNatClampNeg = c_) (vc : vp_in a_ 36) (ee : z_.toNatClampNeg = e_) (ve : vp_in z_ 36) (hR : RI (σ 2)) (hv : σ 2 (218 + 36 * a + c_) ≠ 0) {p : Program} {e : Env} {s : State} {m : MethodId} {args : Array Value} {below : List Frame} {meth : Method} {c : Code} (hx : p.tables.exec = Jvm.exec) (hb : c.code = cX9_ratioOf) (hr : meth.sig.returnType = (some .int)) (ht : ∀ w ∈ GG, w.before args s = true) (hown : s.vm.findClass yX9_ratioOf.cls = some m.cls) (hlk : meth.locks = false) (hml : c.maxLocals = 10) (hK : va_K D vwCl (TY ca) s) (hN : NW s) : ∀ (n : Nat) (k : Nat) (hk : k ≤ (σ 2 (434 + 10 * a)).toNatClampNeg) (hn : (σ 2 (434 + 10 * a)).toNatClampNeg - k < n) (u d : Int64) (hud : mrP (σ 2) a a_ z_ (σ 2 (2 + 36 * a + z_.toNatClampNeg)).toInt64 (σ 2 (2 + 36 * a + a_.toNatClampNeg)).toInt64 k = (u, d)) (H : Heap) (locs : List Loc) (hP : PW D 6 ad (mxf ca ad) σ τ H) (hS : va_S (AA 6 ad) s.heap H locs) (ls : Array Slot) (hl : lv_has ls 10 [(8, .int (nI k)), (6, .long d), (4, .long u), (0, .ref (ad 0)), (1, .int i_), (2, .int a_), (3, .int z_)]), W p l e { frames := 1, cells := 0, slots := 0, locals := 23 } s m args below meth c H locs 0 0 (MQ below (QD D 6 ad (mxf ca ad) (fun v_ S_ T_ => some (.int (mRat (σ 2) a a_ z_)) = v_ ∧ σ = S_ ∧ τ = T_)) args s 0 0 (AA 6 ad)) (F0 m 21 ls []) := by
  intro n
  induction n with
  | zero => intro k hk hn u d hud H locs hP hS ls hl; exfalso; omega
  | succ n ih =>
    intro k hk hn u d hud H locs hP hS ls hl
    have ha6 := vpa va ea
    have hb5 := hR.base ha6
    unfold rg at hb5
    have hc := clampI (σ 2 (434 + 10 * a))
    have ek : (nI k).toInt = k := nI_toInt (by omega)
    refine lv_iload hx hb dX9_ratioOf_21 (lv_at hl 0 rfl) ?_
    refine lv_aload_n hx hb dX9_ratioOf_23 rfl (lv_at hl 3 rfl) ?_
    refine fgetx hx hb ht inG9 hown hK hP (k := 0) (by decide) (x := (σ 0)) rfl (sm_obj _ _) rfl 12 (by decide) gw_951 (v := .ref (ad 2)) rfl dX9_ratioOf_24 ?_
    refine lv_sipush (v := 434) hx hb dX9_ratioOf_27 (by decide) ?_
    refine lv_bipush (v := 10) hx hb dX9_ratioOf_30 (by decide) ?_
    refine lv_iload_n hx hb dX9_ratioOf_32 rfl (lv_at hl 4 rfl) ?_
    refine lv_imul hx hb dX9_ratioOf_33 ?_
    refine lv_iadd hx hb dX9_ratioOf_34 ?_
    refine aldj hx hb hK hP (k := 2) (by decide) (x := (σ 2)) rfl 0 (sm_now _ _) rfl (ix1v 434 10 880 rfl rfl ea va (by have := vpa va ea; omega) (by decide)) (j := 434 + 10 * a) (ix1c 434 10 880 rfl rfl ea va (by have := vpa va ea; omega) (by decide)) dX9_ratioOf_35 ?_
    refine lv_icmp_ge (tgt := 94) hx hb dX9_ratioOf_36 (by decide) (fun c1 => ?_) (fun c1 => ?_)
    · have dc1 := c1
      rw [i_le] at dc1
      have hke : k = (σ 2 (434 + 10 * a)).toNatClampNeg := by omega
      refine lv_lload hx hb dX9_ratioOf_94 (lv_at hl 2 rfl) ?_
      refine lv_ldc2 hx hb hown (ht _ gw_1144) dX9_ratioOf_96 ?_
      refine lv_lmul hx hb dX9_ratioOf_99 ?_
      refine lv_lload hx hb dX9_ratioOf_100 (lv_at hl 1 rfl) ?_
      refine lv_ldiv hx hb dX9_ratioOf_102 (by have h9 := mrP_ne hR ha6 a_ z_ (σ 2 (2 + 36 * a + z_.toNatClampNeg)).toInt64 (d := σ 2 (2 + 36 * a + a_.toNatClampNeg)) (by rw [ec]; exact hR.val ha6 (vpa vc ec) hv) (k := k) (by omega); rw [hud] at h9; exact h9) ?_
      refine lv_lstore (lv' := [(8, .long ((u * 1000000) / d)), (6, .long d), (4, .long u), (0, .ref (ad 0)), (1, .int i_), (2, .int a_), (3, .int z_)]) hx hb dX9_ratioOf_103 hl (by decide) rfl (fun ls hl => ?_)
      refine lv_lload hx hb dX9_ratioOf_105 (lv_at hl 0 rfl) ?_
      refine lv_ldc2 hx hb hown (ht _ gw_1145) dX9_ratioOf_107 ?_
      refine W.lcmp hx hb dX9_ratioOf_110 ?_
      refine lv_if_le (tgt := 119) hx hb dX9_ratioOf_111 (by decide) (fun c2 => ?_) (fun c2 => ?_)
      · rw [lgc_le] at c2
        refine lv_lload hx hb dX9_ratioOf_119 (lv_at hl 0 rfl) ?_
        refine lv_l2i (v := ((u * 1000000) / d).toInt32) hx hb dX9_ratioOf_121 rfl ?_
        exact ret_i hx hb hr hlk hP hS dX9_ratioOf_122 (⟨by unfold mRat; rw [← hke, hud]; simp only [mrQ, c2, ↓reduceIte], rfl, rfl⟩)
      · rw [lgc_le] at c2
        refine lv_ldc hx hb hown (ht _ gw_1146) dX9_ratioOf_114 ?_
        refine lv_goto (tgt := 122) hx hb dX9_ratioOf_116 (by decide) ?_
        exact ret_i hx hb hr hlk hP hS dX9_ratioOf_122 (⟨by unfold mRat; rw [← hke, hud]; simp only [mrQ, c2, ↓reduceIte], rfl, rfl⟩)
    · have dc1 := c1
      rw [i_le] at dc1
      refine lv_aload_n hx hb dX9_ratioOf_39 rfl (lv_at hl 3 rfl) ?_
      refine lv_iload_n hx hb dX9_ratioOf_40 rfl (lv_at hl 4 rfl) ?_
      refine lv_iload hx hb dX9_ratioOf_41 (lv_at hl 0 rfl) ?_
      refine lv_iconst (v := 0) hx hb dX9_ratioOf_43 (by decide) ?_
      refine callv (y := yX9_baseOf) ⟨hx, hb, hml, hown, ht⟩ hK hN hP hS (k := 0) (c_X9_baseOf l D ca ad hI σ τ i_ (nI k) (0 : Int32) ea va (nI_clamp (by omega)) (vp_in_nI (by omega) (by decide)) (show Int32.toNatClampNeg 0 = 0 from rfl) (by rw [vp_in_iff]; decide)) (by decide) (sm_obj _ _) rfl ok_X9_baseOf gw_1128 ⟨by decide, by decide⟩ rfl hl.1 rfl (Nat.le_of_ble_eq_true rfl) ⟨by decide, by decide⟩ dX9_ratioOf_44 (fun v_ S_ T_ H locs hp3 hP hS => ?_)
      obtain ⟨rfl, rfl, rfl⟩ := hp3
      try dsimp only [Option.toList, List.cons_append, List.nil_append]
      refine lv_iload_n hx hb dX9_ratioOf_47 rfl (lv_at hl 5 rfl) ?_
      refine lv_iload_n hx hb dX9_ratioOf_48 rfl (lv_at hl 6 rfl) ?_
      refine lv_iconst (v := 1) hx hb dX9_ratioOf_49 (by decide) ?_
      refine lv_isub hx hb dX9_ratioOf_50 ?_
      refine calls (y := yX9_isIn) ⟨hx, hb, hml, hown, ht⟩ hK hN hP hS (c_X9_isIn l D ca ad hI σ τ (σ 2 (434 + 10 * a + 1 + 3 * k + 0)) a_ (z_ - 1)) ok_X9_isIn gw_1042 ⟨by decide, by decide⟩ rfl hl.1 rfl (Nat.le_of_ble_eq_true rfl) ⟨by decide, by decide⟩ dX9_ratioOf_51 (fun v_ S_ T_ H locs hp4 hP hS => ?_)
      obtain ⟨rfl, rfl, rfl⟩ := hp4
      try dsimp only [Option.toList, List.cons_append, List.nil_append]
      refine br_ne (tgt := 60) hx hb dX9_ratioOf_54 (by decide) (fun c5 => ?_) (fun c5 => ?_)
      · refine lv_lload hx hb dX9_ratioOf_60 (lv_at hl 2 rfl) ?_
        refine lv_aload_n hx hb dX9_ratioOf_62 rfl (lv_at hl 3 rfl) ?_
        refine lv_iload_n hx hb dX9_ratioOf_63 rfl (lv_at hl 4 rfl) ?_
        refine lv_iload hx hb dX9_ratioOf_64 (lv_at hl 0 rfl) ?_
        refine lv_iconst (v := 1) hx hb dX9_ratioOf_66 (by decide) ?_
        refine callv (y := yX9_baseOf) ⟨hx, hb, hml, hown, ht⟩ hK hN hP hS (k := 0) (c_X9_baseOf l D ca ad hI σ τ i_ (nI k) (1 : Int32) ea va (nI_clamp (by omega)) (vp_in_nI (by omega) (by decide)) (show Int32.toNatClampNeg 1 = 1 from rfl) (by rw [vp_in_iff]; decide)) (by decide) (sm_obj _ _) rfl ok_X9_baseOf gw_1128 ⟨by decide, by decide⟩ rfl hl.1 rfl (Nat.le_of_ble_eq_true rfl) ⟨by decide, by decide⟩ dX9_ratioOf_67 (fun v_ S_ T_ H locs hp6 hP hS => ?_)
        obtain ⟨rfl, rfl, rfl⟩ := hp6
        try dsimp only [Option.toList, List.cons_append, List.nil_append]
        refine lv_i2l (v := (σ 2 (434 + 10 * a + 1 + 3 * k + 1)).toInt64) hx hb dX9_ratioOf_70 rfl ?_
        refine lv_lmul hx hb dX9_ratioOf_71 ?_
        refine lv_lstore (lv' := [(4, .long (u * ((σ 2 (434 + 10 * a + 1 + 3 * k + 1)).toInt64))), (8, .int (nI k)), (6, .long d), (0, .ref (ad 0)), (1, .int i_), (2, .int a_), (3, .int z_)]) hx hb dX9_ratioOf_72 hl (by decide) rfl (fun ls hl => ?_)
        refine lv_lload hx hb dX9_ratioOf_74 (lv_at hl 2 rfl) ?_
        refine lv_aload_n hx hb dX9_ratioOf_76 rfl (lv_at hl 3 rfl) ?_
        refine lv_iload_n hx hb dX9_ratioOf_77 rfl (lv_at hl 4 rfl) ?_
        refine lv_iload hx hb dX9_ratioOf_78 (lv_at hl 1 rfl) ?_
        refine lv_iconst (v := 2) hx hb dX9_ratioOf_80 (by decide) ?_
        refine callv (y := yX9_baseOf) ⟨hx, hb, hml, hown, ht⟩ hK hN hP hS (k := 0) (c_X9_baseOf l D ca ad hI σ τ i_ (nI k) (2 : Int32) ea va (nI_clamp (by omega)) (vp_in_nI (by omega) (by decide)) (show Int32.toNatClampNeg 2 = 2 from rfl) (by rw [vp_in_iff]; decide)) (by decide) (sm_obj _ _) rfl ok_X9_baseOf gw_1128 ⟨by decide, by decide⟩ rfl hl.1 rfl (Nat.le_of_ble_eq_true rfl) ⟨by decide, by decide⟩ dX9_ratioOf_81 (fun v_ S_ T_ H locs hp7 hP hS => ?_)
        obtain ⟨rfl, rfl, rfl⟩ := hp7
        try dsimp only [Option.toList, List.cons_append, List.nil_append]
        refine lv_i2l (v := (σ 2 (434 + 10 * a + 1 + 3 * k + 2)).toInt64) hx hb dX9_ratioOf_84 rfl ?_
        refine lv_lmul hx hb dX9_ratioOf_85 ?_
        refine lv_lstore (lv' := [(6, .long (d * ((σ 2 (434 + 10 * a + 1 + 3 * k + 2)).toInt64))), (4, .long (u * ((σ 2 (434 + 10 * a + 1 + 3 * k + 1)).toInt64))), (8, .int (nI k)), (0, .ref (ad 0)), (1, .int i_), (2, .int a_), (3, .int z_)]) hx hb dX9_ratioOf_86 hl (by decide) rfl (fun ls hl => ?_)
        refine lv_iinc (v := (nI k) + 1) (lv' := [(8, .int ((nI k) + 1)), (6, .long (d * ((σ 2 (434 + 10 * a + 1 + 3 * k + 2)).toInt64))), (4, .long (u * ((σ 2 (434 + 10 * a + 1 + 3 * k + 1)).toInt64))), (0, .ref (ad 0)), (1, .int i_), (2, .int a_), (3, .int z_)]) hx hb dX9_ratioOf_88 hl (k := 2) rfl rfl (by decide) rfl (fun ls hl => ?_)
        refine lv_goto (tgt := 21) hx hb dX9_ratioOf_91 (by decide) ?_
        rw [nI_1] at hl
        exact ih (k + 1) (by omega) (by omega) (u * ((σ 2 (434 + 10 * a + 1 + 3 * k + 1)).toInt64)) (d * ((σ 2 (434 + 10 * a + 1 + 3 * k + 2)).toInt64)) (by simp only [mrP, c5, ↓reduceIte, hud, Bool.false_eq_true]) _ _ hP hS ls (lv_sub hl [0, 1, 2, 3, 4, 5, 6] rfl)
      · refine lv_goto (tgt := 88) hx hb dX9_ratioOf_57 (by decide) ?_
        refine lv_iinc (v := (nI k) + 1) (lv' := [(8, .int ((nI k) + 1)), (6, .long d), (4, .long u), (0, .ref (ad 0)), (1, .int i_), (2, .int a_), (3, .int z_)]) hx hb dX9_ratioOf_88 hl (k := 0) rfl rfl (by decide) rfl (fun ls hl => ?_)
        refine lv_goto (tgt := 21) hx hb dX9_ratioOf_91 (by decide) ?_
        rw [nI_1] at hl
        exact ih (k + 1) (by omega) (by omega) (u) (d) (by simp only [mrP, c5, ↓reduceIte, hud, Bool.false_eq_true]) _ _ hP hS ls (lv_sub hl [0, 1, 2, 3, 4, 5, 6] rfl)
set_option maxHeartbeats 4000000 in
set_option maxRecDepth 100000 in
theorem c_X9_ratioOf (l : Launch) (D : va_G) (ca : Nat → ClassId) (ad : Nat → Nat) (hI : Inj 6 ad) (σ : MI) (τ : ML) (i_ a_ z_ : Int32) {a c_ e_ : Nat} (ea : i_.toNatClampNeg = a) (va : vp_in i_ 6) (ec : a_.toNatClampNeg = c_) (vc : vp_in a_ 36) (ee : z_.toNatClampNeg = e_) (ve : vp_in z_ 36) (hR : RI (σ 2)) (hv : σ 2 (218 + 36 * a + c_) ≠ 0) : CT l D (TY ca) 6 ad (mxf ca ad) yX9_ratioOf cX9_ratioOf 10 (some .int) 1 23 [.ref (ad 0), .int i_, .int a_, .int z_] σ τ (fun v_ S_ T_ => some (.int (mRat (σ 2) a a_ z_)) = v_ ∧ σ = S_ ∧ τ = T_) := by
  refine CT.of (by decide) (Nat.le_of_ble_eq_true rfl) ?_
  intro p e s m args below meth c hx hb hr ht hown hlk hml hP hK hN hS ls hl
  have hl : lv_has ls 10 [(0, .ref (ad 0)), (1, .int i_), (2, .int a_), (3, .int z_)] := hl
  refine lv_aload_n hx hb dX9_ratioOf_0 rfl (lv_at hl 0 rfl) ?_
  refine lv_iload_n hx hb dX9_ratioOf_1 rfl (lv_at hl 1 rfl) ?_
  refine lv_iload_n hx hb dX9_ratioOf_2 rfl (lv_at hl 3 rfl) ?_
  refine callv (y := yX9_valueOf) ⟨hx, hb, hml, hown, ht⟩ hK hN hP hS (k := 0) (c_X9_valueOf l D ca ad hI σ τ i_ z_ ea va rfl ve) (by decide) (sm_obj _ _) rfl ok_X9_valueOf gw_1120 ⟨by decide, by decide⟩ rfl hl.1 rfl (Nat.le_of_ble_eq_true rfl) ⟨by decide, by decide⟩ dX9_ratioOf_3 (fun v_ S_ T_ H locs hp1 hP hS => ?_)
  obtain ⟨rfl, rfl, rfl⟩ := hp1
  try dsimp only [Option.toList, List.cons_append, List.nil_append]
  refine lv_i2l (v := (σ 2 (2 + 36 * a + z_.toNatClampNeg)).toInt64) hx hb dX9_ratioOf_6 rfl ?_
  refine lv_lstore (lv' := [(4, .long ((σ 2 (2 + 36 * a + z_.toNatClampNeg)).toInt64)), (0, .ref (ad 0)), (1, .int i_), (2, .int a_), (3, .int z_)]) hx hb dX9_ratioOf_7 hl (by decide) rfl (fun ls hl => ?_)
  refine lv_aload_n hx hb dX9_ratioOf_9 rfl (lv_at hl 1 rfl) ?_
  refine lv_iload_n hx hb dX9_ratioOf_10 rfl (lv_at hl 2 rfl) ?_
  refine lv_iload_n hx hb dX9_ratioOf_11 rfl (lv_at hl 3 rfl) ?_
  refine callv (y := yX9_valueOf) ⟨hx, hb, hml, hown, ht⟩ hK hN hP hS (k := 0) (c_X9_valueOf l D ca ad hI σ τ i_ a_ ea va rfl vc) (by decide) (sm_obj _ _) rfl ok_X9_valueOf gw_1120 ⟨by decide, by decide⟩ rfl hl.1 rfl (Nat.le_of_ble_eq_true rfl) ⟨by decide, by decide⟩ dX9_ratioOf_12 (fun v_ S_ T_ H locs hp2 hP hS => ?_)
  obtain ⟨rfl, rfl, rfl⟩ := hp2
  try dsimp only [Option.toList, List.cons_append, List.nil_append]
  refine lv_i2l (v := (σ 2 (2 + 36 * a + a_.toNatClampNeg)).toInt64) hx hb dX9_ratioOf_15 rfl ?_
  refine lv_lstore (lv' := [(6, .long ((σ 2 (2 + 36 * a + a_.toNatClampNeg)).toInt64)), (4, .long ((σ 2 (2 + 36 * a + z_.toNatClampNeg)).toInt64)), (0, .ref (ad 0)), (1, .int i_), (2, .int a_), (3, .int z_)]) hx hb dX9_ratioOf_16 hl (by decide) rfl (fun ls hl => ?_)
  refine lv_iconst (v := 0) hx hb dX9_ratioOf_18 (by decide) ?_
  refine lv_istore (lv' := [(8, .int 0), (6, .long ((σ 2 (2 + 36 * a + a_.toNatClampNeg)).toInt64)), (4, .long ((σ 2 (2 + 36 * a + z_.toNatClampNeg)).toInt64)), (0, .ref (ad 0)), (1, .int i_), (2, .int a_), (3, .int z_)]) hx hb dX9_ratioOf_19 hl (by decide) rfl (fun ls hl => ?_)
  exact lp_X9_ratio hI i_ a_ z_ ea va ec vc ee ve hR hv hx hb hr ht hown hlk hml hK hN ((σ 2 (434 + 10 * a)).toNatClampNeg + 1) 0 (by omega) (by omega) _ _ rfl _ _ hP hS ls hl
set_option maxHeartbeats 4000000 in
set_option maxRecDepth 100000 in
theorem lp_X9_fac {l : Launch} {D : va_G} {ca : Nat → ClassId} {ad : Nat → Nat} (hI : Inj 6 ad) {σ : MI} {τ : ML} (q_ m_ : Int32) {a n_ : Nat} (ea : q_.toNatClampNeg = a) (va : vp_in q_ 6) (en : m_.toInt = (n_ : Int) - 1) (hn36 : n_ ≤ 36) (hR : RI (σ 2)) (hC : (a : Int) < (σ 2 494).toInt) (hm9 : (σ 2 (495 + 19 * a + 2)).toInt < n_) {p : Program} {e : Env} {s : State} {m : MethodId} {args : Array Value} {below : List Frame} {meth : Method} {c : Code} (hx : p.tables.exec = Jvm.exec) (hb : c.code = cX9_factorOf) (hr : meth.sig.returnType = (some .int)) (ht : ∀ w ∈ GG, w.before args s = true) (hown : s.vm.findClass yX9_factorOf.cls = some m.cls) (hlk : meth.locks = false) (hml : c.maxLocals = 7) (hK : va_K D vwCl (TY ca) s) (hN : NW s) : ∀ (n : Nat) (k : Nat) (hk : k ≤ (σ 2 (495 + 19 * a + 6)).toNatClampNeg) (hn : (σ 2 (495 + 19 * a + 6)).toNatClampNeg - k < n) (u : Int64) (hu : mfP (σ 2) a n_ k = u) (H : Heap) (locs : List Loc) (hP : PW D 6 ad (mxf ca ad) σ τ H) (hS : va_S (AA 6 ad) s.heap H locs) (ls : Array Slot) (hl : lv_has ls 7 [(5, .int (nI k)), (3, .long u), (0, .ref (ad 0)), (1, .int q_), (2, .int m_)]), W p l e { frames := 2, cells := 0, slots := 0, locals := 52 } s m args below meth c H locs 0 0 (MQ below (QD D 6 ad (mxf ca ad) (fun v_ S_ T_ => some (.int (mFac (σ 2) a n_)) = v_ ∧ σ = S_ ∧ τ = T_)) args s 0 0 (AA 6 ad)) (F0 m 15 ls []) := by
  intro n
  induction n with
  | zero => intro k hk hn u hu H locs hP hS ls hl; exfalso; omega
  | succ n ih =>
    intro k hk hn u hu H locs hP hS ls hl
    have hCI := hR.con hC
    have h6 := hCI.2.2.2.2.2.2.1
    have hbs := hCI.2.2.1
    have h35 := hR.1
    unfold rg at h6 hbs h35
    have hc := clampI (σ 2 (495 + 19 * a + 6))
    have ek : (nI k).toInt = k := nI_toInt (by omega)
    refine lv_iload hx hb dX9_factorOf_15 (lv_at hl 0 rfl) ?_
    refine lv_aload_n hx hb dX9_factorOf_17 rfl (lv_at hl 2 rfl) ?_
    refine lv_iload_n hx hb dX9_factorOf_18 rfl (lv_at hl 3 rfl) ?_
    refine lv_bipush (v := 6) hx hb dX9_factorOf_19 (by decide) ?_
    refine callv (y := yX9_toldBy) ⟨hx, hb, hml, hown, ht⟩ hK hN hP hS (k := 0) (c_X9_toldBy l D ca ad hI σ τ q_ (6 : Int32) ea va (show Int32.toNatClampNeg 6 = 6 from rfl) (by rw [vp_in_iff]; decide)) (by decide) (sm_obj _ _) rfl ok_X9_toldBy gw_1155 ⟨by decide, by decide⟩ rfl hl.1 rfl (Nat.le_of_ble_eq_true rfl) ⟨by decide, by decide⟩ dX9_factorOf_21 (fun v_ S_ T_ H locs hp1 hP hS => ?_)
    obtain ⟨rfl, rfl, rfl⟩ := hp1
    try dsimp only [Option.toList, List.cons_append, List.nil_append]
    refine lv_icmp_ge (tgt := 84) hx hb dX9_factorOf_24 (by decide) (fun c2 => ?_) (fun c2 => ?_)
    · have dc2 := c2
      rw [i_le] at dc2
      refine lv_lload_n hx hb dX9_factorOf_84 rfl (lv_at hl 1 rfl) ?_
      refine lv_ldc2 hx hb hown (ht _ gw_1167) dX9_factorOf_85 ?_
      refine lv_ldiv hx hb dX9_factorOf_88 (by decide) ?_
      refine lv_l2i (v := (u / 1000).toInt32) hx hb dX9_factorOf_89 rfl ?_
      exact ret_i hx hb hr hlk hP hS dX9_factorOf_90 (⟨by rw [mFac, show (σ 2 (495 + 19 * a + 6)).toNatClampNeg = k by omega, hu], rfl, rfl⟩)
    · have dc2 := c2
      rw [i_le] at dc2
      have hk6 := hCI.2.2.2.2.2.2.2.1 k (by omega)
      have h16 := hR.2.1
      unfold rg at h16
      have vix : vp_in (σ 2 (495 + 19 * a + (8 + 2 * k))) 6 := by rw [vp_in_iff]; omega
      have vb9 : vp_in (σ 2 (495 + 19 * a + 2)) 36 := by rw [vp_in_iff]; omega
      have hsb := hk6.2.2.2
      have hcb := clampI (σ 2 (495 + 19 * a + 2))
      have vkn := mKn_ge (n := n_) hsb (by omega) hn36
      refine lv_aload_n hx hb dX9_factorOf_27 rfl (lv_at hl 2 rfl) ?_
      refine lv_iload_n hx hb dX9_factorOf_28 rfl (lv_at hl 3 rfl) ?_
      refine lv_bipush (v := 8) hx hb dX9_factorOf_29 (by decide) ?_
      refine lv_iconst (v := 2) hx hb dX9_factorOf_31 (by decide) ?_
      refine lv_iload hx hb dX9_factorOf_32 (lv_at hl 0 rfl) ?_
      refine lv_imul hx hb dX9_factorOf_34 ?_
      refine lv_iadd hx hb dX9_factorOf_35 ?_
      refine callv (y := yX9_toldBy) ⟨hx, hb, hml, hown, ht⟩ hK hN hP hS (k := 0) (c_X9_toldBy l D ca ad hI σ τ q_ (8 + (2 * (nI k))) ea va (by rw [tw8, nI_clamp (by omega)]) (by rw [tw8]; exact vp_in_nI (by omega) (by decide))) (by decide) (sm_obj _ _) rfl ok_X9_toldBy gw_1155 ⟨by decide, by decide⟩ rfl hl.1 rfl (Nat.le_of_ble_eq_true rfl) ⟨by decide, by decide⟩ dX9_factorOf_36 (fun v_ S_ T_ H locs hp3 hP hS => ?_)
      obtain ⟨rfl, rfl, rfl⟩ := hp3
      try dsimp only [Option.toList, List.cons_append, List.nil_append]
      refine lv_istore (lv' := [(6, .int (σ 2 (495 + 19 * a + (8 + 2 * k)))), (5, .int (nI k)), (3, .long u), (0, .ref (ad 0)), (1, .int q_), (2, .int m_)]) hx hb dX9_factorOf_39 hl (by decide) rfl (fun ls hl => ?_)
      refine lv_lload_n hx hb dX9_factorOf_41 rfl (lv_at hl 2 rfl) ?_
      refine lv_aload_n hx hb dX9_factorOf_42 rfl (lv_at hl 3 rfl) ?_
      refine lv_iload_n hx hb dX9_factorOf_43 rfl (lv_at hl 4 rfl) ?_
      refine lv_bipush (v := 7) hx hb dX9_factorOf_44 (by decide) ?_
      refine lv_iconst (v := 2) hx hb dX9_factorOf_46 (by decide) ?_
      refine lv_iload hx hb dX9_factorOf_47 (lv_at hl 1 rfl) ?_
      refine lv_imul hx hb dX9_factorOf_49 ?_
      refine lv_iadd hx hb dX9_factorOf_50 ?_
      refine callv (y := yX9_toldBy) ⟨hx, hb, hml, hown, ht⟩ hK hN hP hS (k := 0) (c_X9_toldBy l D ca ad hI σ τ q_ (7 + (2 * (nI k))) ea va (by rw [tw7, nI_clamp (by omega)]) (by rw [tw7]; exact vp_in_nI (by omega) (by decide))) (by decide) (sm_obj _ _) rfl ok_X9_toldBy gw_1155 ⟨by decide, by decide⟩ rfl hl.1 rfl (Nat.le_of_ble_eq_true rfl) ⟨by decide, by decide⟩ dX9_factorOf_51 (fun v_ S_ T_ H locs hp4 hP hS => ?_)
      obtain ⟨rfl, rfl, rfl⟩ := hp4
      try dsimp only [Option.toList, List.cons_append, List.nil_append]
      refine lv_i2l (v := (σ 2 (495 + 19 * a + (7 + 2 * k))).toInt64) hx hb dX9_factorOf_54 rfl ?_
      refine lv_aload_n hx hb dX9_factorOf_55 rfl (lv_at hl 3 rfl) ?_
      refine lv_iload hx hb dX9_factorOf_56 (lv_at hl 0 rfl) ?_
      refine lv_aload_n hx hb dX9_factorOf_58 rfl (lv_at hl 3 rfl) ?_
      refine lv_iload_n hx hb dX9_factorOf_59 rfl (lv_at hl 4 rfl) ?_
      refine lv_iconst (v := 2) hx hb dX9_factorOf_60 (by decide) ?_
      refine callv (y := yX9_toldBy) ⟨hx, hb, hml, hown, ht⟩ hK hN hP hS (k := 0) (c_X9_toldBy l D ca ad hI σ τ q_ (2 : Int32) ea va (show Int32.toNatClampNeg 2 = 2 from rfl) (by rw [vp_in_iff]; decide)) (by decide) (sm_obj _ _) rfl ok_X9_toldBy gw_1155 ⟨by decide, by decide⟩ rfl hl.1 rfl (Nat.le_of_ble_eq_true rfl) ⟨by decide, by decide⟩ dX9_factorOf_61 (fun v_ S_ T_ H locs hp5 hP hS => ?_)
      obtain ⟨rfl, rfl, rfl⟩ := hp5
      try dsimp only [Option.toList, List.cons_append, List.nil_append]
      refine lv_aload_n hx hb dX9_factorOf_64 rfl (lv_at hl 3 rfl) ?_
      refine lv_iload hx hb dX9_factorOf_65 (lv_at hl 0 rfl) ?_
      refine lv_iload_n hx hb dX9_factorOf_67 rfl (lv_at hl 5 rfl) ?_
      refine callv (y := yX9_knownAt) ⟨hx, hb, hml, hown, ht⟩ hK hN hP hS (k := 0) (c_X9_knownAt l D ca ad hI σ τ (σ 2 (495 + 19 * a + (8 + 2 * k))) m_ rfl vix en hn36) (by decide) (sm_obj _ _) rfl ok_X9_knownAt gw_1112 ⟨by decide, by decide⟩ rfl hl.1 rfl (Nat.le_of_ble_eq_true rfl) ⟨by decide, by decide⟩ dX9_factorOf_68 (fun v_ S_ T_ H locs hp6 hP hS => ?_)
      obtain ⟨rfl, rfl, rfl⟩ := hp6
      try dsimp only [Option.toList, List.cons_append, List.nil_append]
      refine callv (y := yX9_ratioOf) ⟨hx, hb, hml, hown, ht⟩ hK hN hP hS (k := 0) (c_X9_ratioOf l D ca ad hI σ τ (σ 2 (495 + 19 * a + (8 + 2 * k))) (σ 2 (495 + 19 * a + 2)) (mKn (σ 2) ((σ 2 (495 + 19 * a + (8 + 2 * k))).toNatClampNeg) n_) rfl vix rfl vb9 rfl vkn hR hsb) (by decide) (sm_obj _ _) rfl ok_X9_ratioOf gw_1140 ⟨by decide, by decide⟩ rfl hl.1 rfl (Nat.le_of_ble_eq_true rfl) ⟨by decide, by decide⟩ dX9_factorOf_71 (fun v_ S_ T_ H locs hp7 hP hS => ?_)
      obtain ⟨rfl, rfl, rfl⟩ := hp7
      try dsimp only [Option.toList, List.cons_append, List.nil_append]
      refine lv_i2l (v := (mRat (σ 2) ((σ 2 (495 + 19 * a + (8 + 2 * k))).toNatClampNeg) (σ 2 (495 + 19 * a + 2)) (mKn (σ 2) ((σ 2 (495 + 19 * a + (8 + 2 * k))).toNatClampNeg) n_)).toInt64) hx hb dX9_factorOf_74 rfl ?_
      refine lv_lmul hx hb dX9_factorOf_75 ?_
      refine lv_ladd hx hb dX9_factorOf_76 ?_
      refine lv_lstore_n (lv' := [(3, .long (u + (((σ 2 (495 + 19 * a + (7 + 2 * k))).toInt64) * ((mRat (σ 2) ((σ 2 (495 + 19 * a + (8 + 2 * k))).toNatClampNeg) (σ 2 (495 + 19 * a + 2)) (mKn (σ 2) ((σ 2 (495 + 19 * a + (8 + 2 * k))).toNatClampNeg) n_)).toInt64)))), (6, .int (σ 2 (495 + 19 * a + (8 + 2 * k)))), (5, .int (nI k)), (0, .ref (ad 0)), (1, .int q_), (2, .int m_)]) hx hb dX9_factorOf_77 rfl hl (by decide) rfl (fun ls hl => ?_)
      refine lv_iinc (v := (nI k) + 1) (lv' := [(5, .int ((nI k) + 1)), (3, .long (u + (((σ 2 (495 + 19 * a + (7 + 2 * k))).toInt64) * ((mRat (σ 2) ((σ 2 (495 + 19 * a + (8 + 2 * k))).toNatClampNeg) (σ 2 (495 + 19 * a + 2)) (mKn (σ 2) ((σ 2 (495 + 19 * a + (8 + 2 * k))).toNatClampNeg) n_)).toInt64)))), (6, .int (σ 2 (495 + 19 * a + (8 + 2 * k)))), (0, .ref (ad 0)), (1, .int q_), (2, .int m_)]) hx hb dX9_factorOf_78 hl (k := 2) rfl rfl (by decide) rfl (fun ls hl => ?_)
      refine lv_goto (tgt := 15) hx hb dX9_factorOf_81 (by decide) ?_
      rw [nI_1] at hl
      exact ih (k + 1) (by omega) (by omega) _ (by rw [mfP, hu]) _ _ hP hS ls (lv_sub hl [0, 1, 3, 4, 5] rfl)
set_option maxHeartbeats 4000000 in
set_option maxRecDepth 100000 in
theorem c_X9_factorOf (l : Launch) (D : va_G) (ca : Nat → ClassId) (ad : Nat → Nat) (hI : Inj 6 ad) (σ : MI) (τ : ML) (q_ m_ : Int32) {a n_ : Nat} (ea : q_.toNatClampNeg = a) (va : vp_in q_ 6) (en : m_.toInt = (n_ : Int) - 1) (hn36 : n_ ≤ 36) (hR : RI (σ 2)) (hC : (a : Int) < (σ 2 494).toInt) (hm9 : (σ 2 (495 + 19 * a + 2)).toInt < n_) : CT l D (TY ca) 6 ad (mxf ca ad) yX9_factorOf cX9_factorOf 7 (some .int) 2 52 [.ref (ad 0), .int q_, .int m_] σ τ (fun v_ S_ T_ => some (.int (mFac (σ 2) a n_)) = v_ ∧ σ = S_ ∧ τ = T_) := by
  refine CT.of (by decide) (Nat.le_of_ble_eq_true rfl) ?_
  intro p e s m args below meth c hx hb hr ht hown hlk hml hP hK hN hS ls hl
  have hl : lv_has ls 7 [(0, .ref (ad 0)), (1, .int q_), (2, .int m_)] := hl
  refine lv_ldc2 hx hb hown (ht _ gw_1144) dX9_factorOf_0 ?_
  refine lv_aload_n hx hb dX9_factorOf_3 rfl (lv_at hl 0 rfl) ?_
  refine lv_iload_n hx hb dX9_factorOf_4 rfl (lv_at hl 1 rfl) ?_
  refine lv_iconst (v := 1) hx hb dX9_factorOf_5 (by decide) ?_
  refine callv (y := yX9_toldBy) ⟨hx, hb, hml, hown, ht⟩ hK hN hP hS (k := 0) (c_X9_toldBy l D ca ad hI σ τ q_ (1 : Int32) ea va (show Int32.toNatClampNeg 1 = 1 from rfl) (by rw [vp_in_iff]; decide)) (by decide) (sm_obj _ _) rfl ok_X9_toldBy gw_1155 ⟨by decide, by decide⟩ rfl hl.1 rfl (Nat.le_of_ble_eq_true rfl) ⟨by decide, by decide⟩ dX9_factorOf_6 (fun v_ S_ T_ H locs hp1 hP hS => ?_)
  obtain ⟨rfl, rfl, rfl⟩ := hp1
  try dsimp only [Option.toList, List.cons_append, List.nil_append]
  refine lv_i2l (v := (σ 2 (495 + 19 * a + 1)).toInt64) hx hb dX9_factorOf_9 rfl ?_
  refine lv_lmul hx hb dX9_factorOf_10 ?_
  refine lv_lstore_n (lv' := [(3, .long (1000000 * ((σ 2 (495 + 19 * a + 1)).toInt64))), (0, .ref (ad 0)), (1, .int q_), (2, .int m_)]) hx hb dX9_factorOf_11 rfl hl (by decide) rfl (fun ls hl => ?_)
  refine lv_iconst (v := 0) hx hb dX9_factorOf_12 (by decide) ?_
  refine lv_istore (lv' := [(5, .int 0), (3, .long (1000000 * ((σ 2 (495 + 19 * a + 1)).toInt64))), (0, .ref (ad 0)), (1, .int q_), (2, .int m_)]) hx hb dX9_factorOf_13 hl (by decide) rfl (fun ls hl => ?_)
  exact lp_X9_fac hI q_ m_ ea va en hn36 hR hC hm9 hx hb hr ht hown hlk hml hK hN ((σ 2 (495 + 19 * a + 6)).toNatClampNeg + 1) 0 (by omega) (by omega) _ rfl _ _ hP hS ls hl
set_option maxHeartbeats 4000000 in
set_option maxRecDepth 100000 in
theorem c_X9_moveOf (l : Launch) (D : va_G) (ca : Nat → ClassId) (ad : Nat → Nat) (hI : Inj 6 ad) (σ : MI) (τ : ML) (q_ m_ : Int32) {a n_ : Nat} (ea : q_.toNatClampNeg = a) (va : vp_in q_ 6) (en : m_.toInt = (n_ : Int) - 1) (hn36 : n_ ≤ 36) (hR : RI (σ 2)) (hC : (a : Int) < (σ 2 494).toInt) (hm9 : (σ 2 (495 + 19 * a + 2)).toInt < n_) : CT l D (TY ca) 6 ad (mxf ca ad) yX9_moveOf cX9_moveOf 7 (some .int) 3 78 [.ref (ad 0), .int q_, .int m_] σ τ (fun v_ S_ T_ => some (.int (mMov (σ 2) a n_)) = v_ ∧ σ = S_ ∧ τ = T_) := by
  refine CT.of (by decide) (Nat.le_of_ble_eq_true rfl) ?_
  intro p e s m args below meth c hx hb hr ht hown hlk hml hP hK hN hS ls hl
  have hl : lv_has ls 7 [(0, .ref (ad 0)), (1, .int q_), (2, .int m_)] := hl
  refine lv_aload_n hx hb dX9_moveOf_0 rfl (lv_at hl 0 rfl) ?_
  refine lv_iload_n hx hb dX9_moveOf_1 rfl (lv_at hl 1 rfl) ?_
  refine lv_iload_n hx hb dX9_moveOf_2 rfl (lv_at hl 2 rfl) ?_
  refine callv (y := yX9_factorOf) ⟨hx, hb, hml, hown, ht⟩ hK hN hP hS (k := 0) (c_X9_factorOf l D ca ad hI σ τ q_ m_ ea va en hn36 hR hC hm9) (by decide) (sm_obj _ _) rfl ok_X9_factorOf gw_1163 ⟨by decide, by decide⟩ rfl hl.1 rfl (Nat.le_of_ble_eq_true rfl) ⟨by decide, by decide⟩ dX9_moveOf_3 (fun v_ S_ T_ H locs hp1 hP hS => ?_)
  obtain ⟨rfl, rfl, rfl⟩ := hp1
  try dsimp only [Option.toList, List.cons_append, List.nil_append]
  refine lv_ldc hx hb hown (ht _ gw_1172) dX9_moveOf_6 ?_
  refine lv_isub hx hb dX9_moveOf_8 ?_
  refine lv_istore_n (lv' := [(3, .int ((mFac (σ 2) a n_) - 1000000)), (0, .ref (ad 0)), (1, .int q_), (2, .int m_)]) hx hb dX9_moveOf_9 rfl hl (by decide) rfl (fun ls hl => ?_)
  refine lv_iload_n hx hb dX9_moveOf_10 rfl (lv_at hl 0 rfl) ?_
  refine lv_if_ge (tgt := 19) hx hb dX9_moveOf_11 (by decide) (fun c2 => ?_) (fun c2 => ?_)
  · have dc2 := c2
    rw [i_le] at dc2
    refine lv_iload_n hx hb dX9_moveOf_19 rfl (lv_at hl 0 rfl) ?_
    refine lv_istore (lv' := [(4, .int ((mFac (σ 2) a n_) - 1000000)), (3, .int ((mFac (σ 2) a n_) - 1000000)), (0, .ref (ad 0)), (1, .int q_), (2, .int m_)]) hx hb dX9_moveOf_20 hl (by decide) rfl (fun ls hl => ?_)
    refine lv_sipush (v := 1000) hx hb dX9_moveOf_22 (by decide) ?_
    refine lv_aload_n hx hb dX9_moveOf_25 rfl (lv_at hl 2 rfl) ?_
    refine lv_iload_n hx hb dX9_moveOf_26 rfl (lv_at hl 3 rfl) ?_
    refine lv_iconst (v := 3) hx hb dX9_moveOf_27 (by decide) ?_
    refine callv (y := yX9_toldBy) ⟨hx, hb, hml, hown, ht⟩ hK hN hP hS (k := 0) (c_X9_toldBy l D ca ad hI σ τ q_ (3 : Int32) ea va (show Int32.toNatClampNeg 3 = 3 from rfl) (by rw [vp_in_iff]; decide)) (by decide) (sm_obj _ _) rfl ok_X9_toldBy gw_1155 ⟨by decide, by decide⟩ rfl hl.1 rfl (Nat.le_of_ble_eq_true rfl) ⟨by decide, by decide⟩ dX9_moveOf_28 (fun v_ S_ T_ H locs hp3 hP hS => ?_)
    obtain ⟨rfl, rfl, rfl⟩ := hp3
    try dsimp only [Option.toList, List.cons_append, List.nil_append]
    refine lv_imul hx hb dX9_moveOf_31 ?_
    refine lv_istore (lv' := [(5, .int (1000 * (σ 2 (495 + 19 * a + 3)))), (4, .int ((mFac (σ 2) a n_) - 1000000)), (3, .int ((mFac (σ 2) a n_) - 1000000)), (0, .ref (ad 0)), (1, .int q_), (2, .int m_)]) hx hb dX9_moveOf_32 hl (by decide) rfl (fun ls hl => ?_)
    refine lv_iload hx hb dX9_moveOf_34 (lv_at hl 1 rfl) ?_
    refine lv_iload hx hb dX9_moveOf_36 (lv_at hl 0 rfl) ?_
    refine lv_icmp_gt (tgt := 43) hx hb dX9_moveOf_38 (by decide) (fun c4 => ?_) (fun c4 => ?_)
    · have dc4 := c4
      rw [i_lt] at dc4
      refine lv_aload_n hx hb dX9_moveOf_43 rfl (lv_at hl 3 rfl) ?_
      refine lv_iload_n hx hb dX9_moveOf_44 rfl (lv_at hl 4 rfl) ?_
      refine lv_iconst (v := 5) hx hb dX9_moveOf_45 (by decide) ?_
      refine callv (y := yX9_toldBy) ⟨hx, hb, hml, hown, ht⟩ hK hN hP hS (k := 0) (c_X9_toldBy l D ca ad hI σ τ q_ (5 : Int32) ea va (show Int32.toNatClampNeg 5 = 5 from rfl) (by rw [vp_in_iff]; decide)) (by decide) (sm_obj _ _) rfl ok_X9_toldBy gw_1155 ⟨by decide, by decide⟩ rfl hl.1 rfl (Nat.le_of_ble_eq_true rfl) ⟨by decide, by decide⟩ dX9_moveOf_46 (fun v_ S_ T_ H locs hp5 hP hS => ?_)
      obtain ⟨rfl, rfl, rfl⟩ := hp5
      try dsimp only [Option.toList, List.cons_append, List.nil_append]
      refine lv_iconst (v := 1) hx hb dX9_moveOf_49 (by decide) ?_
      refine lv_icmp_ne (tgt := 60) hx hb dX9_moveOf_50 (by decide) (fun c6 => ?_) (fun c6 => ?_)
      · have dc6 := c6
        rw [i_eq] at dc6
        refine lv_iload hx hb dX9_moveOf_60 (lv_at hl 1 rfl) ?_
        refine lv_i2l (v := ((mFac (σ 2) a n_) - 1000000).toInt64) hx hb dX9_moveOf_62 rfl ?_
        refine lv_aload_n hx hb dX9_moveOf_63 rfl (lv_at hl 3 rfl) ?_
        refine lv_iload_n hx hb dX9_moveOf_64 rfl (lv_at hl 4 rfl) ?_
        refine lv_iconst (v := 4) hx hb dX9_moveOf_65 (by decide) ?_
        refine callv (y := yX9_toldBy) ⟨hx, hb, hml, hown, ht⟩ hK hN hP hS (k := 0) (c_X9_toldBy l D ca ad hI σ τ q_ (4 : Int32) ea va (show Int32.toNatClampNeg 4 = 4 from rfl) (by rw [vp_in_iff]; decide)) (by decide) (sm_obj _ _) rfl ok_X9_toldBy gw_1155 ⟨by decide, by decide⟩ rfl hl.1 rfl (Nat.le_of_ble_eq_true rfl) ⟨by decide, by decide⟩ dX9_moveOf_66 (fun v_ S_ T_ H locs hp7 hP hS => ?_)
        obtain ⟨rfl, rfl, rfl⟩ := hp7
        try dsimp only [Option.toList, List.cons_append, List.nil_append]
        refine lv_i2l (v := (σ 2 (495 + 19 * a + 4)).toInt64) hx hb dX9_moveOf_69 rfl ?_
        refine lv_lmul hx hb dX9_moveOf_70 ?_
        refine lv_ldc2 hx hb hown (ht _ gw_1173) dX9_moveOf_71 ?_
        refine lv_ldiv hx hb dX9_moveOf_74 (by decide) ?_
        refine lv_l2i (v := (((((mFac (σ 2) a n_) - 1000000).toInt64) * ((σ 2 (495 + 19 * a + 4)).toInt64)) / 100).toInt32) hx hb dX9_moveOf_75 rfl ?_
        refine lv_istore (lv' := [(6, .int ((((((mFac (σ 2) a n_) - 1000000).toInt64) * ((σ 2 (495 + 19 * a + 4)).toInt64)) / 100).toInt32)), (5, .int (1000 * (σ 2 (495 + 19 * a + 3)))), (4, .int ((mFac (σ 2) a n_) - 1000000)), (3, .int ((mFac (σ 2) a n_) - 1000000)), (0, .ref (ad 0)), (1, .int q_), (2, .int m_)]) hx hb dX9_moveOf_76 hl (by decide) rfl (fun ls hl => ?_)
        refine lv_iload_n hx hb dX9_moveOf_78 rfl (lv_at hl 3 rfl) ?_
        refine lv_if_ge (tgt := 88) hx hb dX9_moveOf_79 (by decide) (fun c8 => ?_) (fun c8 => ?_)
        · have dc8 := c8
          rw [i_le] at dc8
          refine lv_iload hx hb dX9_moveOf_88 (lv_at hl 0 rfl) ?_
          exact ret_i hx hb hr hlk hP hS dX9_moveOf_90 (⟨by first | with_reducible rfl | (simp only [mMov, mMv, mMw, mMp, c2, c4, c6, c8, ↓reduceIte, Bool.false_eq_true]; done) | (simp only [mMov, mMv, mMw, mMp, c2, c4, c6, c8, ↓reduceIte, Bool.false_eq_true]; rfl) | rfl, by first | with_reducible rfl | (simp only [mMov, mMv, mMw, mMp, c2, c4, c6, c8, ↓reduceIte, Bool.false_eq_true]; done) | (simp only [mMov, mMv, mMw, mMp, c2, c4, c6, c8, ↓reduceIte, Bool.false_eq_true]; rfl) | rfl, rfl⟩)
        · have dc8 := c8
          rw [i_le] at dc8
          exact absurd c2 c8
      · have dc6 := c6
        rw [i_eq] at dc6
        refine lv_iload hx hb dX9_moveOf_53 (lv_at hl 1 rfl) ?_
        refine lv_iload hx hb dX9_moveOf_55 (lv_at hl 0 rfl) ?_
        refine lv_isub hx hb dX9_moveOf_57 ?_
        refine lv_istore (lv' := [(4, .int (((mFac (σ 2) a n_) - 1000000) - (1000 * (σ 2 (495 + 19 * a + 3))))), (5, .int (1000 * (σ 2 (495 + 19 * a + 3)))), (3, .int ((mFac (σ 2) a n_) - 1000000)), (0, .ref (ad 0)), (1, .int q_), (2, .int m_)]) hx hb dX9_moveOf_58 hl (by decide) rfl (fun ls hl => ?_)
        refine lv_iload hx hb dX9_moveOf_60 (lv_at hl 0 rfl) ?_
        refine lv_i2l (v := (((mFac (σ 2) a n_) - 1000000) - (1000 * (σ 2 (495 + 19 * a + 3)))).toInt64) hx hb dX9_moveOf_62 rfl ?_
        refine lv_aload_n hx hb dX9_moveOf_63 rfl (lv_at hl 3 rfl) ?_
        refine lv_iload_n hx hb dX9_moveOf_64 rfl (lv_at hl 4 rfl) ?_
        refine lv_iconst (v := 4) hx hb dX9_moveOf_65 (by decide) ?_
        refine callv (y := yX9_toldBy) ⟨hx, hb, hml, hown, ht⟩ hK hN hP hS (k := 0) (c_X9_toldBy l D ca ad hI σ τ q_ (4 : Int32) ea va (show Int32.toNatClampNeg 4 = 4 from rfl) (by rw [vp_in_iff]; decide)) (by decide) (sm_obj _ _) rfl ok_X9_toldBy gw_1155 ⟨by decide, by decide⟩ rfl hl.1 rfl (Nat.le_of_ble_eq_true rfl) ⟨by decide, by decide⟩ dX9_moveOf_66 (fun v_ S_ T_ H locs hp9 hP hS => ?_)
        obtain ⟨rfl, rfl, rfl⟩ := hp9
        try dsimp only [Option.toList, List.cons_append, List.nil_append]
        refine lv_i2l (v := (σ 2 (495 + 19 * a + 4)).toInt64) hx hb dX9_moveOf_69 rfl ?_
        refine lv_lmul hx hb dX9_moveOf_70 ?_
        refine lv_ldc2 hx hb hown (ht _ gw_1173) dX9_moveOf_71 ?_
        refine lv_ldiv hx hb dX9_moveOf_74 (by decide) ?_
        refine lv_l2i (v := ((((((mFac (σ 2) a n_) - 1000000) - (1000 * (σ 2 (495 + 19 * a + 3)))).toInt64) * ((σ 2 (495 + 19 * a + 4)).toInt64)) / 100).toInt32) hx hb dX9_moveOf_75 rfl ?_
        refine lv_istore (lv' := [(6, .int (((((((mFac (σ 2) a n_) - 1000000) - (1000 * (σ 2 (495 + 19 * a + 3)))).toInt64) * ((σ 2 (495 + 19 * a + 4)).toInt64)) / 100).toInt32)), (4, .int (((mFac (σ 2) a n_) - 1000000) - (1000 * (σ 2 (495 + 19 * a + 3))))), (5, .int (1000 * (σ 2 (495 + 19 * a + 3)))), (3, .int ((mFac (σ 2) a n_) - 1000000)), (0, .ref (ad 0)), (1, .int q_), (2, .int m_)]) hx hb dX9_moveOf_76 hl (by decide) rfl (fun ls hl => ?_)
        refine lv_iload_n hx hb dX9_moveOf_78 rfl (lv_at hl 3 rfl) ?_
        refine lv_if_ge (tgt := 88) hx hb dX9_moveOf_79 (by decide) (fun c10 => ?_) (fun c10 => ?_)
        · have dc10 := c10
          rw [i_le] at dc10
          refine lv_iload hx hb dX9_moveOf_88 (lv_at hl 0 rfl) ?_
          exact ret_i hx hb hr hlk hP hS dX9_moveOf_90 (⟨by first | with_reducible rfl | (simp only [mMov, mMv, mMw, mMp, c2, c4, c6, c10, ↓reduceIte, Bool.false_eq_true]; done) | (simp only [mMov, mMv, mMw, mMp, c2, c4, c6, c10, ↓reduceIte, Bool.false_eq_true]; rfl) | rfl, by first | with_reducible rfl | (simp only [mMov, mMv, mMw, mMp, c2, c4, c6, c10, ↓reduceIte, Bool.false_eq_true]; done) | (simp only [mMov, mMv, mMw, mMp, c2, c4, c6, c10, ↓reduceIte, Bool.false_eq_true]; rfl) | rfl, rfl⟩)
        · have dc10 := c10
          rw [i_le] at dc10
          exact absurd c2 c10
    · have dc4 := c4
      rw [i_lt] at dc4
      refine lv_iconst (v := 0) hx hb dX9_moveOf_41 (by decide) ?_
      exact ret_i hx hb hr hlk hP hS dX9_moveOf_42 (⟨by first | with_reducible rfl | (simp only [mMov, mMv, mMw, mMp, c2, c4, ↓reduceIte, Bool.false_eq_true]; done) | (simp only [mMov, mMv, mMw, mMp, c2, c4, ↓reduceIte, Bool.false_eq_true]; rfl) | rfl, by first | with_reducible rfl | (simp only [mMov, mMv, mMw, mMp, c2, c4, ↓reduceIte, Bool.false_eq_true]; done) | (simp only [mMov, mMv, mMw, mMp, c2, c4, ↓reduceIte, Bool.false_eq_true]; rfl) | rfl, rfl⟩)
  · have dc2 := c2
    rw [i_le] at dc2
    refine lv_iload_n hx hb dX9_moveOf_14 rfl (lv_at hl 0 rfl) ?_
    refine lv_ineg hx hb dX9_moveOf_15 ?_
    refine lv_goto (tgt := 20) hx hb dX9_moveOf_16 (by decide) ?_
    refine lv_istore (lv' := [(4, .int (-((mFac (σ 2) a n_) - 1000000))), (3, .int ((mFac (σ 2) a n_) - 1000000)), (0, .ref (ad 0)), (1, .int q_), (2, .int m_)]) hx hb dX9_moveOf_20 hl (by decide) rfl (fun ls hl => ?_)
    refine lv_sipush (v := 1000) hx hb dX9_moveOf_22 (by decide) ?_
    refine lv_aload_n hx hb dX9_moveOf_25 rfl (lv_at hl 2 rfl) ?_
    refine lv_iload_n hx hb dX9_moveOf_26 rfl (lv_at hl 3 rfl) ?_
    refine lv_iconst (v := 3) hx hb dX9_moveOf_27 (by decide) ?_
    refine callv (y := yX9_toldBy) ⟨hx, hb, hml, hown, ht⟩ hK hN hP hS (k := 0) (c_X9_toldBy l D ca ad hI σ τ q_ (3 : Int32) ea va (show Int32.toNatClampNeg 3 = 3 from rfl) (by rw [vp_in_iff]; decide)) (by decide) (sm_obj _ _) rfl ok_X9_toldBy gw_1155 ⟨by decide, by decide⟩ rfl hl.1 rfl (Nat.le_of_ble_eq_true rfl) ⟨by decide, by decide⟩ dX9_moveOf_28 (fun v_ S_ T_ H locs hp11 hP hS => ?_)
    obtain ⟨rfl, rfl, rfl⟩ := hp11
    try dsimp only [Option.toList, List.cons_append, List.nil_append]
    refine lv_imul hx hb dX9_moveOf_31 ?_
    refine lv_istore (lv' := [(5, .int (1000 * (σ 2 (495 + 19 * a + 3)))), (4, .int (-((mFac (σ 2) a n_) - 1000000))), (3, .int ((mFac (σ 2) a n_) - 1000000)), (0, .ref (ad 0)), (1, .int q_), (2, .int m_)]) hx hb dX9_moveOf_32 hl (by decide) rfl (fun ls hl => ?_)
    refine lv_iload hx hb dX9_moveOf_34 (lv_at hl 1 rfl) ?_
    refine lv_iload hx hb dX9_moveOf_36 (lv_at hl 0 rfl) ?_
    refine lv_icmp_gt (tgt := 43) hx hb dX9_moveOf_38 (by decide) (fun c12 => ?_) (fun c12 => ?_)
    · have dc12 := c12
      rw [i_lt] at dc12
      refine lv_aload_n hx hb dX9_moveOf_43 rfl (lv_at hl 3 rfl) ?_
      refine lv_iload_n hx hb dX9_moveOf_44 rfl (lv_at hl 4 rfl) ?_
      refine lv_iconst (v := 5) hx hb dX9_moveOf_45 (by decide) ?_
      refine callv (y := yX9_toldBy) ⟨hx, hb, hml, hown, ht⟩ hK hN hP hS (k := 0) (c_X9_toldBy l D ca ad hI σ τ q_ (5 : Int32) ea va (show Int32.toNatClampNeg 5 = 5 from rfl) (by rw [vp_in_iff]; decide)) (by decide) (sm_obj _ _) rfl ok_X9_toldBy gw_1155 ⟨by decide, by decide⟩ rfl hl.1 rfl (Nat.le_of_ble_eq_true rfl) ⟨by decide, by decide⟩ dX9_moveOf_46 (fun v_ S_ T_ H locs hp13 hP hS => ?_)
      obtain ⟨rfl, rfl, rfl⟩ := hp13
      try dsimp only [Option.toList, List.cons_append, List.nil_append]
      refine lv_iconst (v := 1) hx hb dX9_moveOf_49 (by decide) ?_
      refine lv_icmp_ne (tgt := 60) hx hb dX9_moveOf_50 (by decide) (fun c14 => ?_) (fun c14 => ?_)
      · have dc14 := c14
        rw [i_eq] at dc14
        refine lv_iload hx hb dX9_moveOf_60 (lv_at hl 1 rfl) ?_
        refine lv_i2l (v := (-((mFac (σ 2) a n_) - 1000000)).toInt64) hx hb dX9_moveOf_62 rfl ?_
        refine lv_aload_n hx hb dX9_moveOf_63 rfl (lv_at hl 3 rfl) ?_
        refine lv_iload_n hx hb dX9_moveOf_64 rfl (lv_at hl 4 rfl) ?_
        refine lv_iconst (v := 4) hx hb dX9_moveOf_65 (by decide) ?_
        refine callv (y := yX9_toldBy) ⟨hx, hb, hml, hown, ht⟩ hK hN hP hS (k := 0) (c_X9_toldBy l D ca ad hI σ τ q_ (4 : Int32) ea va (show Int32.toNatClampNeg 4 = 4 from rfl) (by rw [vp_in_iff]; decide)) (by decide) (sm_obj _ _) rfl ok_X9_toldBy gw_1155 ⟨by decide, by decide⟩ rfl hl.1 rfl (Nat.le_of_ble_eq_true rfl) ⟨by decide, by decide⟩ dX9_moveOf_66 (fun v_ S_ T_ H locs hp15 hP hS => ?_)
        obtain ⟨rfl, rfl, rfl⟩ := hp15
        try dsimp only [Option.toList, List.cons_append, List.nil_append]
        refine lv_i2l (v := (σ 2 (495 + 19 * a + 4)).toInt64) hx hb dX9_moveOf_69 rfl ?_
        refine lv_lmul hx hb dX9_moveOf_70 ?_
        refine lv_ldc2 hx hb hown (ht _ gw_1173) dX9_moveOf_71 ?_
        refine lv_ldiv hx hb dX9_moveOf_74 (by decide) ?_
        refine lv_l2i (v := ((((-((mFac (σ 2) a n_) - 1000000)).toInt64) * ((σ 2 (495 + 19 * a + 4)).toInt64)) / 100).toInt32) hx hb dX9_moveOf_75 rfl ?_
        refine lv_istore (lv' := [(6, .int (((((-((mFac (σ 2) a n_) - 1000000)).toInt64) * ((σ 2 (495 + 19 * a + 4)).toInt64)) / 100).toInt32)), (5, .int (1000 * (σ 2 (495 + 19 * a + 3)))), (4, .int (-((mFac (σ 2) a n_) - 1000000))), (3, .int ((mFac (σ 2) a n_) - 1000000)), (0, .ref (ad 0)), (1, .int q_), (2, .int m_)]) hx hb dX9_moveOf_76 hl (by decide) rfl (fun ls hl => ?_)
        refine lv_iload_n hx hb dX9_moveOf_78 rfl (lv_at hl 3 rfl) ?_
        refine lv_if_ge (tgt := 88) hx hb dX9_moveOf_79 (by decide) (fun c16 => ?_) (fun c16 => ?_)
        · have dc16 := c16
          rw [i_le] at dc16
          exact absurd c16 c2
        · have dc16 := c16
          rw [i_le] at dc16
          refine lv_iload hx hb dX9_moveOf_82 (lv_at hl 0 rfl) ?_
          refine lv_ineg hx hb dX9_moveOf_84 ?_
          refine lv_goto (tgt := 90) hx hb dX9_moveOf_85 (by decide) ?_
          exact ret_i hx hb hr hlk hP hS dX9_moveOf_90 (⟨by first | with_reducible rfl | (simp only [mMov, mMv, mMw, mMp, c2, c12, c14, c16, ↓reduceIte, Bool.false_eq_true]; done) | (simp only [mMov, mMv, mMw, mMp, c2, c12, c14, c16, ↓reduceIte, Bool.false_eq_true]; rfl) | rfl, by first | with_reducible rfl | (simp only [mMov, mMv, mMw, mMp, c2, c12, c14, c16, ↓reduceIte, Bool.false_eq_true]; done) | (simp only [mMov, mMv, mMw, mMp, c2, c12, c14, c16, ↓reduceIte, Bool.false_eq_true]; rfl) | rfl, rfl⟩)
      · have dc14 := c14
        rw [i_eq] at dc14
        refine lv_iload hx hb dX9_moveOf_53 (lv_at hl 1 rfl) ?_
        refine lv_iload hx hb dX9_moveOf_55 (lv_at hl 0 rfl) ?_
        refine lv_isub hx hb dX9_moveOf_57 ?_
        refine lv_istore (lv' := [(4, .int ((-((mFac (σ 2) a n_) - 1000000)) - (1000 * (σ 2 (495 + 19 * a + 3))))), (5, .int (1000 * (σ 2 (495 + 19 * a + 3)))), (3, .int ((mFac (σ 2) a n_) - 1000000)), (0, .ref (ad 0)), (1, .int q_), (2, .int m_)]) hx hb dX9_moveOf_58 hl (by decide) rfl (fun ls hl => ?_)
        refine lv_iload hx hb dX9_moveOf_60 (lv_at hl 0 rfl) ?_
        refine lv_i2l (v := ((-((mFac (σ 2) a n_) - 1000000)) - (1000 * (σ 2 (495 + 19 * a + 3)))).toInt64) hx hb dX9_moveOf_62 rfl ?_
        refine lv_aload_n hx hb dX9_moveOf_63 rfl (lv_at hl 3 rfl) ?_
        refine lv_iload_n hx hb dX9_moveOf_64 rfl (lv_at hl 4 rfl) ?_
        refine lv_iconst (v := 4) hx hb dX9_moveOf_65 (by decide) ?_
        refine callv (y := yX9_toldBy) ⟨hx, hb, hml, hown, ht⟩ hK hN hP hS (k := 0) (c_X9_toldBy l D ca ad hI σ τ q_ (4 : Int32) ea va (show Int32.toNatClampNeg 4 = 4 from rfl) (by rw [vp_in_iff]; decide)) (by decide) (sm_obj _ _) rfl ok_X9_toldBy gw_1155 ⟨by decide, by decide⟩ rfl hl.1 rfl (Nat.le_of_ble_eq_true rfl) ⟨by decide, by decide⟩ dX9_moveOf_66 (fun v_ S_ T_ H locs hp17 hP hS => ?_)
        obtain ⟨rfl, rfl, rfl⟩ := hp17
        try dsimp only [Option.toList, List.cons_append, List.nil_append]
        refine lv_i2l (v := (σ 2 (495 + 19 * a + 4)).toInt64) hx hb dX9_moveOf_69 rfl ?_
        refine lv_lmul hx hb dX9_moveOf_70 ?_
        refine lv_ldc2 hx hb hown (ht _ gw_1173) dX9_moveOf_71 ?_
        refine lv_ldiv hx hb dX9_moveOf_74 (by decide) ?_
        refine lv_l2i (v := (((((-((mFac (σ 2) a n_) - 1000000)) - (1000 * (σ 2 (495 + 19 * a + 3)))).toInt64) * ((σ 2 (495 + 19 * a + 4)).toInt64)) / 100).toInt32) hx hb dX9_moveOf_75 rfl ?_
        refine lv_istore (lv' := [(6, .int ((((((-((mFac (σ 2) a n_) - 1000000)) - (1000 * (σ 2 (495 + 19 * a + 3)))).toInt64) * ((σ 2 (495 + 19 * a + 4)).toInt64)) / 100).toInt32)), (4, .int ((-((mFac (σ 2) a n_) - 1000000)) - (1000 * (σ 2 (495 + 19 * a + 3))))), (5, .int (1000 * (σ 2 (495 + 19 * a + 3)))), (3, .int ((mFac (σ 2) a n_) - 1000000)), (0, .ref (ad 0)), (1, .int q_), (2, .int m_)]) hx hb dX9_moveOf_76 hl (by decide) rfl (fun ls hl => ?_)
        refine lv_iload_n hx hb dX9_moveOf_78 rfl (lv_at hl 3 rfl) ?_
        refine lv_if_ge (tgt := 88) hx hb dX9_moveOf_79 (by decide) (fun c18 => ?_) (fun c18 => ?_)
        · have dc18 := c18
          rw [i_le] at dc18
          exact absurd c18 c2
        · have dc18 := c18
          rw [i_le] at dc18
          refine lv_iload hx hb dX9_moveOf_82 (lv_at hl 0 rfl) ?_
          refine lv_ineg hx hb dX9_moveOf_84 ?_
          refine lv_goto (tgt := 90) hx hb dX9_moveOf_85 (by decide) ?_
          exact ret_i hx hb hr hlk hP hS dX9_moveOf_90 (⟨by first | with_reducible rfl | (simp only [mMov, mMv, mMw, mMp, c2, c12, c14, c18, ↓reduceIte, Bool.false_eq_true]; done) | (simp only [mMov, mMv, mMw, mMp, c2, c12, c14, c18, ↓reduceIte, Bool.false_eq_true]; rfl) | rfl, by first | with_reducible rfl | (simp only [mMov, mMv, mMw, mMp, c2, c12, c14, c18, ↓reduceIte, Bool.false_eq_true]; done) | (simp only [mMov, mMv, mMw, mMp, c2, c12, c14, c18, ↓reduceIte, Bool.false_eq_true]; rfl) | rfl, rfl⟩)
    · have dc12 := c12
      rw [i_lt] at dc12
      refine lv_iconst (v := 0) hx hb dX9_moveOf_41 (by decide) ?_
      exact ret_i hx hb hr hlk hP hS dX9_moveOf_42 (⟨by first | with_reducible rfl | (simp only [mMov, mMv, mMw, mMp, c2, c12, ↓reduceIte, Bool.false_eq_true]; done) | (simp only [mMov, mMv, mMw, mMp, c2, c12, ↓reduceIte, Bool.false_eq_true]; rfl) | rfl, by first | with_reducible rfl | (simp only [mMov, mMv, mMw, mMp, c2, c12, ↓reduceIte, Bool.false_eq_true]; done) | (simp only [mMov, mMv, mMw, mMp, c2, c12, ↓reduceIte, Bool.false_eq_true]; rfl) | rfl, rfl⟩)
set_option maxHeartbeats 4000000 in
set_option maxRecDepth 100000 in
theorem c_X9_priceOf (l : Launch) (D : va_G) (ca : Nat → ClassId) (ad : Nat → Nat) (hI : Inj 6 ad) (σ : MI) (τ : ML) (q_ m_ : Int32) {a n_ : Nat} (ea : q_.toNatClampNeg = a) (va : vp_in q_ 6) (en : m_.toInt = (n_ : Int) - 1) (hn36 : n_ ≤ 36) (hR : RI (σ 2)) (hC : (a : Int) < (σ 2 494).toInt) (hm9 : (σ 2 (495 + 19 * a + 2)).toInt < n_) : CT l D (TY ca) 6 ad (mxf ca ad) yX9_priceOf cX9_priceOf 3 (some .int) 4 104 [.ref (ad 0), .int q_, .int m_] σ τ (fun v_ S_ T_ => some (.int (mPri (σ 2) a n_)) = v_ ∧ σ = S_ ∧ τ = T_) := by
  refine CT.of (by decide) (Nat.le_of_ble_eq_true rfl) ?_
  intro p e s m args below meth c hx hb hr ht hown hlk hml hP hK hN hS ls hl
  have hl : lv_has ls 3 [(0, .ref (ad 0)), (1, .int q_), (2, .int m_)] := hl
  refine lv_aload_n hx hb dX9_priceOf_0 rfl (lv_at hl 0 rfl) ?_
  refine lv_iload_n hx hb dX9_priceOf_1 rfl (lv_at hl 1 rfl) ?_
  refine lv_iconst (v := 0) hx hb dX9_priceOf_2 (by decide) ?_
  refine callv (y := yX9_toldBy) ⟨hx, hb, hml, hown, ht⟩ hK hN hP hS (k := 0) (c_X9_toldBy l D ca ad hI σ τ q_ (0 : Int32) ea va (show Int32.toNatClampNeg 0 = 0 from rfl) (by rw [vp_in_iff]; decide)) (by decide) (sm_obj _ _) rfl ok_X9_toldBy gw_1155 ⟨by decide, by decide⟩ rfl hl.1 rfl (Nat.le_of_ble_eq_true rfl) ⟨by decide, by decide⟩ dX9_priceOf_3 (fun v_ S_ T_ H locs hp1 hP hS => ?_)
  obtain ⟨rfl, rfl, rfl⟩ := hp1
  try dsimp only [Option.toList, List.cons_append, List.nil_append]
  refine lv_i2l (v := (σ 2 (495 + 19 * a + 0)).toInt64) hx hb dX9_priceOf_6 rfl ?_
  refine lv_ldc2 hx hb hown (ht _ gw_1144) dX9_priceOf_7 ?_
  refine lv_aload_n hx hb dX9_priceOf_10 rfl (lv_at hl 0 rfl) ?_
  refine lv_iload_n hx hb dX9_priceOf_11 rfl (lv_at hl 1 rfl) ?_
  refine lv_iload_n hx hb dX9_priceOf_12 rfl (lv_at hl 2 rfl) ?_
  refine callv (y := yX9_moveOf) ⟨hx, hb, hml, hown, ht⟩ hK hN hP hS (k := 0) (c_X9_moveOf l D ca ad hI σ τ q_ m_ ea va en hn36 hR hC hm9) (by decide) (sm_obj _ _) rfl ok_X9_moveOf gw_1168 ⟨by decide, by decide⟩ rfl hl.1 rfl (Nat.le_of_ble_eq_true rfl) ⟨by decide, by decide⟩ dX9_priceOf_13 (fun v_ S_ T_ H locs hp2 hP hS => ?_)
  obtain ⟨rfl, rfl, rfl⟩ := hp2
  try dsimp only [Option.toList, List.cons_append, List.nil_append]
  refine lv_i2l (v := (mMov (σ 2) a n_).toInt64) hx hb dX9_priceOf_16 rfl ?_
  refine lv_ladd hx hb dX9_priceOf_17 ?_
  refine lv_lmul hx hb dX9_priceOf_18 ?_
  refine lv_ldc2 hx hb hown (ht _ gw_1178) dX9_priceOf_19 ?_
  refine lv_ladd hx hb dX9_priceOf_22 ?_
  refine lv_ldc2 hx hb hown (ht _ gw_1144) dX9_priceOf_23 ?_
  refine lv_ldiv hx hb dX9_priceOf_26 (by decide) ?_
  refine lv_l2i (v := (((((σ 2 (495 + 19 * a + 0)).toInt64) * (1000000 + ((mMov (σ 2) a n_).toInt64))) + 500000) / 1000000).toInt32) hx hb dX9_priceOf_27 rfl ?_
  exact ret_i hx hb hr hlk hP hS dX9_priceOf_28 (⟨by first | with_reducible rfl | (simp only [mPri, ↓reduceIte, Bool.false_eq_true]; done) | (simp only [mPri, ↓reduceIte, Bool.false_eq_true]; rfl) | rfl, by first | with_reducible rfl | (simp only [mPri, ↓reduceIte, Bool.false_eq_true]; done) | (simp only [mPri, ↓reduceIte, Bool.false_eq_true]; rfl) | rfl, rfl⟩)
