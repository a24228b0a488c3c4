set_option maxHeartbeats 4000000 in
set_option maxRecDepth 100000 in
theorem c_X9_told (l : Launch) (D : va_G) (ca : Nat → ClassId) (ad : Nat → Nat) (hI : Inj 6 ad) (σ : MI) (τ : ML) (x lo hi : Int32) {a : Nat} (ea : x = nI a) (ha : a < 880) (hT : TI σ) : CT l D (TY ca) 6 ad (mxf ca ad) yX9_told cX9_told 4 (some .boolean) 2 45 [.ref (ad 0), .int x, .int lo, .int hi] σ τ (fun v_ S_ T_ => some (.int (b2i (tdB σ lo hi))) = v_ ∧ (tdM σ a lo hi) = S_ ∧ (tdT σ τ a lo hi) = T_) := by
  refine CT.of (by decide) (Nat.le_of_ble_eq_true rfl) ?_
  intro p e s m args below meth c hx hb hr ht hown hlk hml hP hK hN hS ls hl
  have hl : lv_has ls 4 [(0, .ref (ad 0)), (1, .int x), (2, .int lo), (3, .int hi)] := hl
  refine lv_aload_n hx hb dX9_told_0 rfl (lv_at hl 0 rfl) ?_
  refine fgetx hx hb ht inG9 hown hK hP (k := 0) (by decide) (x := (σ 0)) rfl (sm_obj _ _) rfl 6 (by decide) gw_945 (v := .int ((σ 0) 6)) rfl dX9_told_1 ?_
  refine lv_iconst (v := 3) hx hb dX9_told_4 (by decide) ?_
  refine lv_icmp_eq (tgt := 14) hx hb dX9_told_5 (by decide) (fun c1 => ?_) (fun c1 => ?_)
  · have dc1 := c1
    rw [i_eq] at dc1
    refine lv_aload_n hx hb dX9_told_14 rfl (lv_at hl 0 rfl) ?_
    refine fgetx hx hb ht inG9 hown hK hP (k := 0) (by decide) (x := (σ 0)) rfl (sm_obj _ _) rfl 7 (by decide) gw_946 (v := .int ((σ 0) 7)) rfl dX9_told_15 ?_
    refine lv_iload_n hx hb dX9_told_18 rfl (lv_at hl 2 rfl) ?_
    refine lv_iload_n hx hb dX9_told_19 rfl (lv_at hl 3 rfl) ?_
    refine calls (y := yX9_isIn) ⟨hx, hb, hml, hown, ht⟩ hK hN hP hS (c_X9_isIn l D ca ad hI σ τ ((σ 0) 7) lo hi) ok_X9_isIn gw_1042 ⟨by decide, by decide⟩ rfl hl.1 rfl (Nat.le_of_ble_eq_true rfl) ⟨by decide, by decide⟩ dX9_told_20 (fun v_ S_ T_ H locs hp2 hP hS => ?_)
    obtain ⟨rfl, rfl, rfl⟩ := hp2
    try dsimp only [Option.toList, List.cons_append, List.nil_append]
    refine br_ne (tgt := 32) hx hb dX9_told_23 (by decide) (fun c3 => ?_) (fun c3 => ?_)
    · refine lv_aload_n hx hb dX9_told_32 rfl (lv_at hl 0 rfl) ?_
      refine fgetx hx hb ht inG9 hown hK hP (k := 0) (by decide) (x := (σ 0)) rfl (sm_obj _ _) rfl 13 (by decide) gw_952 (v := .ref (ad 3)) rfl dX9_told_33 ?_
      refine lv_iload_n hx hb dX9_told_36 rfl (lv_at hl 1 rfl) ?_
      refine lv_aload_n hx hb dX9_told_37 rfl (lv_at hl 0 rfl) ?_
      refine fgetx hx hb ht inG9 hown hK hP (k := 0) (by decide) (x := (σ 0)) rfl (sm_obj _ _) rfl 7 (by decide) gw_946 (v := .int ((σ 0) 7)) rfl dX9_told_38 ?_
      refine astj hx hb hK hP hI hS (k := 3) (by decide) 0 (fun f => sm_read f _ ) rfl (by rw [ea]; exact vp_in_nI (by omega) (by decide)) (j := a) (by rw [ea]; exact nI_clamp (by omega)) dX9_told_41 (fun H locs hP hS => ?_)
      refine lv_aload_n hx hb dX9_told_42 rfl (lv_at hl 0 rfl) ?_
      refine callv (y := yX9_go) ⟨hx, hb, hml, hown, ht⟩ hK hN hP hS (k := 0) (c_X9_go l D ca ad hI (s2 σ 3 a ((σ 0) 7)) τ (TI_k (by decide) hT _ _)) (by decide) (sm_obj _ _) rfl ok_X9_go gw_996 ⟨by decide, by decide⟩ rfl hl.1 rfl (Nat.le_of_ble_eq_true rfl) ⟨by decide, by decide⟩ dX9_told_43 (fun v_ S_ T_ H locs hp4 hP hS => ?_)
      obtain ⟨rfl, rfl, rfl⟩ := hp4
      try dsimp only [Option.toList, List.cons_append, List.nil_append]
      refine lv_iconst (v := 1) hx hb dX9_told_46 (by decide) ?_
      exact ret_z hx hb hr hlk hP hS dX9_told_47 (b := true) rfl (⟨by simp only [tdB, tdM, tdT, (eq_true c1), c3, ↓reduceIte, Bool.false_eq_true], by simp only [tdB, tdM, tdT, (eq_true c1), c3, ↓reduceIte, Bool.false_eq_true], by simp only [tdB, tdM, tdT, (eq_true c1), c3, ↓reduceIte, Bool.false_eq_true]⟩)
    · refine lv_aload_n hx hb dX9_told_26 rfl (lv_at hl 0 rfl) ?_
      refine lv_iconst (v := 2) hx hb dX9_told_27 (by decide) ?_
      refine callv (y := yX9_bad) ⟨hx, hb, hml, hown, ht⟩ hK hN hP hS (k := 0) (c_X9_bad l D ca ad hI σ τ (2 : Int32)) (by decide) (sm_obj _ _) rfl ok_X9_bad gw_1034 ⟨by decide, by decide⟩ rfl hl.1 rfl (Nat.le_of_ble_eq_true rfl) ⟨by decide, by decide⟩ dX9_told_28 (fun v_ S_ T_ H locs hp5 hP hS => ?_)
      obtain ⟨rfl, rfl, rfl⟩ := hp5
      try dsimp only [Option.toList, List.cons_append, List.nil_append]
      exact ret_z hx hb hr hlk hP hS dX9_told_31 (b := false) rfl (⟨by simp only [tdB, tdM, tdT, (eq_true c1), c3, ↓reduceIte, Bool.false_eq_true], by simp only [tdB, tdM, tdT, (eq_true c1), c3, ↓reduceIte, Bool.false_eq_true], by simp only [tdB, tdM, tdT, (eq_true c1), c3, ↓reduceIte, Bool.false_eq_true]⟩)
  · have dc1 := c1
    rw [i_eq] at dc1
    refine lv_aload_n hx hb dX9_told_8 rfl (lv_at hl 0 rfl) ?_
    refine lv_iconst (v := 1) hx hb dX9_told_9 (by decide) ?_
    refine callv (y := yX9_bad) ⟨hx, hb, hml, hown, ht⟩ hK hN hP hS (k := 0) (c_X9_bad l D ca ad hI σ τ (1 : Int32)) (by decide) (sm_obj _ _) rfl ok_X9_bad gw_1034 ⟨by decide, by decide⟩ rfl hl.1 rfl (Nat.le_of_ble_eq_true rfl) ⟨by decide, by decide⟩ dX9_told_10 (fun v_ S_ T_ H locs hp6 hP hS => ?_)
    obtain ⟨rfl, rfl, rfl⟩ := hp6
    try dsimp only [Option.toList, List.cons_append, List.nil_append]
    exact ret_z hx hb hr hlk hP hS dX9_told_13 (b := false) rfl (⟨by simp only [tdB, tdM, tdT, c1, ↓reduceIte, Bool.false_eq_true], by simp only [tdB, tdM, tdT, c1, ↓reduceIte, Bool.false_eq_true], by simp only [tdB, tdM, tdT, c1, ↓reduceIte, Bool.false_eq_true]⟩)
set_option maxHeartbeats 4000000 in
set_option maxRecDepth 100000 in
theorem lp_X9_named {l : Launch} {D : va_G} {ca : Nat → ClassId} {ad : Nat → Nat} (hI : Inj 6 ad) {σ : MI} {τ : ML} (h1 : rg (σ 3 1) 0 6) {p : Program} {e : Env} {s : State} {m : MethodId} {args : Array Value} {below : List Frame} {meth : Method} {c : Code} (hx : p.tables.exec = Jvm.exec) (hb : c.code = cX9_named) (hr : meth.sig.returnType = (some .int)) (ht : ∀ w ∈ GG, w.before args s = true) (hown : s.vm.findClass yX9_named.cls = some m.cls) (hlk : meth.locks = false) (hml : c.maxLocals = 2) (hK : va_K D vwCl (TY ca) s) (hN : NW s) : ∀ (n : Nat) (r k : Nat) (hk : k + r = (σ 3 1).toNatClampNeg) (hn : r < n) (hR : fnd (fun k => decide (τ 5 k = τ 0 11)) r k = nmd σ τ) (H : Heap) (locs : List Loc) (hP : PW D 6 ad (mxf ca ad) σ τ H) (hS : va_S (AA 6 ad) s.heap H locs) (ls : Array Slot) (hl : lv_has ls 2 [(1, .int (nI k)), (0, .ref (ad 0))]), W p l e { frames := 0, cells := 0, slots := 0, locals := 0 } s m args below meth c H locs 0 0 (MQ below (QD D 6 ad (mxf ca ad) (fun v_ S_ T_ => some (.int (nmd σ τ)) = v_ ∧ σ = S_ ∧ τ = T_)) args s 0 0 (AA 6 ad)) (F0 m 2 ls []) := by
  intro n
  induction n with
  | zero => intro r k hk hn hR H locs hP hS ls hl; exfalso; omega
  | succ n ih =>
    intro r k hk hn hR H locs hP hS ls hl
    have h1b := h1
    unfold rg at h1b
    have hc := clampI (σ 3 1)
    have ek : (nI k).toInt = k := nI_toInt (by omega)
    refine lv_iload_n hx hb dX9_named_2 rfl (lv_at hl 0 rfl) ?_
    refine lv_aload_n hx hb dX9_named_3 rfl (lv_at hl 1 rfl) ?_
    refine fgetx hx hb ht inG9 hown hK hP (k := 0) (by decide) (x := (σ 0)) rfl (sm_obj _ _) rfl 13 (by decide) gw_952 (v := .ref (ad 3)) rfl dX9_named_4 ?_
    refine lv_iconst (v := 1) hx hb dX9_named_7 (by decide) ?_
    refine aldj hx hb hK hP (k := 3) (by decide) (x := (σ 3)) rfl 0 (sm_read _ _) rfl (by rw [vp_in_iff]; decide) (j := 1) rfl dX9_named_8 ?_
    refine lv_icmp_ge (tgt := 34) hx hb dX9_named_9 (by decide) (fun c1 => ?_) (fun c1 => ?_)
    · have dc1 := c1
      rw [i_le] at dc1
      obtain rfl : r = 0 := by omega
      refine lv_iconst (v := -1) hx hb dX9_named_34 (by decide) ?_
      exact ret_i hx hb hr hlk hP hS dX9_named_35 (⟨by rw [← hR]; rfl, rfl, rfl⟩)
    · have dc1 := c1
      rw [i_le] at dc1
      obtain ⟨r', rfl⟩ : ∃ r', r = r' + 1 := ⟨r - 1, by omega⟩
      refine lv_aload_n hx hb dX9_named_12 rfl (lv_at hl 1 rfl) ?_
      refine fgetx hx hb ht inG9 hown hK hP (k := 0) (by decide) (x := (σ 0)) rfl (sm_obj _ _) rfl 15 (by decide) gw_954 (v := .ref (ad 5)) rfl dX9_named_13 ?_
      refine lv_iload_n hx hb dX9_named_16 rfl (lv_at hl 0 rfl) ?_
      refine lldj hx hb hK hP (k := 5) (by decide) 5 (sm_name _ _) rfl (vp_in_nI (by omega) (by decide)) (j := k) (nI_clamp (by omega)) dX9_named_17 ?_
      refine lv_aload_n hx hb dX9_named_18 rfl (lv_at hl 1 rfl) ?_
      refine fgetx hx hb ht inG9 hown hK hP (k := 0) (by decide) (x := (σ 0)) rfl (sm_obj _ _) rfl 11 (by decide) gw_950 (v := .long (τ 0 11)) rfl dX9_named_19 ?_
      refine W.lcmp hx hb dX9_named_22 ?_
      refine lv_if_ne (tgt := 28) hx hb dX9_named_23 (by decide) (fun c2 => ?_) (fun c2 => ?_)
      · rw [lgc_ne] at c2
        refine lv_iinc (v := (nI k) + 1) (lv' := [(1, .int ((nI k) + 1)), (0, .ref (ad 0))]) hx hb dX9_named_28 hl (k := 0) rfl rfl (by decide) rfl (fun ls hl => ?_)
        refine lv_goto (tgt := 2) hx hb dX9_named_31 (by decide) ?_
        rw [nI_1] at hl
        exact ih r' (k + 1) (by omega) (by omega) (by rw [← hR, fnd, if_neg (by rw [decide_eq_false c2]; decide)]) _ _ hP hS ls (lv_sub hl [0, 1] rfl)
      · rw [lgc_ne] at c2
        refine lv_iload_n hx hb dX9_named_26 rfl (lv_at hl 0 rfl) ?_
        exact ret_i hx hb hr hlk hP hS dX9_named_27 (⟨by rw [← hR, fnd, if_pos (decide_eq_true c2)], rfl, rfl⟩)
set_option maxHeartbeats 4000000 in
set_option maxRecDepth 100000 in
theorem c_X9_named (l : Launch) (D : va_G) (ca : Nat → ClassId) (ad : Nat → Nat) (hI : Inj 6 ad) (σ : MI) (τ : ML) (h1 : rg (σ 3 1) 0 6) : CT l D (TY ca) 6 ad (mxf ca ad) yX9_named cX9_named 2 (some .int) 0 0 [.ref (ad 0)] σ τ (fun v_ S_ T_ => some (.int (nmd σ τ)) = v_ ∧ σ = S_ ∧ τ = T_) := by
  refine CT.of (by decide) (Nat.le_of_ble_eq_true rfl) ?_
  intro p e s m args below meth c hx hb hr ht hown hlk hml hP hK hN hS ls hl
  have hl : lv_has ls 2 [(0, .ref (ad 0))] := hl
  refine lv_iconst (v := 0) hx hb dX9_named_0 (by decide) ?_
  refine lv_istore_n (lv' := [(1, .int 0), (0, .ref (ad 0))]) hx hb dX9_named_1 rfl hl (by decide) rfl (fun ls hl => ?_)
  exact lp_X9_named hI h1 hx hb hr ht hown hlk hml hK hN ((σ 3 1).toNatClampNeg + 1) (σ 3 1).toNatClampNeg 0 (by omega) (by omega) rfl _ _ hP hS ls hl
set_option maxHeartbeats 4000000 in
set_option maxRecDepth 100000 in
theorem c_X9_readWord (l : Launch) (D : va_G) (ca : Nat → ClassId) (ad : Nat → Nat) (hI : Inj 6 ad) (σ : MI) (τ : ML) (w : Int32) (hT : TI σ) : CT l D (TY ca) 6 ad (mxf ca ad) yX9_readWord cX9_readWord 2 (some .boolean) 3 64 [.ref (ad 0), .int w] σ τ (fun v_ S_ T_ => some (.int (b2i (mIs σ τ w))) = v_ ∧ (mwM σ τ w) = S_ ∧ (mwT σ τ w) = T_) := by
  refine CT.of (by decide) (Nat.le_of_ble_eq_true rfl) ?_
  intro p e s m args below meth c hx hb hr ht hown hlk hml hP hK hN hS ls hl
  have hl : lv_has ls 2 [(0, .ref (ad 0)), (1, .int w)] := hl
  refine lv_aload_n hx hb dX9_readWord_0 rfl (lv_at hl 0 rfl) ?_
  refine lv_iload_n hx hb dX9_readWord_1 rfl (lv_at hl 1 rfl) ?_
  refine callv (y := yX9_is) ⟨hx, hb, hml, hown, ht⟩ hK hN hP hS (k := 0) (c_X9_is l D ca ad hI σ τ w) (by decide) (sm_obj _ _) rfl ok_X9_is gw_1016 ⟨by decide, by decide⟩ rfl hl.1 rfl (Nat.le_of_ble_eq_true rfl) ⟨by decide, by decide⟩ dX9_readWord_2 (fun v_ S_ T_ H locs hp1 hP hS => ?_)
  obtain ⟨rfl, rfl, rfl⟩ := hp1
  try dsimp only [Option.toList, List.cons_append, List.nil_append]
  refine br_ne (tgt := 14) hx hb dX9_readWord_5 (by decide) (fun c2 => ?_) (fun c2 => ?_)
  · refine lv_aload_n hx hb dX9_readWord_14 rfl (lv_at hl 0 rfl) ?_
    refine callv (y := yX9_go) ⟨hx, hb, hml, hown, ht⟩ hK hN hP hS (k := 0) (c_X9_go l D ca ad hI σ τ hT) (by decide) (sm_obj _ _) rfl ok_X9_go gw_996 ⟨by decide, by decide⟩ rfl hl.1 rfl (Nat.le_of_ble_eq_true rfl) ⟨by decide, by decide⟩ dX9_readWord_15 (fun v_ S_ T_ H locs hp3 hP hS => ?_)
    obtain ⟨rfl, rfl, rfl⟩ := hp3
    try dsimp only [Option.toList, List.cons_append, List.nil_append]
    refine lv_iconst (v := 1) hx hb dX9_readWord_18 (by decide) ?_
    exact ret_z hx hb hr hlk hP hS dX9_readWord_19 (b := true) rfl (⟨by simp only [mwM, mwT, c2, ↓reduceIte, Bool.false_eq_true], by simp only [mwM, mwT, c2, ↓reduceIte, Bool.false_eq_true], by simp only [mwM, mwT, c2, ↓reduceIte, Bool.false_eq_true]⟩)
  · refine lv_aload_n hx hb dX9_readWord_8 rfl (lv_at hl 0 rfl) ?_
    refine lv_iconst (v := 1) hx hb dX9_readWord_9 (by decide) ?_
    refine callv (y := yX9_bad) ⟨hx, hb, hml, hown, ht⟩ hK hN hP hS (k := 0) (c_X9_bad l D ca ad hI σ τ (1 : Int32)) (by decide) (sm_obj _ _) rfl ok_X9_bad gw_1034 ⟨by decide, by decide⟩ rfl hl.1 rfl (Nat.le_of_ble_eq_true rfl) ⟨by decide, by decide⟩ dX9_readWord_10 (fun v_ S_ T_ H locs hp4 hP hS => ?_)
    obtain ⟨rfl, rfl, rfl⟩ := hp4
    try dsimp only [Option.toList, List.cons_append, List.nil_append]
    exact ret_z hx hb hr hlk hP hS dX9_readWord_13 (b := false) rfl (⟨by simp only [mwM, mwT, c2, ↓reduceIte, Bool.false_eq_true], by simp only [mwM, mwT, c2, ↓reduceIte, Bool.false_eq_true], by simp only [mwM, mwT, c2, ↓reduceIte, Bool.false_eq_true]⟩)
set_option maxHeartbeats 4000000 in
set_option maxRecDepth 100000 in
theorem lp_X9_rindex {l : Launch} {D : va_G} {ca : Nat → ClassId} {ad : Nat → Nat} (hI : Inj 6 ad) {σ : MI} {τ : ML} {i : Nat} (h1 : σ 3 1 = nI i) (hi6 : i ≤ 6) (h0 : rg (σ 3 0) 0 35) (hT : TI σ) {p : Program} {e : Env} {s : State} {m : MethodId} {args : Array Value} {below : List Frame} {meth : Method} {c : Code} (hx : p.tables.exec = Jvm.exec) (hb : c.code = cX9_readIndex) (hr : meth.sig.returnType = (some .boolean)) (ht : ∀ w ∈ GG, w.before args s = true) (hown : s.vm.findClass yX9_readIndex.cls = some m.cls) (hlk : meth.locks = false) (hml : c.maxLocals = 3) (hK : va_K D vwCl (TY ca) s) (hN : NW s) : ∀ (n : Nat) (ρ : MI) (υ : ML) (r mo : Nat) (hk : mo + r = 36) (hn : r < n) (h0 : rg (ρ 3 0) 0 35) (hi5 : i < 6) (hT : TI ρ) (hR : miL i (r + 1) mo ρ υ = miP i σ τ) (H : Heap) (locs : List Loc) (hP : PW D 6 ad (mxf ca ad) ρ υ H) (hS : va_S (AA 6 ad) s.heap H locs) (ls : Array Slot) (hl : lv_has ls 3 [(2, .int (nI mo)), (1, .int (nI i)), (0, .ref (ad 0))]), W p l e { frames := 3, cells := 0, slots := 0, locals := 68 } s m args below meth c H locs 0 0 (MQ below (QD D 6 ad (mxf ca ad) (fun v_ S_ T_ => some (.int (b2i ((miP i σ τ).1))) = v_ ∧ ((miP i σ τ).2.1) = S_ ∧ ((miP i σ τ).2.2) = T_)) args s 0 0 (AA 6 ad)) (F0 m 80 ls []) := by
  intro n
  induction n with
  | zero => intro ρ υ r mo hk hn h0 hi5 hT hR H locs hP hS ls hl; exfalso; omega
  | succ n ih =>
    intro ρ υ r mo hk hn h0 hi5 hT hR H locs hP hS ls hl
    have h0b := h0
    unfold rg at h0b
    have ek : (nI mo).toInt = mo := nI_toInt (by omega)
    refine lv_aload_n hx hb dX9_readIndex_80 rfl (lv_at hl 2 rfl) ?_
    refine fgetx hx hb ht inG9 hown hK hP (k := 0) (by decide) (x := (ρ 0)) rfl (sm_obj _ _) rfl 6 (by decide) gw_945 (v := .int ((ρ 0) 6)) rfl dX9_readIndex_81 ?_
    refine lv_iconst (v := 3) hx hb dX9_readIndex_84 (by decide) ?_
    refine lv_icmp_ne (tgt := 147) hx hb dX9_readIndex_85 (by decide) (fun c1 => ?_) (fun c1 => ?_)
    · have dc1 := c1
      rw [i_eq] at dc1
      refine lv_aload_n hx hb dX9_readIndex_147 rfl (lv_at hl 2 rfl) ?_
      refine fgetx hx hb ht inG9 hown hK hP (k := 0) (by decide) (x := (ρ 0)) rfl (sm_obj _ _) rfl 13 (by decide) gw_952 (v := .ref (ad 3)) rfl dX9_readIndex_148 ?_
      refine lv_iconst (v := 1) hx hb dX9_readIndex_151 (by decide) ?_
      refine lv_dup2_11 hx hb dX9_readIndex_152 rfl rfl ?_
      refine aldj hx hb hK hP (k := 3) (by decide) (x := (ρ 3)) rfl 0 (sm_read _ _) rfl (by rw [vp_in_iff]; decide) (j := 1) rfl dX9_readIndex_153 ?_
      refine lv_iconst (v := 1) hx hb dX9_readIndex_154 (by decide) ?_
      refine lv_iadd hx hb dX9_readIndex_155 ?_
      refine astj hx hb hK hP hI hS (k := 3) (by decide) 0 (fun f => sm_read f _ ) rfl (by rw [vp_in_iff]; decide) (j := 1) rfl dX9_readIndex_156 (fun H locs hP hS => ?_)
      refine lv_iconst (v := 1) hx hb dX9_readIndex_157 (by decide) ?_
      exact ret_z hx hb hr hlk hP hS dX9_readIndex_158 (b := true) rfl (⟨by rw [← hR]; simp only [miL, c1, ↓reduceIte, Bool.false_eq_true], by rw [← hR]; simp only [miL, c1, ↓reduceIte, Bool.false_eq_true], by rw [← hR]; simp only [miL, c1, ↓reduceIte, Bool.false_eq_true]⟩)
    · have dc1 := c1
      rw [i_eq] at dc1
      refine lv_iload_n hx hb dX9_readIndex_88 rfl (lv_at hl 0 rfl) ?_
      refine lv_aload_n hx hb dX9_readIndex_89 rfl (lv_at hl 2 rfl) ?_
      refine fgetx hx hb ht inG9 hown hK hP (k := 0) (by decide) (x := (ρ 0)) rfl (sm_obj _ _) rfl 13 (by decide) gw_952 (v := .ref (ad 3)) rfl dX9_readIndex_90 ?_
      refine lv_iconst (v := 0) hx hb dX9_readIndex_93 (by decide) ?_
      refine aldj hx hb hK hP (k := 3) (by decide) (x := (ρ 3)) rfl 0 (sm_read _ _) rfl (by rw [vp_in_iff]; decide) (j := 0) rfl dX9_readIndex_94 ?_
      refine lv_icmp_le (tgt := 104) hx hb dX9_readIndex_95 (by decide) (fun c2 => ?_) (fun c2 => ?_)
      · have dc2 := c2
        rw [i_le] at dc2
        have hm35 : mo ≤ 35 := by omega
        refine lv_aload_n hx hb dX9_readIndex_104 rfl (lv_at hl 2 rfl) ?_
        refine lv_iconst (v := 2) hx hb dX9_readIndex_105 (by decide) ?_
        refine lv_bipush (v := 36) hx hb dX9_readIndex_106 (by decide) ?_
        refine lv_iload_n hx hb dX9_readIndex_108 rfl (lv_at hl 1 rfl) ?_
        refine lv_imul hx hb dX9_readIndex_109 ?_
        refine lv_iadd hx hb dX9_readIndex_110 ?_
        refine lv_iload_n hx hb dX9_readIndex_111 rfl (lv_at hl 0 rfl) ?_
        refine lv_iadd hx hb dX9_readIndex_112 ?_
        refine lv_iconst (v := 1) hx hb dX9_readIndex_113 (by decide) ?_
        refine lv_sipush (v := 999) hx hb dX9_readIndex_114 (by decide) ?_
        refine callv (y := yX9_told) ⟨hx, hb, hml, hown, ht⟩ hK hN hP hS (k := 0) (c_X9_told l D ca ad hI ρ υ ((2 + (36 * (nI i))) + (nI mo)) (1 : Int32) (999 : Int32) (ixL 2 36 rfl rfl i mo) (by omega) hT) (by decide) (sm_obj _ _) rfl ok_X9_told gw_1038 ⟨by decide, by decide⟩ rfl hl.1 rfl (Nat.le_of_ble_eq_true rfl) ⟨by decide, by decide⟩ dX9_readIndex_117 (fun v_ S_ T_ H locs hp3 hP hS => ?_)
        obtain ⟨rfl, rfl, rfl⟩ := hp3
        try dsimp only [Option.toList, List.cons_append, List.nil_append]
        refine br_ne (tgt := 125) hx hb dX9_readIndex_120 (by decide) (fun c4 => ?_) (fun c4 => ?_)
        · refine lv_aload_n hx hb dX9_readIndex_125 rfl (lv_at hl 2 rfl) ?_
          refine fgetx hx hb ht inG9 hown hK hP (k := 0) (by decide) (x := ((tdM ρ (2 + 36 * i + mo) (1 : Int32) (999 : Int32)) 0)) rfl (sm_obj _ _) rfl 13 (by decide) gw_952 (v := .ref (ad 3)) rfl dX9_readIndex_126 ?_
          refine lv_sipush (v := 218) hx hb dX9_readIndex_129 (by decide) ?_
          refine lv_bipush (v := 36) hx hb dX9_readIndex_132 (by decide) ?_
          refine lv_iload_n hx hb dX9_readIndex_134 rfl (lv_at hl 1 rfl) ?_
          refine lv_imul hx hb dX9_readIndex_135 ?_
          refine lv_iadd hx hb dX9_readIndex_136 ?_
          refine lv_iload_n hx hb dX9_readIndex_137 rfl (lv_at hl 0 rfl) ?_
          refine lv_iadd hx hb dX9_readIndex_138 ?_
          refine lv_iconst (v := 2) hx hb dX9_readIndex_139 (by decide) ?_
          refine astj hx hb hK hP hI hS (k := 3) (by decide) 0 (fun f => sm_read f _ ) rfl (by rw [ixL (A := 218) (B := 36) 218 36 rfl rfl i mo]; exact vp_in_nI (by omega) (by decide)) (j := (218 + 36 * i + mo)) (by rw [ixL (A := 218) (B := 36) 218 36 rfl rfl i mo]; exact nI_clamp (by omega)) dX9_readIndex_140 (fun H locs hP hS => ?_)
          refine lv_iinc (v := (nI mo) + 1) (lv' := [(2, .int ((nI mo) + 1)), (1, .int (nI i)), (0, .ref (ad 0))]) hx hb dX9_readIndex_141 hl (k := 0) rfl rfl (by decide) rfl (fun ls hl => ?_)
          refine lv_goto (tgt := 80) hx hb dX9_readIndex_144 (by decide) ?_
          obtain ⟨r', rfl⟩ : ∃ r', r = r' + 1 := ⟨r - 1, by omega⟩
          rw [nI_1] at hl
          exact ih _ _ r' (mo + 1) (by omega) (by omega) (by rw [s2_nj _ _ _ (by omega), tdM_nj _ _ _ (by omega)]; exact h0) hi5 (TI_k (by decide) (TI_td hT _ _ _) _ _) (by rw [miL, if_pos c1, if_pos c2, if_pos c4] at hR; exact hR) _ _ hP hS ls (lv_sub hl [0, 1, 2] rfl)
        · refine lv_iconst (v := 0) hx hb dX9_readIndex_123 (by decide) ?_
          exact ret_z hx hb hr hlk hP hS dX9_readIndex_124 (b := false) rfl (⟨by rw [← hR]; simp only [miL, (eq_true c1), c2, c4, ↓reduceIte, Bool.false_eq_true], by rw [← hR]; simp only [miL, (eq_true c1), c2, c4, ↓reduceIte, Bool.false_eq_true], by rw [← hR]; simp only [miL, (eq_true c1), c2, c4, ↓reduceIte, Bool.false_eq_true]⟩)
      · have dc2 := c2
        rw [i_le] at dc2
        refine lv_aload_n hx hb dX9_readIndex_98 rfl (lv_at hl 2 rfl) ?_
        refine lv_iconst (v := 2) hx hb dX9_readIndex_99 (by decide) ?_
        refine callv (y := yX9_bad) ⟨hx, hb, hml, hown, ht⟩ hK hN hP hS (k := 0) (c_X9_bad l D ca ad hI ρ υ (2 : Int32)) (by decide) (sm_obj _ _) rfl ok_X9_bad gw_1034 ⟨by decide, by decide⟩ rfl hl.1 rfl (Nat.le_of_ble_eq_true rfl) ⟨by decide, by decide⟩ dX9_readIndex_100 (fun v_ S_ T_ H locs hp5 hP hS => ?_)
        obtain ⟨rfl, rfl, rfl⟩ := hp5
        try dsimp only [Option.toList, List.cons_append, List.nil_append]
        exact ret_z hx hb hr hlk hP hS dX9_readIndex_103 (b := false) rfl (⟨by rw [← hR]; simp only [miL, (eq_true c1), c2, ↓reduceIte, Bool.false_eq_true], by rw [← hR]; simp only [miL, (eq_true c1), c2, ↓reduceIte, Bool.false_eq_true], by rw [← hR]; simp only [miL, (eq_true c1), c2, ↓reduceIte, Bool.false_eq_true]⟩)
set_option maxHeartbeats 4000000 in
set_option maxRecDepth 100000 in
theorem c_X9_readIndex (l : Launch) (D : va_G) (ca : Nat → ClassId) (ad : Nat → Nat) (hI : Inj 6 ad) (σ : MI) (τ : ML) {i : Nat} (h1 : σ 3 1 = nI i) (hi6 : i ≤ 6) (h0 : rg (σ 3 0) 0 35) (hT : TI σ) : CT l D (TY ca) 6 ad (mxf ca ad) yX9_readIndex cX9_readIndex 3 (some .boolean) 3 68 [.ref (ad 0)] σ τ (fun v_ S_ T_ => some (.int (b2i ((miP i σ τ).1))) = v_ ∧ ((miP i σ τ).2.1) = S_ ∧ ((miP i σ τ).2.2) = T_) := by
  refine CT.of (by decide) (Nat.le_of_ble_eq_true rfl) ?_
  intro p e s m args below meth c hx hb hr ht hown hlk hml hP hK hN hS ls hl
  have hl : lv_has ls 3 [(0, .ref (ad 0))] := hl
  refine lv_aload_n hx hb dX9_readIndex_0 rfl (lv_at hl 0 rfl) ?_
  refine fgetx hx hb ht inG9 hown hK hP (k := 0) (by decide) (x := (σ 0)) rfl (sm_obj _ _) rfl 13 (by decide) gw_952 (v := .ref (ad 3)) rfl dX9_readIndex_1 ?_
  refine lv_iconst (v := 1) hx hb dX9_readIndex_4 (by decide) ?_
  refine aldj hx hb hK hP (k := 3) (by decide) (x := (σ 3)) rfl 0 (sm_read _ _) rfl (by rw [vp_in_iff]; decide) (j := 1) rfl dX9_readIndex_5 ?_
  refine stk_i (v := (nI i)) h1 ?_
  refine lv_istore_n (lv' := [(1, .int (nI i)), (0, .ref (ad 0))]) hx hb dX9_readIndex_6 rfl hl (by decide) rfl (fun ls hl => ?_)
  refine lv_iload_n hx hb dX9_readIndex_7 rfl (lv_at hl 0 rfl) ?_
  refine lv_bipush (v := 6) hx hb dX9_readIndex_8 (by decide) ?_
  refine lv_icmp_ne (tgt := 19) hx hb dX9_readIndex_10 (by decide) (fun c1 => ?_) (fun c1 => ?_)
  · have dc1 := c1
    rw [i_eq] at dc1
    have hi5 : i < 6 := by rcases (by omega : i < 6 ∨ i = 6) with q | q; exact q; exact absurd (by rw [q]; rfl) c1
    have h16 : ¬ σ 3 1 = 6 := by rw [h1]; exact c1
    refine lv_aload_n hx hb dX9_readIndex_19 rfl (lv_at hl 1 rfl) ?_
    refine callv (y := yX9_go) ⟨hx, hb, hml, hown, ht⟩ hK hN hP hS (k := 0) (c_X9_go l D ca ad hI σ τ hT) (by decide) (sm_obj _ _) rfl ok_X9_go gw_996 ⟨by decide, by decide⟩ rfl hl.1 rfl (Nat.le_of_ble_eq_true rfl) ⟨by decide, by decide⟩ dX9_readIndex_20 (fun v_ S_ T_ H locs hp2 hP hS => ?_)
    obtain ⟨rfl, rfl, rfl⟩ := hp2
    try dsimp only [Option.toList, List.cons_append, List.nil_append]
    refine lv_aload_n hx hb dX9_readIndex_23 rfl (lv_at hl 1 rfl) ?_
    refine callv (y := yX9_isName) ⟨hx, hb, hml, hown, ht⟩ hK hN hP hS (k := 0) (c_X9_isName l D ca ad hI (goM σ) (goT σ τ) ) (by decide) (sm_obj _ _) rfl ok_X9_isName gw_1049 ⟨by decide, by decide⟩ rfl hl.1 rfl (Nat.le_of_ble_eq_true rfl) ⟨by decide, by decide⟩ dX9_readIndex_24 (fun v_ S_ T_ H locs hp3 hP hS => ?_)
    obtain ⟨rfl, rfl, rfl⟩ := hp3
    try dsimp only [Option.toList, List.cons_append, List.nil_append]
    refine br_ne (tgt := 36) hx hb dX9_readIndex_27 (by decide) (fun c4 => ?_) (fun c4 => ?_)
    · refine lv_aload_n hx hb dX9_readIndex_36 rfl (lv_at hl 1 rfl) ?_
      refine callv (y := yX9_named) ⟨hx, hb, hml, hown, ht⟩ hK hN hP hS (k := 0) (c_X9_named l D ca ad hI (goM σ) (goT σ τ) (by rw [goM_ne _ (by decide), h1]; unfold rg; rw [nI_toInt (by omega)]; omega)) (by decide) (sm_obj _ _) rfl ok_X9_named gw_1053 ⟨by decide, by decide⟩ rfl hl.1 rfl (Nat.le_of_ble_eq_true rfl) ⟨by decide, by decide⟩ dX9_readIndex_37 (fun v_ S_ T_ H locs hp5 hP hS => ?_)
      obtain ⟨rfl, rfl, rfl⟩ := hp5
      try dsimp only [Option.toList, List.cons_append, List.nil_append]
      refine lv_iconst (v := -1) hx hb dX9_readIndex_40 (by decide) ?_
      refine lv_icmp_eq (tgt := 50) hx hb dX9_readIndex_41 (by decide) (fun c6 => ?_) (fun c6 => ?_)
      · have dc6 := c6
        rw [i_eq] at dc6
        refine lv_aload_n hx hb dX9_readIndex_50 rfl (lv_at hl 1 rfl) ?_
        refine fgetx hx hb ht inG9 hown hK hP (k := 0) (by decide) (x := ((goM σ) 0)) rfl (sm_obj _ _) rfl 15 (by decide) gw_954 (v := .ref (ad 5)) rfl dX9_readIndex_51 ?_
        refine lv_iload_n hx hb dX9_readIndex_54 rfl (lv_at hl 0 rfl) ?_
        refine lv_aload_n hx hb dX9_readIndex_55 rfl (lv_at hl 1 rfl) ?_
        refine fgetx hx hb ht inG9 hown hK hP (k := 0) (by decide) (x := ((goM σ) 0)) rfl (sm_obj _ _) rfl 11 (by decide) gw_950 (v := .long ((goT σ τ) 0 11)) rfl dX9_readIndex_56 ?_
        refine lstj hx hb hK hP hI hS (k := 5) (by decide) 5 (fun f => sm_name _ f ) rfl (vp_in_nI (by omega) (by decide)) (j := i) (nI_clamp (by omega)) dX9_readIndex_59 (fun H locs hP hS => ?_)
        refine lv_aload_n hx hb dX9_readIndex_60 rfl (lv_at hl 1 rfl) ?_
        refine callv (y := yX9_go) ⟨hx, hb, hml, hown, ht⟩ hK hN hP hS (k := 0) (c_X9_go l D ca ad hI (goM σ) (s2L (goT σ τ) 5 i ((goT σ τ) 0 11)) (TI_go hT)) (by decide) (sm_obj _ _) rfl ok_X9_go gw_996 ⟨by decide, by decide⟩ rfl hl.1 rfl (Nat.le_of_ble_eq_true rfl) ⟨by decide, by decide⟩ dX9_readIndex_61 (fun v_ S_ T_ H locs hp7 hP hS => ?_)
        obtain ⟨rfl, rfl, rfl⟩ := hp7
        try dsimp only [Option.toList, List.cons_append, List.nil_append]
        refine lv_aload_n hx hb dX9_readIndex_64 rfl (lv_at hl 1 rfl) ?_
        refine fgetx hx hb ht inG9 hown hK hP (k := 0) (by decide) (x := ((goM (goM σ)) 0)) rfl (sm_obj _ _) rfl 6 (by decide) gw_945 (v := .int (((goM (goM σ)) 0) 6)) rfl dX9_readIndex_65 ?_
        refine lv_iconst (v := 3) hx hb dX9_readIndex_68 (by decide) ?_
        refine lv_icmp_eq (tgt := 78) hx hb dX9_readIndex_69 (by decide) (fun c8 => ?_) (fun c8 => ?_)
        · have dc8 := c8
          rw [i_eq] at dc8
          refine lv_iconst (v := 0) hx hb dX9_readIndex_78 (by decide) ?_
          refine lv_istore_n (lv' := [(2, .int 0), (1, .int (nI i)), (0, .ref (ad 0))]) hx hb dX9_readIndex_79 rfl hl (by decide) rfl (fun ls hl => ?_)
          exact lp_X9_rindex hI h1 hi6 h0 hT hx hb hr ht hown hlk hml hK hN 37 _ _ 36 0 (by omega) (by omega) (by rw [goM_ne _ (by decide), goM_ne _ (by decide)]; exact h0) hi5 (TI_go (TI_go hT)) (by rw [miP, if_neg h16, miQ, if_pos c4, if_pos c6, if_pos c8]; rfl) _ _ hP hS ls (lv_sub hl [0, 1, 2] rfl)
        · have dc8 := c8
          rw [i_eq] at dc8
          refine lv_aload_n hx hb dX9_readIndex_72 rfl (lv_at hl 1 rfl) ?_
          refine lv_iconst (v := 1) hx hb dX9_readIndex_73 (by decide) ?_
          refine callv (y := yX9_bad) ⟨hx, hb, hml, hown, ht⟩ hK hN hP hS (k := 0) (c_X9_bad l D ca ad hI (goM (goM σ)) (goT (goM σ) (s2L (goT σ τ) 5 i ((goT σ τ) 0 11))) (1 : Int32)) (by decide) (sm_obj _ _) rfl ok_X9_bad gw_1034 ⟨by decide, by decide⟩ rfl hl.1 rfl (Nat.le_of_ble_eq_true rfl) ⟨by decide, by decide⟩ dX9_readIndex_74 (fun v_ S_ T_ H locs hp9 hP hS => ?_)
          obtain ⟨rfl, rfl, rfl⟩ := hp9
          try dsimp only [Option.toList, List.cons_append, List.nil_append]
          exact ret_z hx hb hr hlk hP hS dX9_readIndex_77 (b := false) rfl (⟨by simp only [miP, miQ, miW, h16, c4, (eq_true c6), c8, ↓reduceIte, Bool.false_eq_true], by simp only [miP, miQ, miW, h16, c4, (eq_true c6), c8, ↓reduceIte, Bool.false_eq_true], by simp only [miP, miQ, miW, h16, c4, (eq_true c6), c8, ↓reduceIte, Bool.false_eq_true]⟩)
      · have dc6 := c6
        rw [i_eq] at dc6
        refine lv_aload_n hx hb dX9_readIndex_44 rfl (lv_at hl 1 rfl) ?_
        refine lv_iconst (v := 3) hx hb dX9_readIndex_45 (by decide) ?_
        refine callv (y := yX9_bad) ⟨hx, hb, hml, hown, ht⟩ hK hN hP hS (k := 0) (c_X9_bad l D ca ad hI (goM σ) (goT σ τ) (3 : Int32)) (by decide) (sm_obj _ _) rfl ok_X9_bad gw_1034 ⟨by decide, by decide⟩ rfl hl.1 rfl (Nat.le_of_ble_eq_true rfl) ⟨by decide, by decide⟩ dX9_readIndex_46 (fun v_ S_ T_ H locs hp10 hP hS => ?_)
        obtain ⟨rfl, rfl, rfl⟩ := hp10
        try dsimp only [Option.toList, List.cons_append, List.nil_append]
        exact ret_z hx hb hr hlk hP hS dX9_readIndex_49 (b := false) rfl (⟨by simp only [miP, miQ, miW, h16, c4, c6, ↓reduceIte, Bool.false_eq_true], by simp only [miP, miQ, miW, h16, c4, c6, ↓reduceIte, Bool.false_eq_true], by simp only [miP, miQ, miW, h16, c4, c6, ↓reduceIte, Bool.false_eq_true]⟩)
    · refine lv_aload_n hx hb dX9_readIndex_30 rfl (lv_at hl 1 rfl) ?_
      refine lv_iconst (v := 1) hx hb dX9_readIndex_31 (by decide) ?_
      refine callv (y := yX9_bad) ⟨hx, hb, hml, hown, ht⟩ hK hN hP hS (k := 0) (c_X9_bad l D ca ad hI (goM σ) (goT σ τ) (1 : Int32)) (by decide) (sm_obj _ _) rfl ok_X9_bad gw_1034 ⟨by decide, by decide⟩ rfl hl.1 rfl (Nat.le_of_ble_eq_true rfl) ⟨by decide, by decide⟩ dX9_readIndex_32 (fun v_ S_ T_ H locs hp11 hP hS => ?_)
      obtain ⟨rfl, rfl, rfl⟩ := hp11
      try dsimp only [Option.toList, List.cons_append, List.nil_append]
      exact ret_z hx hb hr hlk hP hS dX9_readIndex_35 (b := false) rfl (⟨by simp only [miP, miQ, miW, h16, c4, ↓reduceIte, Bool.false_eq_true], by simp only [miP, miQ, miW, h16, c4, ↓reduceIte, Bool.false_eq_true], by simp only [miP, miQ, miW, h16, c4, ↓reduceIte, Bool.false_eq_true]⟩)
  · have dc1 := c1
    rw [i_eq] at dc1
    have h16 : σ 3 1 = 6 := by rw [h1]; exact c1
    refine lv_aload_n hx hb dX9_readIndex_13 rfl (lv_at hl 1 rfl) ?_
    refine lv_iconst (v := 4) hx hb dX9_readIndex_14 (by decide) ?_
    refine callv (y := yX9_bad) ⟨hx, hb, hml, hown, ht⟩ hK hN hP hS (k := 0) (c_X9_bad l D ca ad hI σ τ (4 : Int32)) (by decide) (sm_obj _ _) rfl ok_X9_bad gw_1034 ⟨by decide, by decide⟩ rfl hl.1 rfl (Nat.le_of_ble_eq_true rfl) ⟨by decide, by decide⟩ dX9_readIndex_15 (fun v_ S_ T_ H locs hp12 hP hS => ?_)
    obtain ⟨rfl, rfl, rfl⟩ := hp12
    try dsimp only [Option.toList, List.cons_append, List.nil_append]
    exact ret_z hx hb hr hlk hP hS dX9_readIndex_18 (b := false) rfl (⟨by simp only [miP, miQ, miW, h16, ↓reduceIte, Bool.false_eq_true], by simp only [miP, miQ, miW, h16, ↓reduceIte, Bool.false_eq_true], by simp only [miP, miQ, miW, h16, ↓reduceIte, Bool.false_eq_true]⟩)
set_option maxHeartbeats 4000000 in
set_option maxRecDepth 100000 in
theorem lp_X9_terms2 {l : Launch} {D : va_G} {ca : Nat → ClassId} {ad : Nat → Nat} (hI : Inj 6 ad) {σ : MI} {τ : ML} {c_ : Nat} (hc6 : c_ < 6) (h1 : rg (σ 3 1) 0 6) (hk0 : σ 3 (495 + 19 * c_ + 6) = 0) (hT : TI σ) {p : Program} {e : Env} {s : State} {m : MethodId} {args : Array Value} {below : List Frame} {meth : Method} {c : Code} (hx : p.tables.exec = Jvm.exec) (hb : c.code = cX9_readTerms) (hr : meth.sig.returnType = (some .boolean)) (ht : ∀ w ∈ GG, w.before args s = true) (hown : s.vm.findClass yX9_readTerms.cls = some m.cls) (hlk : meth.locks = false) (hml : c.maxLocals = 8) (hK : va_K D vwCl (TY ca) s) (hN : NW s) : ∀ (n : Nat) (ρ : MI) (υ : ML) (x w t4 s_ : Int32) (k q : Nat) (hk : k ≤ 6) (hq : q ≤ k) (hn : k - q < n) (hall : ∀ j, j < q → mtX (ρ 3) c_ j ≠ x) (hbad : anyS (mtX (ρ 3) c_) x k = true → (false, mBad ρ 3, υ) = mtP c_ σ τ) (h167 : ∀ (hno : anyS (mtX (ρ 3) c_) x k = false) (H : Heap) (locs : List Loc) (hP : PW D 6 ad (mxf ca ad) ρ υ H) (hS : va_S (AA 6 ad) s.heap H locs) (ls : Array Slot) (hl : lv_has ls 8 [(6, .int x), (5, .int w), (4, .int t4), (3, .int (nI k)), (2, .int s_), (1, .int (nI (495 + 19 * c_))), (0, .ref (ad 0))]), W p l e { frames := 3, cells := 0, slots := 0, locals := 65 } s m args below meth c H locs 0 0 (MQ below (QD D 6 ad (mxf ca ad) (fun v_ S_ T_ => some (.int (b2i ((mtP c_ σ τ).1))) = v_ ∧ ((mtP c_ σ τ).2.1) = S_ ∧ ((mtP c_ σ τ).2.2) = T_)) args s 0 0 (AA 6 ad)) (F0 m 167 ls [])) (H : Heap) (locs : List Loc) (hP : PW D 6 ad (mxf ca ad) ρ υ H) (hS : va_S (AA 6 ad) s.heap H locs) (ls : Array Slot) (hl : lv_has ls 8 [(7, .int (nI q)), (6, .int x), (5, .int w), (4, .int t4), (3, .int (nI k)), (2, .int s_), (1, .int (nI (495 + 19 * c_))), (0, .ref (ad 0))]), W p l e { frames := 3, cells := 0, slots := 0, locals := 65 } s m args below meth c H locs 0 0 (MQ below (QD D 6 ad (mxf ca ad) (fun v_ S_ T_ => some (.int (b2i ((mtP c_ σ τ).1))) = v_ ∧ ((mtP c_ σ τ).2.1) = S_ ∧ ((mtP c_ σ τ).2.2) = T_)) args s 0 0 (AA 6 ad)) (F0 m 130 ls []) := by
  intro n
  induction n with
  | zero => intro ρ υ x w t4 s_ k q hk hq hn hall hbad h167 H locs hP hS ls hl; exfalso; omega
  | succ n ih =>
    intro ρ υ x w t4 s_ k q hk hq hn hall hbad h167 H locs hP hS ls hl
    have ek : (nI k).toInt = k := nI_toInt (by omega)
    have eq : (nI q).toInt = q := nI_toInt (by omega)
    refine lv_iload hx hb dX9_readTerms_130 (lv_at hl 0 rfl) ?_
    refine lv_iload_n hx hb dX9_readTerms_132 rfl (lv_at hl 4 rfl) ?_
    refine lv_icmp_ge (tgt := 167) hx hb dX9_readTerms_133 (by decide) (fun c1 => ?_) (fun c1 => ?_)
    · have dc1 := c1
      rw [i_le] at dc1
      exact h167 (anyS_f (fun j hj => hall j (by omega))) _ _ hP hS ls (lv_sub hl [1, 2, 3, 4, 5, 6, 7] rfl)
    · have dc1 := c1
      rw [i_le] at dc1
      refine lv_aload_n hx hb dX9_readTerms_136 rfl (lv_at hl 7 rfl) ?_
      refine fgetx hx hb ht inG9 hown hK hP (k := 0) (by decide) (x := (ρ 0)) rfl (sm_obj _ _) rfl 13 (by decide) gw_952 (v := .ref (ad 3)) rfl dX9_readTerms_137 ?_
      refine lv_iload_n hx hb dX9_readTerms_140 rfl (lv_at hl 6 rfl) ?_
      refine lv_bipush (v := 8) hx hb dX9_readTerms_141 (by decide) ?_
      refine lv_iadd hx hb dX9_readTerms_143 ?_
      refine lv_iconst (v := 2) hx hb dX9_readTerms_144 (by decide) ?_
      refine lv_iload hx hb dX9_readTerms_145 (lv_at hl 0 rfl) ?_
      refine lv_imul hx hb dX9_readTerms_147 ?_
      refine lv_iadd hx hb dX9_readTerms_148 ?_
      refine aldj hx hb hK hP (k := 3) (by decide) (x := (ρ 3)) rfl 0 (sm_read _ _) rfl (by rw [ixT (J := 8) 8 rfl]; exact vp_in_nI (by omega) (by decide)) (j := (495 + 19 * c_ + (8 + 2 * q))) (by rw [ixT (J := 8) 8 rfl]; exact nI_clamp (by omega)) dX9_readTerms_149 ?_
      refine lv_iload hx hb dX9_readTerms_150 (lv_at hl 1 rfl) ?_
      refine lv_icmp_ne (tgt := 161) hx hb dX9_readTerms_152 (by decide) (fun c2 => ?_) (fun c2 => ?_)
      · have dc2 := c2
        rw [i_eq] at dc2
        refine lv_iinc (v := (nI q) + 1) (lv' := [(7, .int ((nI q) + 1)), (6, .int x), (5, .int w), (4, .int t4), (3, .int (nI k)), (2, .int s_), (1, .int (nI (495 + 19 * c_))), (0, .ref (ad 0))]) hx hb dX9_readTerms_161 hl (k := 0) rfl rfl (by decide) rfl (fun ls hl => ?_)
        refine lv_goto (tgt := 130) hx hb dX9_readTerms_164 (by decide) ?_
        rw [nI_1] at hl
        exact ih ρ υ x w t4 s_ k (q + 1) hk (by omega) (by omega) (fun j hj => by rcases (by omega : j < q ∨ j = q) with z | z; exact hall j z; rw [z]; exact c2) hbad h167 _ _ hP hS ls (lv_sub hl [0, 1, 2, 3, 4, 5, 6, 7] rfl)
      · have dc2 := c2
        rw [i_eq] at dc2
        refine lv_aload_n hx hb dX9_readTerms_155 rfl (lv_at hl 7 rfl) ?_
        refine lv_iconst (v := 3) hx hb dX9_readTerms_156 (by decide) ?_
        refine callv (y := yX9_bad) ⟨hx, hb, hml, hown, ht⟩ hK hN hP hS (k := 0) (c_X9_bad l D ca ad hI ρ υ (3 : Int32)) (by decide) (sm_obj _ _) rfl ok_X9_bad gw_1034 ⟨by decide, by decide⟩ rfl hl.1 rfl (Nat.le_of_ble_eq_true rfl) ⟨by decide, by decide⟩ dX9_readTerms_157 (fun v_ S_ T_ H locs hp3 hP hS => ?_)
        obtain ⟨rfl, rfl, rfl⟩ := hp3
        try dsimp only [Option.toList, List.cons_append, List.nil_append]
        exact ret_z hx hb hr hlk hP hS dX9_readTerms_160 (b := false) rfl (⟨by rw [← (hbad (anyS_t (k := q) (by omega) c2))], by rw [← (hbad (anyS_t (k := q) (by omega) c2))], by rw [← (hbad (anyS_t (k := q) (by omega) c2))]⟩)
set_option maxHeartbeats 4000000 in
set_option maxRecDepth 100000 in
theorem lp_X9_terms {l : Launch} {D : va_G} {ca : Nat → ClassId} {ad : Nat → Nat} (hI : Inj 6 ad) {σ : MI} {τ : ML} {c_ : Nat} (hc6 : c_ < 6) (h1 : rg (σ 3 1) 0 6) (hk0 : σ 3 (495 + 19 * c_ + 6) = 0) (hT : TI σ) {p : Program} {e : Env} {s : State} {m : MethodId} {args : Array Value} {below : List Frame} {meth : Method} {c : Code} (hx : p.tables.exec = Jvm.exec) (hb : c.code = cX9_readTerms) (hr : meth.sig.returnType = (some .boolean)) (ht : ∀ w ∈ GG, w.before args s = true) (hown : s.vm.findClass yX9_readTerms.cls = some m.cls) (hlk : meth.locks = false) (hml : c.maxLocals = 8) (hK : va_K D vwCl (TY ca) s) (hN : NW s) : ∀ (n : Nat) (ρ : MI) (υ : ML) (r k : Nat) (s_ : Int32) (hk : k + r = 6) (hn : r < n) (h1 : rg (ρ 3 1) 0 6) (hk6 : ρ 3 (495 + 19 * c_ + 6) = nI k) (hX : XD (ρ 3) c_ k) (hT : TI ρ) (hR : mtL c_ (r + 1) k s_ ρ υ = mtP c_ σ τ) (H : Heap) (locs : List Loc) (hP : PW D 6 ad (mxf ca ad) ρ υ H) (hS : va_S (AA 6 ad) s.heap H locs) (ls : Array Slot) (hl : lv_has ls 8 [(2, .int s_), (1, .int (nI (495 + 19 * c_))), (0, .ref (ad 0))]), W p l e { frames := 3, cells := 0, slots := 0, locals := 65 } s m args below meth c H locs 0 0 (MQ below (QD D 6 ad (mxf ca ad) (fun v_ S_ T_ => some (.int (b2i ((mtP c_ σ τ).1))) = v_ ∧ ((mtP c_ σ τ).2.1) = S_ ∧ ((mtP c_ σ τ).2.2) = T_)) args s 0 0 (AA 6 ad)) (F0 m 9 ls []) := by
  intro n
  have h1_ := h1
  have hT_ := hT
  clear h1 hT
  induction n with
  | zero => intro ρ υ r k s_ hk hn h1 hk6 hX hT hR H locs hP hS ls hl; exfalso; omega
  | succ n ih =>
    intro ρ υ r k s_ hk hn h1 hk6 hX hT hR H locs hP hS ls hl
    have ek : (nI k).toInt = k := nI_toInt (by omega)
    have e6 : (6 : Int32).toInt = 6 := rfl
    refine lv_aload_n hx hb dX9_readTerms_9 rfl (lv_at hl 2 rfl) ?_
    refine lv_bipush (v := 43) hx hb dX9_readTerms_10 (by decide) ?_
    refine callv (y := yX9_isSign) ⟨hx, hb, hml, hown, ht⟩ hK hN hP hS (k := 0) (c_X9_isSign l D ca ad hI ρ υ (43 : Int32)) (by decide) (sm_obj _ _) rfl ok_X9_isSign gw_1061 ⟨by decide, by decide⟩ rfl hl.1 rfl (Nat.le_of_ble_eq_true rfl) ⟨by decide, by decide⟩ dX9_readTerms_12 (fun v_ S_ T_ H locs hp1 hP hS => ?_)
    obtain ⟨rfl, rfl, rfl⟩ := hp1
    try dsimp only [Option.toList, List.cons_append, List.nil_append]
    refine br_eq (tgt := 212) hx hb dX9_readTerms_15 (by decide) (fun c2 => ?_) (fun c2 => ?_)
    · refine lv_aload_n hx hb dX9_readTerms_212 rfl (lv_at hl 2 rfl) ?_
      refine lv_iconst (v := 3) hx hb dX9_readTerms_213 (by decide) ?_
      refine callv (y := yX9_is) ⟨hx, hb, hml, hown, ht⟩ hK hN hP hS (k := 0) (c_X9_is l D ca ad hI ρ υ (3 : Int32)) (by decide) (sm_obj _ _) rfl ok_X9_is gw_1016 ⟨by decide, by decide⟩ rfl hl.1 rfl (Nat.le_of_ble_eq_true rfl) ⟨by decide, by decide⟩ dX9_readTerms_214 (fun v_ S_ T_ H locs hp3 hP hS => ?_)
      obtain ⟨rfl, rfl, rfl⟩ := hp3
      try dsimp only [Option.toList, List.cons_append, List.nil_append]
      refine br_ne (tgt := 226) hx hb dX9_readTerms_217 (by decide) (fun c4 => ?_) (fun c4 => ?_)
      · refine lv_iload_n hx hb dX9_readTerms_226 rfl (lv_at hl 0 rfl) ?_
        refine lv_sipush (v := 1000) hx hb dX9_readTerms_227 (by decide) ?_
        refine lv_icmp_eq (tgt := 239) hx hb dX9_readTerms_230 (by decide) (fun c5 => ?_) (fun c5 => ?_)
        · have dc5 := c5
          rw [i_eq] at dc5
          refine lv_aload_n hx hb dX9_readTerms_239 rfl (lv_at hl 2 rfl) ?_
          refine callv (y := yX9_go) ⟨hx, hb, hml, hown, ht⟩ hK hN hP hS (k := 0) (c_X9_go l D ca ad hI ρ υ hT) (by decide) (sm_obj _ _) rfl ok_X9_go gw_996 ⟨by decide, by decide⟩ rfl hl.1 rfl (Nat.le_of_ble_eq_true rfl) ⟨by decide, by decide⟩ dX9_readTerms_240 (fun v_ S_ T_ H locs hp6 hP hS => ?_)
          obtain ⟨rfl, rfl, rfl⟩ := hp6
          try dsimp only [Option.toList, List.cons_append, List.nil_append]
          refine lv_iconst (v := 1) hx hb dX9_readTerms_243 (by decide) ?_
          exact ret_z hx hb hr hlk hP hS dX9_readTerms_244 (b := true) rfl (⟨by rw [← hR]; simp only [mtL, mtE, c2, c4, (eq_true c5), ↓reduceIte, Bool.false_eq_true], by rw [← hR]; simp only [mtL, mtE, c2, c4, (eq_true c5), ↓reduceIte, Bool.false_eq_true], by rw [← hR]; simp only [mtL, mtE, c2, c4, (eq_true c5), ↓reduceIte, Bool.false_eq_true]⟩)
        · have dc5 := c5
          rw [i_eq] at dc5
          refine lv_aload_n hx hb dX9_readTerms_233 rfl (lv_at hl 2 rfl) ?_
          refine lv_iconst (v := 5) hx hb dX9_readTerms_234 (by decide) ?_
          refine callv (y := yX9_bad) ⟨hx, hb, hml, hown, ht⟩ hK hN hP hS (k := 0) (c_X9_bad l D ca ad hI ρ υ (5 : Int32)) (by decide) (sm_obj _ _) rfl ok_X9_bad gw_1034 ⟨by decide, by decide⟩ rfl hl.1 rfl (Nat.le_of_ble_eq_true rfl) ⟨by decide, by decide⟩ dX9_readTerms_235 (fun v_ S_ T_ H locs hp7 hP hS => ?_)
          obtain ⟨rfl, rfl, rfl⟩ := hp7
          try dsimp only [Option.toList, List.cons_append, List.nil_append]
          exact ret_z hx hb hr hlk hP hS dX9_readTerms_238 (b := false) rfl (⟨by rw [← hR]; simp only [mtL, mtE, c2, c4, c5, ↓reduceIte, Bool.false_eq_true], by rw [← hR]; simp only [mtL, mtE, c2, c4, c5, ↓reduceIte, Bool.false_eq_true], by rw [← hR]; simp only [mtL, mtE, c2, c4, c5, ↓reduceIte, Bool.false_eq_true]⟩)
      · refine lv_aload_n hx hb dX9_readTerms_220 rfl (lv_at hl 2 rfl) ?_
        refine lv_iconst (v := 1) hx hb dX9_readTerms_221 (by decide) ?_
        refine callv (y := yX9_bad) ⟨hx, hb, hml, hown, ht⟩ hK hN hP hS (k := 0) (c_X9_bad l D ca ad hI ρ υ (1 : Int32)) (by decide) (sm_obj _ _) rfl ok_X9_bad gw_1034 ⟨by decide, by decide⟩ rfl hl.1 rfl (Nat.le_of_ble_eq_true rfl) ⟨by decide, by decide⟩ dX9_readTerms_222 (fun v_ S_ T_ H locs hp8 hP hS => ?_)
        obtain ⟨rfl, rfl, rfl⟩ := hp8
        try dsimp only [Option.toList, List.cons_append, List.nil_append]
        exact ret_z hx hb hr hlk hP hS dX9_readTerms_225 (b := false) rfl (⟨by rw [← hR]; simp only [mtL, mtE, c2, c4, ↓reduceIte, Bool.false_eq_true], by rw [← hR]; simp only [mtL, mtE, c2, c4, ↓reduceIte, Bool.false_eq_true], by rw [← hR]; simp only [mtL, mtE, c2, c4, ↓reduceIte, Bool.false_eq_true]⟩)
    · refine lv_aload_n hx hb dX9_readTerms_18 rfl (lv_at hl 2 rfl) ?_
      refine callv (y := yX9_go) ⟨hx, hb, hml, hown, ht⟩ hK hN hP hS (k := 0) (c_X9_go l D ca ad hI ρ υ hT) (by decide) (sm_obj _ _) rfl ok_X9_go gw_996 ⟨by decide, by decide⟩ rfl hl.1 rfl (Nat.le_of_ble_eq_true rfl) ⟨by decide, by decide⟩ dX9_readTerms_19 (fun v_ S_ T_ H locs hp9 hP hS => ?_)
      obtain ⟨rfl, rfl, rfl⟩ := hp9
      try dsimp only [Option.toList, List.cons_append, List.nil_append]
      refine lv_aload_n hx hb dX9_readTerms_22 rfl (lv_at hl 2 rfl) ?_
      refine fgetx hx hb ht inG9 hown hK hP (k := 0) (by decide) (x := ((goM ρ) 0)) rfl (sm_obj _ _) rfl 13 (by decide) gw_952 (v := .ref (ad 3)) rfl dX9_readTerms_23 ?_
      refine lv_iload_n hx hb dX9_readTerms_26 rfl (lv_at hl 1 rfl) ?_
      refine lv_bipush (v := 6) hx hb dX9_readTerms_27 (by decide) ?_
      refine lv_iadd hx hb dX9_readTerms_29 ?_
      refine aldj hx hb hK hP (k := 3) (by decide) (x := (ρ 3)) (goM_ne _ (by decide)) 0 (sm_read _ _) rfl (by rw [ixC (J := 6) 6 rfl]; exact vp_in_nI (by omega) (by decide)) (j := (495 + 19 * c_ + 6)) (by rw [ixC (J := 6) 6 rfl]; exact nI_clamp (by omega)) dX9_readTerms_30 ?_
      refine stk_i (v := (nI k)) hk6 ?_
      refine lv_istore_n (lv' := [(3, .int (nI k)), (2, .int s_), (1, .int (nI (495 + 19 * c_))), (0, .ref (ad 0))]) hx hb dX9_readTerms_31 rfl hl (by decide) rfl (fun ls hl => ?_)
      refine lv_iload_n hx hb dX9_readTerms_32 rfl (lv_at hl 0 rfl) ?_
      refine lv_bipush (v := 6) hx hb dX9_readTerms_33 (by decide) ?_
      refine lv_icmp_ge (tgt := 49) hx hb dX9_readTerms_35 (by decide) (fun c10 => ?_) (fun c10 => ?_)
      · have dc10 := c10
        rw [i_le] at dc10
        refine lv_iconst (v := -1) hx hb dX9_readTerms_49 (by decide) ?_
        refine lv_istore (lv' := [(4, .int (-1)), (3, .int (nI k)), (2, .int s_), (1, .int (nI (495 + 19 * c_))), (0, .ref (ad 0))]) hx hb dX9_readTerms_50 hl (by decide) rfl (fun ls hl => ?_)
        refine lv_aload_n hx hb dX9_readTerms_52 rfl (lv_at hl 4 rfl) ?_
        refine fgetx hx hb ht inG9 hown hK hP (k := 0) (by decide) (x := ((goM ρ) 0)) rfl (sm_obj _ _) rfl 6 (by decide) gw_945 (v := .int (((goM ρ) 0) 6)) rfl dX9_readTerms_53 ?_
        refine lv_iconst (v := 3) hx hb dX9_readTerms_56 (by decide) ?_
        refine lv_icmp_eq (tgt := 66) hx hb dX9_readTerms_57 (by decide) (fun c11 => ?_) (fun c11 => ?_)
        · have dc11 := c11
          rw [i_eq] at dc11
          refine lv_aload_n hx hb dX9_readTerms_66 rfl (lv_at hl 4 rfl) ?_
          refine fgetx hx hb ht inG9 hown hK hP (k := 0) (by decide) (x := ((goM ρ) 0)) rfl (sm_obj _ _) rfl 7 (by decide) gw_946 (v := .int (((goM ρ) 0) 7)) rfl dX9_readTerms_67 ?_
          refine lv_iconst (v := 0) hx hb dX9_readTerms_70 (by decide) ?_
          refine lv_sipush (v := 1000) hx hb dX9_readTerms_71 (by decide) ?_
          refine calls (y := yX9_isIn) ⟨hx, hb, hml, hown, ht⟩ hK hN hP hS (c_X9_isIn l D ca ad hI (goM ρ) (goT ρ υ) (((goM ρ) 0) 7) (0 : Int32) (1000 : Int32)) ok_X9_isIn gw_1042 ⟨by decide, by decide⟩ rfl hl.1 rfl (Nat.le_of_ble_eq_true rfl) ⟨by decide, by decide⟩ dX9_readTerms_74 (fun v_ S_ T_ H locs hp12 hP hS => ?_)
          obtain ⟨rfl, rfl, rfl⟩ := hp12
          try dsimp only [Option.toList, List.cons_append, List.nil_append]
          refine br_ne (tgt := 86) hx hb dX9_readTerms_77 (by decide) (fun c13 => ?_) (fun c13 => ?_)
          · refine lv_aload_n hx hb dX9_readTerms_86 rfl (lv_at hl 4 rfl) ?_
            refine fgetx hx hb ht inG9 hown hK hP (k := 0) (by decide) (x := ((goM ρ) 0)) rfl (sm_obj _ _) rfl 7 (by decide) gw_946 (v := .int (((goM ρ) 0) 7)) rfl dX9_readTerms_87 ?_
            refine lv_istore (lv' := [(5, .int (((goM ρ) 0) 7)), (4, .int (-1)), (3, .int (nI k)), (2, .int s_), (1, .int (nI (495 + 19 * c_))), (0, .ref (ad 0))]) hx hb dX9_readTerms_90 hl (by decide) rfl (fun ls hl => ?_)
            refine lv_aload_n hx hb dX9_readTerms_92 rfl (lv_at hl 5 rfl) ?_
            refine callv (y := yX9_go) ⟨hx, hb, hml, hown, ht⟩ hK hN hP hS (k := 0) (c_X9_go l D ca ad hI (goM ρ) (goT ρ υ) (TI_go hT)) (by decide) (sm_obj _ _) rfl ok_X9_go gw_996 ⟨by decide, by decide⟩ rfl hl.1 rfl (Nat.le_of_ble_eq_true rfl) ⟨by decide, by decide⟩ dX9_readTerms_93 (fun v_ S_ T_ H locs hp14 hP hS => ?_)
            obtain ⟨rfl, rfl, rfl⟩ := hp14
            try dsimp only [Option.toList, List.cons_append, List.nil_append]
            refine lv_aload_n hx hb dX9_readTerms_96 rfl (lv_at hl 5 rfl) ?_
            refine callv (y := yX9_isName) ⟨hx, hb, hml, hown, ht⟩ hK hN hP hS (k := 0) (c_X9_isName l D ca ad hI (goM (goM ρ)) (goT (goM ρ) (goT ρ υ)) ) (by decide) (sm_obj _ _) rfl ok_X9_isName gw_1049 ⟨by decide, by decide⟩ rfl hl.1 rfl (Nat.le_of_ble_eq_true rfl) ⟨by decide, by decide⟩ dX9_readTerms_97 (fun v_ S_ T_ H locs hp15 hP hS => ?_)
            obtain ⟨rfl, rfl, rfl⟩ := hp15
            try dsimp only [Option.toList, List.cons_append, List.nil_append]
            refine br_ne (tgt := 109) hx hb dX9_readTerms_100 (by decide) (fun c16 => ?_) (fun c16 => ?_)
            · refine lv_aload_n hx hb dX9_readTerms_109 rfl (lv_at hl 5 rfl) ?_
              refine callv (y := yX9_named) ⟨hx, hb, hml, hown, ht⟩ hK hN hP hS (k := 0) (c_X9_named l D ca ad hI (goM (goM ρ)) (goT (goM ρ) (goT ρ υ)) (by rw [goM_ne _ (by decide), goM_ne _ (by decide)]; exact h1)) (by decide) (sm_obj _ _) rfl ok_X9_named gw_1053 ⟨by decide, by decide⟩ rfl hl.1 rfl (Nat.le_of_ble_eq_true rfl) ⟨by decide, by decide⟩ dX9_readTerms_110 (fun v_ S_ T_ H locs hp17 hP hS => ?_)
              obtain ⟨rfl, rfl, rfl⟩ := hp17
              try dsimp only [Option.toList, List.cons_append, List.nil_append]
              refine lv_istore (lv' := [(6, .int (nmd (goM (goM ρ)) (goT (goM ρ) (goT ρ υ)))), (5, .int (((goM ρ) 0) 7)), (4, .int (-1)), (3, .int (nI k)), (2, .int s_), (1, .int (nI (495 + 19 * c_))), (0, .ref (ad 0))]) hx hb dX9_readTerms_113 hl (by decide) rfl (fun ls hl => ?_)
              refine lv_iload hx hb dX9_readTerms_115 (lv_at hl 0 rfl) ?_
              refine lv_iconst (v := -1) hx hb dX9_readTerms_117 (by decide) ?_
              refine lv_icmp_ne (tgt := 127) hx hb dX9_readTerms_118 (by decide) (fun c18 => ?_) (fun c18 => ?_)
              · have dc18 := c18
                rw [i_eq] at dc18
                refine lv_iconst (v := 0) hx hb dX9_readTerms_127 (by decide) ?_
                refine lv_istore (lv' := [(7, .int 0), (6, .int (nmd (goM (goM ρ)) (goT (goM ρ) (goT ρ υ)))), (5, .int (((goM ρ) 0) 7)), (4, .int (-1)), (3, .int (nI k)), (2, .int s_), (1, .int (nI (495 + 19 * c_))), (0, .ref (ad 0))]) hx hb dX9_readTerms_128 hl (by decide) rfl (fun ls hl => ?_)
                have hxr := nmd_rng (σ := (goM (goM ρ))) (τ := (goT (goM ρ) (goT ρ υ))) (by rw [goM_ne _ (by decide), goM_ne _ (by decide)]; exact h1) c18
                have e33 : (goM (goM ρ)) 3 = ρ 3 := by rw [goM_ne _ (by decide), goM_ne _ (by decide)]
                rw [e33] at hxr
                have h167 : ∀ (hno : anyS (mtX ((goM (goM ρ)) 3) c_) (nmd (goM (goM ρ)) (goT (goM ρ) (goT ρ υ))) k = false) (H : Heap) (locs : List Loc) (hP : PW D 6 ad (mxf ca ad) (goM (goM ρ)) (goT (goM ρ) (goT ρ υ)) H) (hS : va_S (AA 6 ad) s.heap H locs) (ls : Array Slot) (hl : lv_has ls 8 [(6, .int (nmd (goM (goM ρ)) (goT (goM ρ) (goT ρ υ)))), (5, .int (((goM ρ) 0) 7)), (4, .int (-1)), (3, .int (nI k)), (2, .int s_), (1, .int (nI (495 + 19 * c_))), (0, .ref (ad 0))]), W p l e { frames := 3, cells := 0, slots := 0, locals := 65 } s m args below meth c H locs 0 0 (MQ below (QD D 6 ad (mxf ca ad) (fun v_ S_ T_ => some (.int (b2i ((mtP c_ σ τ).1))) = v_ ∧ ((mtP c_ σ τ).2.1) = S_ ∧ ((mtP c_ σ τ).2.2) = T_)) args s 0 0 (AA 6 ad)) (F0 m 167 ls []) := by
                  intro hno H locs hP hS ls hl
                  rw [e33] at hno
                  obtain rfl : k = 6 := by omega
                  exact absurd (XD_six hX h1 hxr) (by rw [hno]; decide)
                exact lp_X9_terms2 hI hc6 h1_ hk0 hT_ hx hb hr ht hown hlk hml hK hN (k + 1) (goM (goM ρ)) (goT (goM ρ) (goT ρ υ)) (nmd (goM (goM ρ)) (goT (goM ρ) (goT ρ υ))) (((goM ρ) 0) 7) ((-1)) s_ k 0 (by omega) (by omega) (by omega) (fun j hj => by omega) (fun hy => by rw [← hR]; rw [e33] at hy; simp only [mtL, c2, (eq_true c11), c13, c16, c18, hy, ↓reduceIte]) h167 _ _ hP hS ls (lv_sub hl [0, 1, 2, 3, 4, 5, 6, 7] rfl)
              · have dc18 := c18
                rw [i_eq] at dc18
                refine lv_aload_n hx hb dX9_readTerms_121 rfl (lv_at hl 6 rfl) ?_
                refine lv_iconst (v := 3) hx hb dX9_readTerms_122 (by decide) ?_
                refine callv (y := yX9_bad) ⟨hx, hb, hml, hown, ht⟩ hK hN hP hS (k := 0) (c_X9_bad l D ca ad hI (goM (goM ρ)) (goT (goM ρ) (goT ρ υ)) (3 : Int32)) (by decide) (sm_obj _ _) rfl ok_X9_bad gw_1034 ⟨by decide, by decide⟩ rfl hl.1 rfl (Nat.le_of_ble_eq_true rfl) ⟨by decide, by decide⟩ dX9_readTerms_123 (fun v_ S_ T_ H locs hp19 hP hS => ?_)
                obtain ⟨rfl, rfl, rfl⟩ := hp19
                try dsimp only [Option.toList, List.cons_append, List.nil_append]
                exact ret_z hx hb hr hlk hP hS dX9_readTerms_126 (b := false) rfl (⟨by rw [← hR]; simp only [mtL, mtE, c2, (eq_true c11), c13, c16, (eq_true c18), ↓reduceIte, Bool.false_eq_true], by rw [← hR]; simp only [mtL, mtE, c2, (eq_true c11), c13, c16, (eq_true c18), ↓reduceIte, Bool.false_eq_true], by rw [← hR]; simp only [mtL, mtE, c2, (eq_true c11), c13, c16, (eq_true c18), ↓reduceIte, Bool.false_eq_true]⟩)
            · refine lv_aload_n hx hb dX9_readTerms_103 rfl (lv_at hl 5 rfl) ?_
              refine lv_iconst (v := 1) hx hb dX9_readTerms_104 (by decide) ?_
              refine callv (y := yX9_bad) ⟨hx, hb, hml, hown, ht⟩ hK hN hP hS (k := 0) (c_X9_bad l D ca ad hI (goM (goM ρ)) (goT (goM ρ) (goT ρ υ)) (1 : Int32)) (by decide) (sm_obj _ _) rfl ok_X9_bad gw_1034 ⟨by decide, by decide⟩ rfl hl.1 rfl (Nat.le_of_ble_eq_true rfl) ⟨by decide, by decide⟩ dX9_readTerms_105 (fun v_ S_ T_ H locs hp20 hP hS => ?_)
              obtain ⟨rfl, rfl, rfl⟩ := hp20
              try dsimp only [Option.toList, List.cons_append, List.nil_append]
              exact ret_z hx hb hr hlk hP hS dX9_readTerms_108 (b := false) rfl (⟨by rw [← hR]; simp only [mtL, mtE, c2, (eq_true c11), c13, c16, ↓reduceIte, Bool.false_eq_true], by rw [← hR]; simp only [mtL, mtE, c2, (eq_true c11), c13, c16, ↓reduceIte, Bool.false_eq_true], by rw [← hR]; simp only [mtL, mtE, c2, (eq_true c11), c13, c16, ↓reduceIte, Bool.false_eq_true]⟩)
          · refine lv_aload_n hx hb dX9_readTerms_80 rfl (lv_at hl 4 rfl) ?_
            refine lv_iconst (v := 2) hx hb dX9_readTerms_81 (by decide) ?_
            refine callv (y := yX9_bad) ⟨hx, hb, hml, hown, ht⟩ hK hN hP hS (k := 0) (c_X9_bad l D ca ad hI (goM ρ) (goT ρ υ) (2 : Int32)) (by decide) (sm_obj _ _) rfl ok_X9_bad gw_1034 ⟨by decide, by decide⟩ rfl hl.1 rfl (Nat.le_of_ble_eq_true rfl) ⟨by decide, by decide⟩ dX9_readTerms_82 (fun v_ S_ T_ H locs hp21 hP hS => ?_)
            obtain ⟨rfl, rfl, rfl⟩ := hp21
            try dsimp only [Option.toList, List.cons_append, List.nil_append]
            exact ret_z hx hb hr hlk hP hS dX9_readTerms_85 (b := false) rfl (⟨by rw [← hR]; simp only [mtL, mtE, c2, (eq_true c11), c13, ↓reduceIte, Bool.false_eq_true], by rw [← hR]; simp only [mtL, mtE, c2, (eq_true c11), c13, ↓reduceIte, Bool.false_eq_true], by rw [← hR]; simp only [mtL, mtE, c2, (eq_true c11), c13, ↓reduceIte, Bool.false_eq_true]⟩)
        · have dc11 := c11
          rw [i_eq] at dc11
          refine lv_aload_n hx hb dX9_readTerms_60 rfl (lv_at hl 4 rfl) ?_
          refine lv_iconst (v := 1) hx hb dX9_readTerms_61 (by decide) ?_
          refine callv (y := yX9_bad) ⟨hx, hb, hml, hown, ht⟩ hK hN hP hS (k := 0) (c_X9_bad l D ca ad hI (goM ρ) (goT ρ υ) (1 : Int32)) (by decide) (sm_obj _ _) rfl ok_X9_bad gw_1034 ⟨by decide, by decide⟩ rfl hl.1 rfl (Nat.le_of_ble_eq_true rfl) ⟨by decide, by decide⟩ dX9_readTerms_62 (fun v_ S_ T_ H locs hp22 hP hS => ?_)
          obtain ⟨rfl, rfl, rfl⟩ := hp22
          try dsimp only [Option.toList, List.cons_append, List.nil_append]
          exact ret_z hx hb hr hlk hP hS dX9_readTerms_65 (b := false) rfl (⟨by rw [← hR]; simp only [mtL, mtE, c2, c11, ↓reduceIte, Bool.false_eq_true], by rw [← hR]; simp only [mtL, mtE, c2, c11, ↓reduceIte, Bool.false_eq_true], by rw [← hR]; simp only [mtL, mtE, c2, c11, ↓reduceIte, Bool.false_eq_true]⟩)
      · have dc10 := c10
        rw [i_le] at dc10
        have hk5 : k < 6 := by omega
        refine lv_iload_n hx hb dX9_readTerms_38 rfl (lv_at hl 2 rfl) ?_
        refine lv_bipush (v := 7) hx hb dX9_readTerms_39 (by decide) ?_
        refine lv_iadd hx hb dX9_readTerms_41 ?_
        refine lv_iconst (v := 2) hx hb dX9_readTerms_42 (by decide) ?_
        refine lv_iload_n hx hb dX9_readTerms_43 rfl (lv_at hl 0 rfl) ?_
        refine lv_imul hx hb dX9_readTerms_44 ?_
        refine lv_iadd hx hb dX9_readTerms_45 ?_
        refine lv_goto (tgt := 50) hx hb dX9_readTerms_46 (by decide) ?_
        refine lv_istore (lv' := [(4, .int (((nI (495 + 19 * c_)) + 7) + (2 * (nI k)))), (3, .int (nI k)), (2, .int s_), (1, .int (nI (495 + 19 * c_))), (0, .ref (ad 0))]) hx hb dX9_readTerms_50 hl (by decide) rfl (fun ls hl => ?_)
        refine lv_aload_n hx hb dX9_readTerms_52 rfl (lv_at hl 4 rfl) ?_
        refine fgetx hx hb ht inG9 hown hK hP (k := 0) (by decide) (x := ((goM ρ) 0)) rfl (sm_obj _ _) rfl 6 (by decide) gw_945 (v := .int (((goM ρ) 0) 6)) rfl dX9_readTerms_53 ?_
        refine lv_iconst (v := 3) hx hb dX9_readTerms_56 (by decide) ?_
        refine lv_icmp_eq (tgt := 66) hx hb dX9_readTerms_57 (by decide) (fun c23 => ?_) (fun c23 => ?_)
        · have dc23 := c23
          rw [i_eq] at dc23
          refine lv_aload_n hx hb dX9_readTerms_66 rfl (lv_at hl 4 rfl) ?_
          refine fgetx hx hb ht inG9 hown hK hP (k := 0) (by decide) (x := ((goM ρ) 0)) rfl (sm_obj _ _) rfl 7 (by decide) gw_946 (v := .int (((goM ρ) 0) 7)) rfl dX9_readTerms_67 ?_
          refine lv_iconst (v := 0) hx hb dX9_readTerms_70 (by decide) ?_
          refine lv_sipush (v := 1000) hx hb dX9_readTerms_71 (by decide) ?_
          refine calls (y := yX9_isIn) ⟨hx, hb, hml, hown, ht⟩ hK hN hP hS (c_X9_isIn l D ca ad hI (goM ρ) (goT ρ υ) (((goM ρ) 0) 7) (0 : Int32) (1000 : Int32)) ok_X9_isIn gw_1042 ⟨by decide, by decide⟩ rfl hl.1 rfl (Nat.le_of_ble_eq_true rfl) ⟨by decide, by decide⟩ dX9_readTerms_74 (fun v_ S_ T_ H locs hp24 hP hS => ?_)
          obtain ⟨rfl, rfl, rfl⟩ := hp24
          try dsimp only [Option.toList, List.cons_append, List.nil_append]
          refine br_ne (tgt := 86) hx hb dX9_readTerms_77 (by decide) (fun c25 => ?_) (fun c25 => ?_)
          · refine lv_aload_n hx hb dX9_readTerms_86 rfl (lv_at hl 4 rfl) ?_
            refine fgetx hx hb ht inG9 hown hK hP (k := 0) (by decide) (x := ((goM ρ) 0)) rfl (sm_obj _ _) rfl 7 (by decide) gw_946 (v := .int (((goM ρ) 0) 7)) rfl dX9_readTerms_87 ?_
            refine lv_istore (lv' := [(5, .int (((goM ρ) 0) 7)), (4, .int (((nI (495 + 19 * c_)) + 7) + (2 * (nI k)))), (3, .int (nI k)), (2, .int s_), (1, .int (nI (495 + 19 * c_))), (0, .ref (ad 0))]) hx hb dX9_readTerms_90 hl (by decide) rfl (fun ls hl => ?_)
            refine lv_aload_n hx hb dX9_readTerms_92 rfl (lv_at hl 5 rfl) ?_
            refine callv (y := yX9_go) ⟨hx, hb, hml, hown, ht⟩ hK hN hP hS (k := 0) (c_X9_go l D ca ad hI (goM ρ) (goT ρ υ) (TI_go hT)) (by decide) (sm_obj _ _) rfl ok_X9_go gw_996 ⟨by decide, by decide⟩ rfl hl.1 rfl (Nat.le_of_ble_eq_true rfl) ⟨by decide, by decide⟩ dX9_readTerms_93 (fun v_ S_ T_ H locs hp26 hP hS => ?_)
            obtain ⟨rfl, rfl, rfl⟩ := hp26
            try dsimp only [Option.toList, List.cons_append, List.nil_append]
            refine lv_aload_n hx hb dX9_readTerms_96 rfl (lv_at hl 5 rfl) ?_
            refine callv (y := yX9_isName) ⟨hx, hb, hml, hown, ht⟩ hK hN hP hS (k := 0) (c_X9_isName l D ca ad hI (goM (goM ρ)) (goT (goM ρ) (goT ρ υ)) ) (by decide) (sm_obj _ _) rfl ok_X9_isName gw_1049 ⟨by decide, by decide⟩ rfl hl.1 rfl (Nat.le_of_ble_eq_true rfl) ⟨by decide, by decide⟩ dX9_readTerms_97 (fun v_ S_ T_ H locs hp27 hP hS => ?_)
            obtain ⟨rfl, rfl, rfl⟩ := hp27
            try dsimp only [Option.toList, List.cons_append, List.nil_append]
            refine br_ne (tgt := 109) hx hb dX9_readTerms_100 (by decide) (fun c28 => ?_) (fun c28 => ?_)
            · refine lv_aload_n hx hb dX9_readTerms_109 rfl (lv_at hl 5 rfl) ?_
              refine callv (y := yX9_named) ⟨hx, hb, hml, hown, ht⟩ hK hN hP hS (k := 0) (c_X9_named l D ca ad hI (goM (goM ρ)) (goT (goM ρ) (goT ρ υ)) (by rw [goM_ne _ (by decide), goM_ne _ (by decide)]; exact h1)) (by decide) (sm_obj _ _) rfl ok_X9_named gw_1053 ⟨by decide, by decide⟩ rfl hl.1 rfl (Nat.le_of_ble_eq_true rfl) ⟨by decide, by decide⟩ dX9_readTerms_110 (fun v_ S_ T_ H locs hp29 hP hS => ?_)
              obtain ⟨rfl, rfl, rfl⟩ := hp29
              try dsimp only [Option.toList, List.cons_append, List.nil_append]
              refine lv_istore (lv' := [(6, .int (nmd (goM (goM ρ)) (goT (goM ρ) (goT ρ υ)))), (5, .int (((goM ρ) 0) 7)), (4, .int (((nI (495 + 19 * c_)) + 7) + (2 * (nI k)))), (3, .int (nI k)), (2, .int s_), (1, .int (nI (495 + 19 * c_))), (0, .ref (ad 0))]) hx hb dX9_readTerms_113 hl (by decide) rfl (fun ls hl => ?_)
              refine lv_iload hx hb dX9_readTerms_115 (lv_at hl 0 rfl) ?_
              refine lv_iconst (v := -1) hx hb dX9_readTerms_117 (by decide) ?_
              refine lv_icmp_ne (tgt := 127) hx hb dX9_readTerms_118 (by decide) (fun c30 => ?_) (fun c30 => ?_)
              · have dc30 := c30
                rw [i_eq] at dc30
                refine lv_iconst (v := 0) hx hb dX9_readTerms_127 (by decide) ?_
                refine lv_istore (lv' := [(7, .int 0), (6, .int (nmd (goM (goM ρ)) (goT (goM ρ) (goT ρ υ)))), (5, .int (((goM ρ) 0) 7)), (4, .int (((nI (495 + 19 * c_)) + 7) + (2 * (nI k)))), (3, .int (nI k)), (2, .int s_), (1, .int (nI (495 + 19 * c_))), (0, .ref (ad 0))]) hx hb dX9_readTerms_128 hl (by decide) rfl (fun ls hl => ?_)
                have hxr := nmd_rng (σ := (goM (goM ρ))) (τ := (goT (goM ρ) (goT ρ υ))) (by rw [goM_ne _ (by decide), goM_ne _ (by decide)]; exact h1) c30
                have e33 : (goM (goM ρ)) 3 = ρ 3 := by rw [goM_ne _ (by decide), goM_ne _ (by decide)]
                rw [e33] at hxr
                have h167 : ∀ (hno : anyS (mtX ((goM (goM ρ)) 3) c_) (nmd (goM (goM ρ)) (goT (goM ρ) (goT ρ υ))) k = false) (H : Heap) (locs : List Loc) (hP : PW D 6 ad (mxf ca ad) (goM (goM ρ)) (goT (goM ρ) (goT ρ υ)) H) (hS : va_S (AA 6 ad) s.heap H locs) (ls : Array Slot) (hl : lv_has ls 8 [(6, .int (nmd (goM (goM ρ)) (goT (goM ρ) (goT ρ υ)))), (5, .int (((goM ρ) 0) 7)), (4, .int (((nI (495 + 19 * c_)) + 7) + (2 * (nI k)))), (3, .int (nI k)), (2, .int s_), (1, .int (nI (495 + 19 * c_))), (0, .ref (ad 0))]), W p l e { frames := 3, cells := 0, slots := 0, locals := 65 } s m args below meth c H locs 0 0 (MQ below (QD D 6 ad (mxf ca ad) (fun v_ S_ T_ => some (.int (b2i ((mtP c_ σ τ).1))) = v_ ∧ ((mtP c_ σ τ).2.1) = S_ ∧ ((mtP c_ σ τ).2.2) = T_)) args s 0 0 (AA 6 ad)) (F0 m 167 ls []) := by
                  intro hno H locs hP hS ls hl
                  rw [e33] at hno
                  refine lv_aload_n hx hb dX9_readTerms_167 rfl (lv_at hl 6 rfl) ?_
                  refine fgetx hx hb ht inG9 hown hK hP (k := 0) (by decide) (x := ((goM (goM ρ)) 0)) rfl (sm_obj _ _) rfl 13 (by decide) gw_952 (v := .ref (ad 3)) rfl dX9_readTerms_168 ?_
                  refine lv_iload hx hb dX9_readTerms_171 (lv_at hl 2 rfl) ?_
                  refine lv_iload hx hb dX9_readTerms_173 (lv_at hl 1 rfl) ?_
                  refine astj hx hb hK hP hI hS (k := 3) (by decide) 0 (fun f => sm_read f _ ) rfl (by rw [ixT (J := 7) 7 rfl]; exact vp_in_nI (by omega) (by decide)) (j := (495 + 19 * c_ + (7 + 2 * k))) (by rw [ixT (J := 7) 7 rfl]; exact nI_clamp (by omega)) dX9_readTerms_175 (fun H locs hP hS => ?_)
                  refine lv_aload_n hx hb dX9_readTerms_176 rfl (lv_at hl 6 rfl) ?_
                  refine fgetx hx hb ht inG9 hown hK hP (k := 0) (by decide) (x := ((goM (goM ρ)) 0)) (s2_nk _ _ _ (by omega)) (sm_obj _ _) rfl 13 (by decide) gw_952 (v := .ref (ad 3)) rfl dX9_readTerms_177 ?_
                  refine lv_iload hx hb dX9_readTerms_180 (lv_at hl 2 rfl) ?_
                  refine lv_iconst (v := 1) hx hb dX9_readTerms_182 (by decide) ?_
                  refine lv_iadd hx hb dX9_readTerms_183 ?_
                  refine lv_iload hx hb dX9_readTerms_184 (lv_at hl 0 rfl) ?_
                  refine astj hx hb hK hP hI hS (k := 3) (by decide) 0 (fun f => sm_read f _ ) rfl (by rw [ixT1]; exact vp_in_nI (by omega) (by decide)) (j := (495 + 19 * c_ + (8 + 2 * k))) (by rw [ixT1]; exact nI_clamp (by omega)) dX9_readTerms_186 (fun H locs hP hS => ?_)
                  refine lv_aload_n hx hb dX9_readTerms_187 rfl (lv_at hl 6 rfl) ?_
                  refine fgetx hx hb ht inG9 hown hK hP (k := 0) (by decide) (x := ((goM (goM ρ)) 0)) ((s2_nk _ _ _ (by omega)).trans (s2_nk _ _ _ (by omega))) (sm_obj _ _) rfl 13 (by decide) gw_952 (v := .ref (ad 3)) rfl dX9_readTerms_188 ?_
                  refine lv_iload_n hx hb dX9_readTerms_191 rfl (lv_at hl 5 rfl) ?_
                  refine lv_bipush (v := 6) hx hb dX9_readTerms_192 (by decide) ?_
                  refine lv_iadd hx hb dX9_readTerms_194 ?_
                  refine lv_dup2_11 hx hb dX9_readTerms_195 rfl rfl ?_
                  refine aldj hx hb hK hP (k := 3) (by decide) (x := (upd (upd (ρ 3) (495 + 19 * c_ + (7 + 2 * k)) (((goM ρ) 0) 7)) (495 + 19 * c_ + (8 + 2 * k)) (nmd (goM (goM ρ)) (goT (goM ρ) (goT ρ υ))))) ((s2_k _ _ _ _).trans (congrArg (fun f => upd f (495 + 19 * c_ + (8 + 2 * k)) (nmd (goM (goM ρ)) (goT (goM ρ) (goT ρ υ)))) ((s2_k _ _ _ _).trans (congrArg (fun f => upd f (495 + 19 * c_ + (7 + 2 * k)) (((goM ρ) 0) 7)) ((goM_ne _ (by decide)).trans (goM_ne _ (by decide))))))) 0 (sm_read _ _) rfl (by rw [ixC (J := 6) 6 rfl]; exact vp_in_nI (by omega) (by decide)) (j := (495 + 19 * c_ + 6)) (by rw [ixC (J := 6) 6 rfl]; exact nI_clamp (by omega)) dX9_readTerms_196 ?_
                  refine stk_i (v := (nI k)) (by simp only [upd]; rw [if_neg (by omega), if_neg (by omega)]; exact hk6) ?_
                  refine lv_iconst (v := 1) hx hb dX9_readTerms_197 (by decide) ?_
                  refine lv_iadd hx hb dX9_readTerms_198 ?_
                  refine astj hx hb hK hP hI hS (k := 3) (by decide) 0 (fun f => sm_read f _ ) rfl (by rw [ixC (J := 6) 6 rfl]; exact vp_in_nI (by omega) (by decide)) (j := (495 + 19 * c_ + 6)) (by rw [ixC (J := 6) 6 rfl]; exact nI_clamp (by omega)) dX9_readTerms_199 (fun H locs hP hS => ?_)
                  rw [nI_1] at hP
                  have hP : PW D 6 ad (mxf ca ad) (mtS c_ k (goM (goM ρ)) (((goM ρ) 0) 7) (nmd (goM (goM ρ)) (goT (goM ρ) (goT ρ υ)))) (goT (goM ρ) (goT ρ υ)) H := hP
                  refine lv_iload_n hx hb dX9_readTerms_200 rfl (lv_at hl 4 rfl) ?_
                  refine lv_iload hx hb dX9_readTerms_201 (lv_at hl 1 rfl) ?_
                  refine lv_iadd hx hb dX9_readTerms_203 ?_
                  refine lv_istore_n (lv' := [(2, .int (s_ + (((goM ρ) 0) 7))), (6, .int (nmd (goM (goM ρ)) (goT (goM ρ) (goT ρ υ)))), (5, .int (((goM ρ) 0) 7)), (4, .int (((nI (495 + 19 * c_)) + 7) + (2 * (nI k)))), (3, .int (nI k)), (1, .int (nI (495 + 19 * c_))), (0, .ref (ad 0))]) hx hb dX9_readTerms_204 rfl hl (by decide) rfl (fun ls hl => ?_)
                  refine lv_aload_n hx hb dX9_readTerms_205 rfl (lv_at hl 6 rfl) ?_
                  refine callv (y := yX9_go) ⟨hx, hb, hml, hown, ht⟩ hK hN hP hS (k := 0) (c_X9_go l D ca ad hI (mtS c_ k (goM (goM ρ)) (((goM ρ) 0) 7) (nmd (goM (goM ρ)) (goT (goM ρ) (goT ρ υ)))) (goT (goM ρ) (goT ρ υ)) (TI_k (by decide) (TI_k (by decide) (TI_k (by decide) (TI_go (TI_go hT)) _ _) _ _) _ _)) (by decide) (sm_obj _ _) rfl ok_X9_go gw_996 ⟨by decide, by decide⟩ rfl hl.1 rfl (Nat.le_of_ble_eq_true rfl) ⟨by decide, by decide⟩ dX9_readTerms_206 (fun v_ S_ T_ H locs hp31 hP hS => ?_)
                  obtain ⟨rfl, rfl, rfl⟩ := hp31
                  try dsimp only [Option.toList, List.cons_append, List.nil_append]
                  refine lv_goto (tgt := 9) hx hb dX9_readTerms_209 (by decide) ?_
                  obtain ⟨r', rfl⟩ : ∃ r', r = r' + 1 := ⟨r - 1, by omega⟩
                  exact ih _ _ r' (k + 1) _ (by omega) (by omega) (by rw [goM_ne _ (by decide), mtS_3 _ _ _ _ _ (by omega) (by omega) (by omega), e33]; exact h1) (by rw [goM_ne _ (by decide), mtS_6]) (XD_step e33 hX hxr hno) (TI_go (TI_k (by decide) (TI_k (by decide) (TI_k (by decide) (TI_go (TI_go hT)) _ _) _ _) _ _)) (by rw [mtL, if_pos c2, if_pos c23, if_pos c25, if_pos c28, if_neg c30, if_neg (by rw [hno]; decide)] at hR; exact hR) _ _ hP hS ls (lv_sub hl [0, 5, 6] rfl)
                exact lp_X9_terms2 hI hc6 h1_ hk0 hT_ hx hb hr ht hown hlk hml hK hN (k + 1) (goM (goM ρ)) (goT (goM ρ) (goT ρ υ)) (nmd (goM (goM ρ)) (goT (goM ρ) (goT ρ υ))) (((goM ρ) 0) 7) (((nI (495 + 19 * c_)) + 7) + (2 * (nI k))) s_ k 0 (by omega) (by omega) (by omega) (fun j hj => by omega) (fun hy => by rw [← hR]; rw [e33] at hy; simp only [mtL, c2, (eq_true c23), c25, c28, c30, hy, ↓reduceIte]) h167 _ _ hP hS ls (lv_sub hl [0, 1, 2, 3, 4, 5, 6, 7] rfl)
              · have dc30 := c30
                rw [i_eq] at dc30
                refine lv_aload_n hx hb dX9_readTerms_121 rfl (lv_at hl 6 rfl) ?_
                refine lv_iconst (v := 3) hx hb dX9_readTerms_122 (by decide) ?_
                refine callv (y := yX9_bad) ⟨hx, hb, hml, hown, ht⟩ hK hN hP hS (k := 0) (c_X9_bad l D ca ad hI (goM (goM ρ)) (goT (goM ρ) (goT ρ υ)) (3 : Int32)) (by decide) (sm_obj _ _) rfl ok_X9_bad gw_1034 ⟨by decide, by decide⟩ rfl hl.1 rfl (Nat.le_of_ble_eq_true rfl) ⟨by decide, by decide⟩ dX9_readTerms_123 (fun v_ S_ T_ H locs hp32 hP hS => ?_)
                obtain ⟨rfl, rfl, rfl⟩ := hp32
                try dsimp only [Option.toList, List.cons_append, List.nil_append]
                exact ret_z hx hb hr hlk hP hS dX9_readTerms_126 (b := false) rfl (⟨by rw [← hR]; simp only [mtL, mtE, c2, (eq_true c23), c25, c28, (eq_true c30), ↓reduceIte, Bool.false_eq_true], by rw [← hR]; simp only [mtL, mtE, c2, (eq_true c23), c25, c28, (eq_true c30), ↓reduceIte, Bool.false_eq_true], by rw [← hR]; simp only [mtL, mtE, c2, (eq_true c23), c25, c28, (eq_true c30), ↓reduceIte, Bool.false_eq_true]⟩)
            · refine lv_aload_n hx hb dX9_readTerms_103 rfl (lv_at hl 5 rfl) ?_
              refine lv_iconst (v := 1) hx hb dX9_readTerms_104 (by decide) ?_
              refine callv (y := yX9_bad) ⟨hx, hb, hml, hown, ht⟩ hK hN hP hS (k := 0) (c_X9_bad l D ca ad hI (goM (goM ρ)) (goT (goM ρ) (goT ρ υ)) (1 : Int32)) (by decide) (sm_obj _ _) rfl ok_X9_bad gw_1034 ⟨by decide, by decide⟩ rfl hl.1 rfl (Nat.le_of_ble_eq_true rfl) ⟨by decide, by decide⟩ dX9_readTerms_105 (fun v_ S_ T_ H locs hp33 hP hS => ?_)
              obtain ⟨rfl, rfl, rfl⟩ := hp33
              try dsimp only [Option.toList, List.cons_append, List.nil_append]
              exact ret_z hx hb hr hlk hP hS dX9_readTerms_108 (b := false) rfl (⟨by rw [← hR]; simp only [mtL, mtE, c2, (eq_true c23), c25, c28, ↓reduceIte, Bool.false_eq_true], by rw [← hR]; simp only [mtL, mtE, c2, (eq_true c23), c25, c28, ↓reduceIte, Bool.false_eq_true], by rw [← hR]; simp only [mtL, mtE, c2, (eq_true c23), c25, c28, ↓reduceIte, Bool.false_eq_true]⟩)
          · refine lv_aload_n hx hb dX9_readTerms_80 rfl (lv_at hl 4 rfl) ?_
            refine lv_iconst (v := 2) hx hb dX9_readTerms_81 (by decide) ?_
            refine callv (y := yX9_bad) ⟨hx, hb, hml, hown, ht⟩ hK hN hP hS (k := 0) (c_X9_bad l D ca ad hI (goM ρ) (goT ρ υ) (2 : Int32)) (by decide) (sm_obj _ _) rfl ok_X9_bad gw_1034 ⟨by decide, by decide⟩ rfl hl.1 rfl (Nat.le_of_ble_eq_true rfl) ⟨by decide, by decide⟩ dX9_readTerms_82 (fun v_ S_ T_ H locs hp34 hP hS => ?_)
            obtain ⟨rfl, rfl, rfl⟩ := hp34
            try dsimp only [Option.toList, List.cons_append, List.nil_append]
            exact ret_z hx hb hr hlk hP hS dX9_readTerms_85 (b := false) rfl (⟨by rw [← hR]; simp only [mtL, mtE, c2, (eq_true c23), c25, ↓reduceIte, Bool.false_eq_true], by rw [← hR]; simp only [mtL, mtE, c2, (eq_true c23), c25, ↓reduceIte, Bool.false_eq_true], by rw [← hR]; simp only [mtL, mtE, c2, (eq_true c23), c25, ↓reduceIte, Bool.false_eq_true]⟩)
        · have dc23 := c23
          rw [i_eq] at dc23
          refine lv_aload_n hx hb dX9_readTerms_60 rfl (lv_at hl 4 rfl) ?_
          refine lv_iconst (v := 1) hx hb dX9_readTerms_61 (by decide) ?_
          refine callv (y := yX9_bad) ⟨hx, hb, hml, hown, ht⟩ hK hN hP hS (k := 0) (c_X9_bad l D ca ad hI (goM ρ) (goT ρ υ) (1 : Int32)) (by decide) (sm_obj _ _) rfl ok_X9_bad gw_1034 ⟨by decide, by decide⟩ rfl hl.1 rfl (Nat.le_of_ble_eq_true rfl) ⟨by decide, by decide⟩ dX9_readTerms_62 (fun v_ S_ T_ H locs hp35 hP hS => ?_)
          obtain ⟨rfl, rfl, rfl⟩ := hp35
          try dsimp only [Option.toList, List.cons_append, List.nil_append]
          exact ret_z hx hb hr hlk hP hS dX9_readTerms_65 (b := false) rfl (⟨by rw [← hR]; simp only [mtL, mtE, c2, c23, ↓reduceIte, Bool.false_eq_true], by rw [← hR]; simp only [mtL, mtE, c2, c23, ↓reduceIte, Bool.false_eq_true], by rw [← hR]; simp only [mtL, mtE, c2, c23, ↓reduceIte, Bool.false_eq_true]⟩)
set_option maxHeartbeats 4000000 in
set_option maxRecDepth 100000 in
theorem c_X9_readTerms (l : Launch) (D : va_G) (ca : Nat → ClassId) (ad : Nat → Nat) (hI : Inj 6 ad) (σ : MI) (τ : ML) {c_ : Nat} (hc6 : c_ < 6) (h1 : rg (σ 3 1) 0 6) (hk0 : σ 3 (495 + 19 * c_ + 6) = 0) (hT : TI σ) : CT l D (TY ca) 6 ad (mxf ca ad) yX9_readTerms cX9_readTerms 8 (some .boolean) 3 65 [.ref (ad 0), .int (nI (495 + 19 * c_))] σ τ (fun v_ S_ T_ => some (.int (b2i ((mtP c_ σ τ).1))) = v_ ∧ ((mtP c_ σ τ).2.1) = S_ ∧ ((mtP c_ σ τ).2.2) = T_) := by
  refine CT.of (by decide) (Nat.le_of_ble_eq_true rfl) ?_
  intro p e s m args below meth c hx hb hr ht hown hlk hml hP hK hN hS ls hl
  have hl : lv_has ls 8 [(0, .ref (ad 0)), (1, .int (nI (495 + 19 * c_)))] := hl
  refine lv_aload_n hx hb dX9_readTerms_0 rfl (lv_at hl 0 rfl) ?_
  refine fgetx hx hb ht inG9 hown hK hP (k := 0) (by decide) (x := (σ 0)) rfl (sm_obj _ _) rfl 13 (by decide) gw_952 (v := .ref (ad 3)) rfl dX9_readTerms_1 ?_
  refine lv_iload_n hx hb dX9_readTerms_4 rfl (lv_at hl 1 rfl) ?_
  refine lv_iconst (v := 1) hx hb dX9_readTerms_5 (by decide) ?_
  refine lv_iadd hx hb dX9_readTerms_6 ?_
  refine aldj hx hb hK hP (k := 3) (by decide) (x := (σ 3)) rfl 0 (sm_read _ _) rfl (by rw [ixC (J := 1) 1 rfl]; exact vp_in_nI (by omega) (by decide)) (j := (495 + 19 * c_ + 1)) (by rw [ixC (J := 1) 1 rfl]; exact nI_clamp (by omega)) dX9_readTerms_7 ?_
  refine lv_istore_n (lv' := [(2, .int ((σ 3) (495 + 19 * c_ + 1))), (0, .ref (ad 0)), (1, .int (nI (495 + 19 * c_)))]) hx hb dX9_readTerms_8 rfl hl (by decide) rfl (fun ls hl => ?_)
  exact lp_X9_terms hI hc6 h1 hk0 hT hx hb hr ht hown hlk hml hK hN 7 σ τ 6 0 _ (by omega) (by omega) h1 hk0 (fun n hn => by omega) hT rfl _ _ hP hS ls (lv_sub hl [0, 2, 1] rfl)
set_option maxHeartbeats 4000000 in
set_option maxRecDepth 100000 in
theorem lp_X9_base {l : Launch} {D : va_G} {ca : Nat → ClassId} {ad : Nat → Nat} (hI : Inj 6 ad) {σ : MI} {τ : ML} {c_ : Nat} (hc6 : c_ < 6) (h0 : rg (σ 3 0) 0 35) (hX6 : rg (σ 3 (495 + 19 * c_ + 6)) 0 6) (hX : ∀ n, n < (σ 3 (495 + 19 * c_ + 6)).toNatClampNeg → vp_in (σ 3 (495 + 19 * c_ + (8 + 2 * n))) 6) (hT : TI σ) {p : Program} {e : Env} {s : State} {m : MethodId} {args : Array Value} {below : List Frame} {meth : Method} {c : Code} (hx : p.tables.exec = Jvm.exec) (hb : c.code = cX9_readBase) (hr : meth.sig.returnType = (some .boolean)) (ht : ∀ w ∈ GG, w.before args s = true) (hown : s.vm.findClass yX9_readBase.cls = some m.cls) (hlk : meth.locks = false) (hml : c.maxLocals = 3) (hK : va_K D vwCl (TY ca) s) (hN : NW s) : ∀ (n : Nat) (k : Nat) (hk : k ≤ (σ 3 (495 + 19 * c_ + 6)).toNatClampNeg) (hn : (σ 3 (495 + 19 * c_ + 6)).toNatClampNeg - k < n) (h6 : σ 0 6 = 3) (h7 : σ 0 7 ≤ σ 3 0) (hall : ∀ j, j < k → (fun n => decide (σ 3 (218 + 36 * (σ 3 (495 + 19 * c_ + (8 + 2 * n))).toNatClampNeg + (σ 0 7).toNatClampNeg) ≠ 0)) j = true) (H : Heap) (locs : List Loc) (hP : PW D 6 ad (mxf ca ad) σ τ H) (hS : va_S (AA 6 ad) s.heap H locs) (ls : Array Slot) (hl : lv_has ls 3 [(2, .int (nI k)), (1, .int (nI (495 + 19 * c_))), (0, .ref (ad 0))]), W p l e { frames := 3, cells := 0, slots := 0, locals := 68 } s m args below meth c H locs 0 0 (MQ below (QD D 6 ad (mxf ca ad) (fun v_ S_ T_ => some (.int (b2i ((mbP c_ σ τ).1))) = v_ ∧ ((mbP c_ σ τ).2.1) = S_ ∧ ((mbP c_ σ τ).2.2) = T_)) args s 0 0 (AA 6 ad)) (F0 m 23 ls []) := by
  intro n
  induction n with
  | zero => intro k hk hn h6 h7 hall H locs hP hS ls hl; exfalso; omega
  | succ n ih =>
    intro k hk hn h6 h7 hall H locs hP hS ls hl
    have hX6b := hX6
    unfold rg at hX6b h0
    have hcl := clampI (σ 3 (495 + 19 * c_ + 6))
    have ek : (nI k).toInt = k := nI_toInt (by omega)
    have vn : vp_in (σ 0 7) 36 := by obtain ⟨_, _, _, _, _, _, h70⟩ := id hT; have := h70 h6; rw [i_le] at h7; rw [vp_in_iff]; omega
    have hn36 := clampN vn
    have hy6 : k < (σ 3 (495 + 19 * c_ + 6)).toNatClampNeg → (σ 3 (495 + 19 * c_ + (8 + 2 * k))).toNatClampNeg < 6 := fun q => clampN (hX k q)
    refine lv_iload_n hx hb dX9_readBase_23 rfl (lv_at hl 0 rfl) ?_
    refine lv_aload_n hx hb dX9_readBase_24 rfl (lv_at hl 2 rfl) ?_
    refine fgetx hx hb ht inG9 hown hK hP (k := 0) (by decide) (x := (σ 0)) rfl (sm_obj _ _) rfl 13 (by decide) gw_952 (v := .ref (ad 3)) rfl dX9_readBase_25 ?_
    refine lv_iload_n hx hb dX9_readBase_28 rfl (lv_at hl 1 rfl) ?_
    refine lv_bipush (v := 6) hx hb dX9_readBase_29 (by decide) ?_
    refine lv_iadd hx hb dX9_readBase_31 ?_
    refine aldj hx hb hK hP (k := 3) (by decide) (x := (σ 3)) rfl 0 (sm_read _ _) rfl (by rw [ixC (J := 6) 6 rfl]; exact vp_in_nI (by omega) (by decide)) (j := (495 + 19 * c_ + 6)) (by rw [ixC (J := 6) 6 rfl]; exact nI_clamp (by omega)) dX9_readBase_32 ?_
    refine lv_icmp_ge (tgt := 81) hx hb dX9_readBase_33 (by decide) (fun c1 => ?_) (fun c1 => ?_)
    · have dc1 := c1
      rw [i_le] at dc1
      have hK9 : mbK c_ σ = true := by rw [mbK, if_pos h6, if_pos h7, allS_t (fun j hj => hall j (by omega))]
      refine lv_aload_n hx hb dX9_readBase_81 rfl (lv_at hl 2 rfl) ?_
      refine lv_iload_n hx hb dX9_readBase_82 rfl (lv_at hl 1 rfl) ?_
      refine lv_iconst (v := 2) hx hb dX9_readBase_83 (by decide) ?_
      refine lv_iadd hx hb dX9_readBase_84 ?_
      refine lv_iconst (v := 0) hx hb dX9_readBase_85 (by decide) ?_
      refine lv_aload_n hx hb dX9_readBase_86 rfl (lv_at hl 2 rfl) ?_
      refine fgetx hx hb ht inG9 hown hK hP (k := 0) (by decide) (x := (σ 0)) rfl (sm_obj _ _) rfl 13 (by decide) gw_952 (v := .ref (ad 3)) rfl dX9_readBase_87 ?_
      refine lv_iconst (v := 0) hx hb dX9_readBase_90 (by decide) ?_
      refine aldj hx hb hK hP (k := 3) (by decide) (x := (σ 3)) rfl 0 (sm_read _ _) rfl (by rw [vp_in_iff]; decide) (j := 0) rfl dX9_readBase_91 ?_
      refine callv (y := yX9_told) ⟨hx, hb, hml, hown, ht⟩ hK hN hP hS (k := 0) (c_X9_told l D ca ad hI σ τ ((nI (495 + 19 * c_)) + 2) (0 : Int32) ((σ 3) 0) (ixC (J := 2) 2 rfl _) (by omega) hT) (by decide) (sm_obj _ _) rfl ok_X9_told gw_1038 ⟨by decide, by decide⟩ rfl hl.1 rfl (Nat.le_of_ble_eq_true rfl) ⟨by decide, by decide⟩ dX9_readBase_92 (fun v_ S_ T_ H locs hp2 hP hS => ?_)
      obtain ⟨rfl, rfl, rfl⟩ := hp2
      try dsimp only [Option.toList, List.cons_append, List.nil_append]
      exact ret_z hx hb hr hlk hP hS dX9_readBase_95 (b := (tdB σ (0 : Int32) ((σ 3) 0))) rfl (⟨by rw [mbP, if_pos hK9], by rw [mbP, if_pos hK9], by rw [mbP, if_pos hK9]⟩)
    · have dc1 := c1
      rw [i_le] at dc1
      have hkk : k < (σ 3 (495 + 19 * c_ + 6)).toNatClampNeg := by omega
      have hy5 := hy6 hkk
      refine lv_aload_n hx hb dX9_readBase_36 rfl (lv_at hl 2 rfl) ?_
      refine fgetx hx hb ht inG9 hown hK hP (k := 0) (by decide) (x := (σ 0)) rfl (sm_obj _ _) rfl 13 (by decide) gw_952 (v := .ref (ad 3)) rfl dX9_readBase_37 ?_
      refine lv_sipush (v := 218) hx hb dX9_readBase_40 (by decide) ?_
      refine lv_bipush (v := 36) hx hb dX9_readBase_43 (by decide) ?_
      refine lv_aload_n hx hb dX9_readBase_45 rfl (lv_at hl 2 rfl) ?_
      refine fgetx hx hb ht inG9 hown hK hP (k := 0) (by decide) (x := (σ 0)) rfl (sm_obj _ _) rfl 13 (by decide) gw_952 (v := .ref (ad 3)) rfl dX9_readBase_46 ?_
      refine lv_iload_n hx hb dX9_readBase_49 rfl (lv_at hl 1 rfl) ?_
      refine lv_bipush (v := 8) hx hb dX9_readBase_50 (by decide) ?_
      refine lv_iadd hx hb dX9_readBase_52 ?_
      refine lv_iconst (v := 2) hx hb dX9_readBase_53 (by decide) ?_
      refine lv_iload_n hx hb dX9_readBase_54 rfl (lv_at hl 0 rfl) ?_
      refine lv_imul hx hb dX9_readBase_55 ?_
      refine lv_iadd hx hb dX9_readBase_56 ?_
      refine aldj hx hb hK hP (k := 3) (by decide) (x := (σ 3)) rfl 0 (sm_read _ _) rfl (by rw [ixT (J := 8) 8 rfl]; exact vp_in_nI (by omega) (by decide)) (j := (495 + 19 * c_ + (8 + 2 * k))) (by rw [ixT (J := 8) 8 rfl]; exact nI_clamp (by omega)) dX9_readBase_57 ?_
      refine lv_imul hx hb dX9_readBase_58 ?_
      refine lv_iadd hx hb dX9_readBase_59 ?_
      refine lv_aload_n hx hb dX9_readBase_60 rfl (lv_at hl 2 rfl) ?_
      refine fgetx hx hb ht inG9 hown hK hP (k := 0) (by decide) (x := (σ 0)) rfl (sm_obj _ _) rfl 7 (by decide) gw_946 (v := .int ((σ 0) 7)) rfl dX9_readBase_61 ?_
      refine lv_iadd hx hb dX9_readBase_64 ?_
      refine aldj hx hb hK hP (k := 3) (by decide) (x := (σ 3)) rfl 0 (sm_read _ _) rfl (ix2v 218 36 880 rfl rfl rfl (hX k (by omega)) rfl vn (by omega) (by decide)) (j := (218 + 36 * (σ 3 (495 + 19 * c_ + (8 + 2 * k))).toNatClampNeg + (σ 0 7).toNatClampNeg)) (ix2c 218 36 880 rfl rfl rfl (hX k (by omega)) rfl vn (by omega) (by decide)) dX9_readBase_65 ?_
      refine lv_if_ne (tgt := 75) hx hb dX9_readBase_66 (by decide) (fun c3 => ?_) (fun c3 => ?_)
      · have dc3 := c3
        rw [i_eq] at dc3
        refine lv_iinc (v := (nI k) + 1) (lv' := [(2, .int ((nI k) + 1)), (1, .int (nI (495 + 19 * c_))), (0, .ref (ad 0))]) hx hb dX9_readBase_75 hl (k := 0) rfl rfl (by decide) rfl (fun ls hl => ?_)
        refine lv_goto (tgt := 23) hx hb dX9_readBase_78 (by decide) ?_
        rw [nI_1] at hl
        exact ih (k + 1) (by omega) (by omega) h6 h7 (fun j hj => by rcases (by omega : j < k ∨ j = k) with z | z; exact hall j z; rw [z]; exact decide_eq_true c3) _ _ hP hS ls (lv_sub hl [0, 1, 2] rfl)
      · have dc3 := c3
        rw [i_eq] at dc3
        refine lv_aload_n hx hb dX9_readBase_69 rfl (lv_at hl 2 rfl) ?_
        refine lv_iconst (v := 5) hx hb dX9_readBase_70 (by decide) ?_
        refine callv (y := yX9_bad) ⟨hx, hb, hml, hown, ht⟩ hK hN hP hS (k := 0) (c_X9_bad l D ca ad hI σ τ (5 : Int32)) (by decide) (sm_obj _ _) rfl ok_X9_bad gw_1034 ⟨by decide, by decide⟩ rfl hl.1 rfl (Nat.le_of_ble_eq_true rfl) ⟨by decide, by decide⟩ dX9_readBase_71 (fun v_ S_ T_ H locs hp4 hP hS => ?_)
        obtain ⟨rfl, rfl, rfl⟩ := hp4
        try dsimp only [Option.toList, List.cons_append, List.nil_append]
        exact ret_z hx hb hr hlk hP hS dX9_readBase_74 (b := false) rfl (have hK9 : ¬ mbK c_ σ = true := (by rw [mbK, if_pos h6, if_pos h7, allS_f (k := k) (by omega) (decide_eq_false (fun q => q c3))]; decide)
        ⟨by rw [mbP, if_neg hK9], by rw [mbP, if_neg hK9], by rw [mbP, if_neg hK9]⟩)
set_option maxHeartbeats 4000000 in
set_option maxRecDepth 100000 in
theorem c_X9_readBase (l : Launch) (D : va_G) (ca : Nat → ClassId) (ad : Nat → Nat) (hI : Inj 6 ad) (σ : MI) (τ : ML) {c_ : Nat} (hc6 : c_ < 6) (h0 : rg (σ 3 0) 0 35) (hX6 : rg (σ 3 (495 + 19 * c_ + 6)) 0 6) (hX : ∀ n, n < (σ 3 (495 + 19 * c_ + 6)).toNatClampNeg → vp_in (σ 3 (495 + 19 * c_ + (8 + 2 * n))) 6) (hT : TI σ) : CT l D (TY ca) 6 ad (mxf ca ad) yX9_readBase cX9_readBase 3 (some .boolean) 3 68 [.ref (ad 0), .int (nI (495 + 19 * c_))] σ τ (fun v_ S_ T_ => some (.int (b2i ((mbP c_ σ τ).1))) = v_ ∧ ((mbP c_ σ τ).2.1) = S_ ∧ ((mbP c_ σ τ).2.2) = T_) := by
  refine CT.of (by decide) (Nat.le_of_ble_eq_true rfl) ?_
  intro p e s m args below meth c hx hb hr ht hown hlk hml hP hK hN hS ls hl
  have hl : lv_has ls 3 [(0, .ref (ad 0)), (1, .int (nI (495 + 19 * c_)))] := hl
  refine lv_aload_n hx hb dX9_readBase_0 rfl (lv_at hl 0 rfl) ?_
  refine fgetx hx hb ht inG9 hown hK hP (k := 0) (by decide) (x := (σ 0)) rfl (sm_obj _ _) rfl 6 (by decide) gw_945 (v := .int ((σ 0) 6)) rfl dX9_readBase_1 ?_
  refine lv_iconst (v := 3) hx hb dX9_readBase_4 (by decide) ?_
  refine lv_icmp_ne (tgt := 81) hx hb dX9_readBase_5 (by decide) (fun c1 => ?_) (fun c1 => ?_)
  · have dc1 := c1
    rw [i_eq] at dc1
    have hK9 : mbK c_ σ = true := by rw [mbK, if_neg c1]
    refine lv_aload_n hx hb dX9_readBase_81 rfl (lv_at hl 0 rfl) ?_
    refine lv_iload_n hx hb dX9_readBase_82 rfl (lv_at hl 1 rfl) ?_
    refine lv_iconst (v := 2) hx hb dX9_readBase_83 (by decide) ?_
    refine lv_iadd hx hb dX9_readBase_84 ?_
    refine lv_iconst (v := 0) hx hb dX9_readBase_85 (by decide) ?_
    refine lv_aload_n hx hb dX9_readBase_86 rfl (lv_at hl 0 rfl) ?_
    refine fgetx hx hb ht inG9 hown hK hP (k := 0) (by decide) (x := (σ 0)) rfl (sm_obj _ _) rfl 13 (by decide) gw_952 (v := .ref (ad 3)) rfl dX9_readBase_87 ?_
    refine lv_iconst (v := 0) hx hb dX9_readBase_90 (by decide) ?_
    refine aldj hx hb hK hP (k := 3) (by decide) (x := (σ 3)) rfl 0 (sm_read _ _) rfl (by rw [vp_in_iff]; decide) (j := 0) rfl dX9_readBase_91 ?_
    refine callv (y := yX9_told) ⟨hx, hb, hml, hown, ht⟩ hK hN hP hS (k := 0) (c_X9_told l D ca ad hI σ τ ((nI (495 + 19 * c_)) + 2) (0 : Int32) ((σ 3) 0) (ixC (J := 2) 2 rfl _) (by omega) hT) (by decide) (sm_obj _ _) rfl ok_X9_told gw_1038 ⟨by decide, by decide⟩ rfl hl.1 rfl (Nat.le_of_ble_eq_true rfl) ⟨by decide, by decide⟩ dX9_readBase_92 (fun v_ S_ T_ H locs hp2 hP hS => ?_)
    obtain ⟨rfl, rfl, rfl⟩ := hp2
    try dsimp only [Option.toList, List.cons_append, List.nil_append]
    exact ret_z hx hb hr hlk hP hS dX9_readBase_95 (b := (tdB σ (0 : Int32) ((σ 3) 0))) rfl (⟨by rw [mbP, if_pos hK9], by rw [mbP, if_pos hK9], by rw [mbP, if_pos hK9]⟩)
  · have dc1 := c1
    rw [i_eq] at dc1
    refine lv_aload_n hx hb dX9_readBase_8 rfl (lv_at hl 0 rfl) ?_
    refine fgetx hx hb ht inG9 hown hK hP (k := 0) (by decide) (x := (σ 0)) rfl (sm_obj _ _) rfl 7 (by decide) gw_946 (v := .int ((σ 0) 7)) rfl dX9_readBase_9 ?_
    refine lv_aload_n hx hb dX9_readBase_12 rfl (lv_at hl 0 rfl) ?_
    refine fgetx hx hb ht inG9 hown hK hP (k := 0) (by decide) (x := (σ 0)) rfl (sm_obj _ _) rfl 13 (by decide) gw_952 (v := .ref (ad 3)) rfl dX9_readBase_13 ?_
    refine lv_iconst (v := 0) hx hb dX9_readBase_16 (by decide) ?_
    refine aldj hx hb hK hP (k := 3) (by decide) (x := (σ 3)) rfl 0 (sm_read _ _) rfl (by rw [vp_in_iff]; decide) (j := 0) rfl dX9_readBase_17 ?_
    refine lv_icmp_gt (tgt := 81) hx hb dX9_readBase_18 (by decide) (fun c3 => ?_) (fun c3 => ?_)
    · have dc3 := c3
      rw [i_lt] at dc3
      have hK9 : mbK c_ σ = true := by rw [mbK, if_pos c1, if_neg (by rw [Int32.not_le]; exact c3)]
      refine lv_aload_n hx hb dX9_readBase_81 rfl (lv_at hl 0 rfl) ?_
      refine lv_iload_n hx hb dX9_readBase_82 rfl (lv_at hl 1 rfl) ?_
      refine lv_iconst (v := 2) hx hb dX9_readBase_83 (by decide) ?_
      refine lv_iadd hx hb dX9_readBase_84 ?_
      refine lv_iconst (v := 0) hx hb dX9_readBase_85 (by decide) ?_
      refine lv_aload_n hx hb dX9_readBase_86 rfl (lv_at hl 0 rfl) ?_
      refine fgetx hx hb ht inG9 hown hK hP (k := 0) (by decide) (x := (σ 0)) rfl (sm_obj _ _) rfl 13 (by decide) gw_952 (v := .ref (ad 3)) rfl dX9_readBase_87 ?_
      refine lv_iconst (v := 0) hx hb dX9_readBase_90 (by decide) ?_
      refine aldj hx hb hK hP (k := 3) (by decide) (x := (σ 3)) rfl 0 (sm_read _ _) rfl (by rw [vp_in_iff]; decide) (j := 0) rfl dX9_readBase_91 ?_
      refine callv (y := yX9_told) ⟨hx, hb, hml, hown, ht⟩ hK hN hP hS (k := 0) (c_X9_told l D ca ad hI σ τ ((nI (495 + 19 * c_)) + 2) (0 : Int32) ((σ 3) 0) (ixC (J := 2) 2 rfl _) (by omega) hT) (by decide) (sm_obj _ _) rfl ok_X9_told gw_1038 ⟨by decide, by decide⟩ rfl hl.1 rfl (Nat.le_of_ble_eq_true rfl) ⟨by decide, by decide⟩ dX9_readBase_92 (fun v_ S_ T_ H locs hp4 hP hS => ?_)
      obtain ⟨rfl, rfl, rfl⟩ := hp4
      try dsimp only [Option.toList, List.cons_append, List.nil_append]
      exact ret_z hx hb hr hlk hP hS dX9_readBase_95 (b := (tdB σ (0 : Int32) ((σ 3) 0))) rfl (⟨by rw [mbP, if_pos hK9], by rw [mbP, if_pos hK9], by rw [mbP, if_pos hK9]⟩)
    · have dc3 := c3
      rw [i_lt] at dc3
      refine lv_iconst (v := 0) hx hb dX9_readBase_21 (by decide) ?_
      refine lv_istore_n (lv' := [(2, .int 0), (0, .ref (ad 0)), (1, .int (nI (495 + 19 * c_)))]) hx hb dX9_readBase_22 rfl hl (by decide) rfl (fun ls hl => ?_)
      exact lp_X9_base hI hc6 h0 hX6 hX hT hx hb hr ht hown hlk hml hK hN ((σ 3 (495 + 19 * c_ + 6)).toNatClampNeg + 1) 0 (by omega) (by omega) c1 (by rw [← Int32.not_lt]; exact c3) (fun j hj => by omega) _ _ hP hS ls (lv_sub hl [0, 2, 1] rfl)
