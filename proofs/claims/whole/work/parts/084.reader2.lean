set_option maxHeartbeats 4000000 in
set_option maxRecDepth 100000 in
theorem c_X7_readNow (l : Launch) (D : va_G) (ca : Nat → ClassId) (ad : Nat → Nat) (hI : Inj 158 ad) (adK adV : Nat → Nat) (σ : MI) (τ : ML)  : CY l D (TY ca) 158 ad (cxf ca ad) adK adV yX7_readNow cX7_readNow 1 (some .boolean) 6 128 [.ref (ad 1)] σ τ (fun v_ S_ T_ => some (.int (b2i (nwB σ))) = v_ ∧ (nwM σ) = S_ ∧ τ = T_) := by
  refine CY.of (by decide) (Nat.le_of_ble_eq_true rfl) ?_
  intro p e s m args below meth c hx hb hr ht hown hlk hml hP hK hN hS ls hl hE
  have hl : lv_has ls 1 [(0, .ref (ad 1))] := hl
  have hbz := bz_lt (σ 1 3)
  refine lv_aload_n hx hb dX7_readNow_0 rfl (lv_at hl 0 rfl) ?_
  refine va_ldcS hx hb hown (hE.2.2.2 0 (by decide)) dX7_readNow_1 ?_
  refine callvY (y := yX7_readWord) ⟨hx, hb, hml, hown, ht⟩ hK hN hE hP hS (k := 1) (c_X7_readWord l D ca ad hI adK adV σ τ (by decide)) (by decide) (sh_read _ _) rfl ok_X7_readWord gw_415 ⟨by decide, by decide⟩ rfl hl.1 rfl (Nat.le_of_ble_eq_true rfl) ⟨by decide, by decide⟩ dX7_readNow_3 (fun v_ S_ T_ H locs hp1 hP hS => ?_)
  obtain ⟨rfl, rfl, rfl⟩ := hp1
  try dsimp only [Option.toList, List.cons_append, List.nil_append]
  refine br_eq (tgt := 19) hx hb dX7_readNow_6 (by decide) (fun c2 => ?_) (fun c2 => ?_)
  · refine lv_iconst (v := 0) hx hb dX7_readNow_19 (by decide) ?_
    exact ret_z hx hb hr hlk hP hS dX7_readNow_20 (b := false) rfl (⟨by first | with_reducible rfl | (simp only [nwB, nwM, c2, ↓reduceIte, Bool.false_eq_true]; done) | (simp only [nwB, nwM, c2, ↓reduceIte, Bool.false_eq_true]; rfl) | rfl, by first | with_reducible rfl | (simp only [nwB, nwM, c2, ↓reduceIte, Bool.false_eq_true]; done) | (simp only [nwB, nwM, c2, ↓reduceIte, Bool.false_eq_true]; rfl) | rfl, rfl⟩)
  · refine lv_aload_n hx hb dX7_readNow_9 rfl (lv_at hl 0 rfl) ?_
    refine lv_iconst (v := 0) hx hb dX7_readNow_10 (by decide) ?_
    refine lv_bipush (v := 35) hx hb dX7_readNow_11 (by decide) ?_
    refine callv (y := yX7_readNumber) ⟨hx, hb, hml, hown, ht⟩ hK hN hP hS (k := 1) (c_X7_readNumber l D ca ad hI (rwM σ 0) τ (0 : Int32) (35 : Int32)) (by decide) (sh_read _ _) rfl ok_X7_readNumber gw_476 ⟨by decide, by decide⟩ rfl hl.1 rfl (Nat.le_of_ble_eq_true rfl) ⟨by decide, by decide⟩ dX7_readNow_13 (fun v_ S_ T_ H locs hp3 hP hS => ?_)
    obtain ⟨rfl, rfl, rfl⟩ := hp3
    try dsimp only [Option.toList, List.cons_append, List.nil_append]
    refine br_ne (tgt := 21) hx hb dX7_readNow_16 (by decide) (fun c4 => ?_) (fun c4 => ?_)
    · refine lv_aload_n hx hb dX7_readNow_21 rfl (lv_at hl 0 rfl) ?_
      refine fgetx hx hb ht inG7 hown hK hP (k := 1) (by decide) (x := ((rnM (rwM σ 0) (0 : Int32) (35 : Int32)) 1)) rfl (sh_read _ _) rfl 3 (by decide) gw_239 (v := .ref (ad (44 + 57 * (bz (σ 1 3))))) (congrArg (fun z => some (Value.ref (ad (44 + 57 * bz z)))) (show ((rnM (rwM σ 0) (0 : Int32) (35 : Int32)) 1) 3 = σ 1 3 from (by rw [rd3_rn, rd3_rw]))) dX7_readNow_22 ?_
      refine lv_aload_n hx hb dX7_readNow_25 rfl (lv_at hl 0 rfl) ?_
      refine fgetx hx hb ht inG7 hown hK hP (k := 1) (by decide) (x := ((rnM (rwM σ 0) (0 : Int32) (35 : Int32)) 1)) rfl (sh_read _ _) rfl 4 (by decide) gw_240 (v := .int (((rnM (rwM σ 0) (0 : Int32) (35 : Int32)) 1) 4)) rfl dX7_readNow_26 ?_
      refine fputxN (ref := "") (w := ((rnM (rwM σ 0) (0 : Int32) (35 : Int32)) 1) 4) hx hb ht inG0 tyX0 tyX0_ok nmX0 hown hK hP hI hS (k := (44 + 57 * (bz (σ 1 3)))) (by have b0_ : (bz (σ 1 3)) < 2 := (bz_lt _); omega) (sh_book _ _ (bz_lt _)) rfl 0 (by decide) (hN.get 214 nw_214 rfl) rfl rfl rfl (Nat.le_of_ble_eq_true rfl) (sh_book _ _ (bz_lt _)) dX7_readNow_29 (fun H locs hP hS => ?_)
      refine lv_iconst (v := 1) hx hb dX7_readNow_32 (by decide) ?_
      exact ret_z hx hb hr hlk hP hS dX7_readNow_33 (b := true) rfl (⟨by first | with_reducible rfl | (simp only [nwB, nwM, c2, c4, ↓reduceIte, Bool.false_eq_true]; done) | (simp only [nwB, nwM, c2, c4, ↓reduceIte, Bool.false_eq_true]; rfl) | rfl, by first | with_reducible rfl | (simp only [nwB, nwM, c2, c4, ↓reduceIte, Bool.false_eq_true]; done) | (simp only [nwB, nwM, c2, c4, ↓reduceIte, Bool.false_eq_true]; rfl) | rfl, rfl⟩)
    · refine lv_iconst (v := 0) hx hb dX7_readNow_19 (by decide) ?_
      exact ret_z hx hb hr hlk hP hS dX7_readNow_20 (b := false) rfl (⟨by first | with_reducible rfl | (simp only [nwB, nwM, c2, c4, ↓reduceIte, Bool.false_eq_true]; done) | (simp only [nwB, nwM, c2, c4, ↓reduceIte, Bool.false_eq_true]; rfl) | rfl, by first | with_reducible rfl | (simp only [nwB, nwM, c2, c4, ↓reduceIte, Bool.false_eq_true]; done) | (simp only [nwB, nwM, c2, c4, ↓reduceIte, Bool.false_eq_true]; rfl) | rfl, rfl⟩)
set_option maxHeartbeats 4000000 in
set_option maxRecDepth 100000 in
theorem lp_X7_values {l : Launch} {D : va_G} {ca : Nat → ClassId} {ad : Nat → Nat} (hI : Inj 158 ad) {σ : MI} {τ : ML} {b i : Nat} (hb2 : b < 2) (hi : i < 6) {p : Program} {e : Env} {s : State} {m : MethodId} {args : Array Value} {below : List Frame} {meth : Method} {c : Code} (hx : p.tables.exec = Jvm.exec) (hb : c.code = cX7_readValues) (hr : meth.sig.returnType = (some .boolean)) (ht : ∀ w ∈ GG, w.before args s = true) (hown : s.vm.findClass yX7_readValues.cls = some m.cls) (hlk : meth.locks = false) (hml : c.maxLocals = 3) (hK : va_K D vwCl (TY ca) s) (hN : NW s) : ∀ (n : Nat) (ρ : MI) (r k : Nat) (hk : k + r = 37) (hn : r < n) (hR : vsK b i r ρ k = vsP σ b i) (H : Heap) (locs : List Loc) (hP : PW D 158 ad (cxf ca ad) ρ τ H) (hS : va_S (AA 158 ad) s.heap H locs) (ls : Array Slot) (hl : lv_has ls 3 [(2, .int (nI k)), (0, .ref (ad 1)), (1, .ref (ad (47 + 57 * b + 6 * i)))]), W p l e { frames := 4, cells := 0, slots := 0, locals := 91 } s m args below meth c H locs 0 0 (MQ below (QD D 158 ad (cxf ca ad) (fun v_ S_ T_ => some (.int (b2i ((vsP σ b i).1))) = v_ ∧ ((vsP σ b i).2) = S_ ∧ τ = T_)) args s 0 0 (AA 158 ad)) (F0 m 2 ls []) := by
  intro n
  induction n with
  | zero => intro ρ r k hk hn hR H locs hP hS ls hl; exfalso; omega
  | succ n ih =>
    intro ρ r k hk hn hR H locs hP hS ls hl
    have e36 : (36 : Int32).toInt = 36 := rfl
    have e0 : (0 : Int32).toInt = 0 := rfl
    have ek : (nI k).toInt = k := nI_toInt (by omega)
    have hbz := bz_lt (ρ 1 3)
    refine lv_iload_n hx hb dX7_readValues_2 rfl (lv_at hl 0 rfl) ?_
    refine lv_bipush (v := 36) hx hb dX7_readValues_3 (by decide) ?_
    refine lv_icmp_gt (tgt := 67) hx hb dX7_readValues_5 (by decide) (fun c1 => ?_) (fun c1 => ?_)
    · have dc1 := c1
      rw [i_lt] at dc1
      obtain rfl : r = 0 := by omega
      refine lv_iconst (v := 1) hx hb dX7_readValues_67 (by decide) ?_
      exact ret_z hx hb hr hlk hP hS dX7_readValues_68 (b := true) rfl (⟨by rw [← hR, vsK_end (by omega) (Or.inl rfl)], by rw [← hR, vsK_end (by omega) (Or.inl rfl)], rfl⟩)
    · have dc1 := c1
      rw [i_lt] at dc1
      obtain ⟨r', rfl⟩ : ∃ r', r = r' + 1 := ⟨r - 1, by omega⟩
      refine lv_iload_n hx hb dX7_readValues_8 rfl (lv_at hl 0 rfl) ?_
      refine lv_if_eq (tgt := 23) hx hb dX7_readValues_9 (by decide) (fun c2 => ?_) (fun c2 => ?_)
      · have dc2 := c2
        rw [i_eq] at dc2
        have hst := vsK_step (b := b) (i := i) (ρ := ρ) (k := k) (r := r') (by omega) (Or.inl (by omega))
        refine lv_aload_n hx hb dX7_readValues_23 rfl (lv_at hl 1 rfl) ?_
        refine lv_iconst (v := 1) hx hb dX7_readValues_24 (by decide) ?_
        refine lv_iload_n hx hb dX7_readValues_25 rfl (lv_at hl 0 rfl) ?_
        refine lv_aload_n hx hb dX7_readValues_26 rfl (lv_at hl 1 rfl) ?_
        refine fgetx hx hb ht inG7 hown hK hP (k := 1) (by decide) (x := (ρ 1)) rfl (sh_read _ _) rfl 3 (by decide) gw_239 (v := .ref (ad (44 + 57 * (bz ((ρ 1) 3))))) rfl dX7_readValues_27 ?_
        refine fgetxN hx hb ht inG0 hown hK hP (k := (44 + 57 * (bz ((ρ 1) 3)))) (by have b0_ : (bz ((ρ 1) 3)) < 2 := (bz_lt _); omega) (x := (ρ (44 + 57 * (bz ((ρ 1) 3))))) rfl (sh_book _ _ (bz_lt _)) rfl 0 (by decide) (hN.get 214 nw_214 rfl) (v := .int ((ρ (44 + 57 * (bz ((ρ 1) 3)))) 0)) rfl dX7_readValues_30 ?_
        refine lv_icmp_gt (tgt := 42) hx hb dX7_readValues_33 (by decide) (fun c3 => ?_) (fun c3 => ?_)
        · have dc3 := c3
          rw [i_lt] at dc3
          have hvm : vmS ρ (nI k) = 0 := by simp only [vmS, c3, ↓reduceIte]
          refine lv_iconst (v := 0) hx hb dX7_readValues_42 (by decide) ?_
          refine callv (y := yX7_readNumber) ⟨hx, hb, hml, hown, ht⟩ hK hN hP hS (k := 1) (c_X7_readNumber l D ca ad hI ρ τ (1 : Int32) (0 : Int32)) (by decide) (sh_read _ _) rfl ok_X7_readNumber gw_476 ⟨by decide, by decide⟩ rfl hl.1 rfl (Nat.le_of_ble_eq_true rfl) ⟨by decide, by decide⟩ dX7_readValues_43 (fun v_ S_ T_ H locs hp4 hP hS => ?_)
          obtain ⟨rfl, rfl, rfl⟩ := hp4
          try dsimp only [Option.toList, List.cons_append, List.nil_append]
          refine br_ne (tgt := 51) hx hb dX7_readValues_46 (by decide) (fun c5 => ?_) (fun c5 => ?_)
          · refine lv_aload_n hx hb dX7_readValues_51 rfl (lv_at hl 2 rfl) ?_
            refine lv_iload_n hx hb dX7_readValues_52 rfl (lv_at hl 0 rfl) ?_
            refine lv_aload_n hx hb dX7_readValues_53 rfl (lv_at hl 1 rfl) ?_
            refine fgetx hx hb ht inG7 hown hK hP (k := 1) (by decide) (x := ((rnM ρ (1 : Int32) (0 : Int32)) 1)) rfl (sh_read _ _) rfl 4 (by decide) gw_240 (v := .int (((rnM ρ (1 : Int32) (0 : Int32)) 1) 4)) rfl dX7_readValues_54 ?_
            refine lv_iconst (v := 2) hx hb dX7_readValues_57 (by decide) ?_
            refine callv (y := yX4_put) ⟨hx, hb, hml, hown, ht⟩ hK hN hP hS (k := (47 + 57 * b + 6 * i)) (c_X4_put l D ca ad hI (rnM ρ (1 : Int32) (0 : Int32)) τ hb2 hi (nI k) (((rnM ρ (1 : Int32) (0 : Int32)) 1) 4) (2 : Int32)) (by omega) (sh_indx _ _ hb2 hi) rfl ok_X4_put gw_577 ⟨by decide, by decide⟩ rfl hl.1 rfl (Nat.le_of_ble_eq_true rfl) ⟨by decide, by decide⟩ dX7_readValues_58 (fun v_ S_ T_ H locs hp6 hP hS => ?_)
            obtain ⟨rfl, rfl, rfl⟩ := hp6
            try dsimp only [Option.toList, List.cons_append, List.nil_append]
            refine lv_iinc (v := (nI k) + 1) (lv' := [(2, .int ((nI k) + 1)), (0, .ref (ad 1)), (1, .ref (ad (47 + 57 * b + 6 * i)))]) hx hb dX7_readValues_61 hl (k := 0) rfl rfl (by decide) rfl (fun ls hl => ?_)
            refine lv_goto (tgt := 2) hx hb dX7_readValues_64 (by decide) ?_
            rw [nI_1] at hl
            exact ih _ r' (k + 1) (by omega) (by omega) (by rw [← hR, hst]; simp only [rvM, hvm, c5, ↓reduceIte]) _ _ hP hS ls (lv_sub hl [0, 1, 2] rfl)
          · refine lv_iconst (v := 0) hx hb dX7_readValues_49 (by decide) ?_
            exact ret_z hx hb hr hlk hP hS dX7_readValues_50 (b := false) rfl (⟨by rw [← hR, hst]; simp only [hvm, c5, ↓reduceIte, Bool.false_eq_true], by rw [← hR, hst]; simp only [rvM, hvm, c5, ↓reduceIte, Bool.false_eq_true], rfl⟩)
        · have dc3 := c3
          rw [i_lt] at dc3
          have hvm : vmS ρ (nI k) = 999 := by simp only [vmS, c3, ↓reduceIte]
          refine lv_sipush (v := 999) hx hb dX7_readValues_36 (by decide) ?_
          refine lv_goto (tgt := 43) hx hb dX7_readValues_39 (by decide) ?_
          refine callv (y := yX7_readNumber) ⟨hx, hb, hml, hown, ht⟩ hK hN hP hS (k := 1) (c_X7_readNumber l D ca ad hI ρ τ (1 : Int32) (999 : Int32)) (by decide) (sh_read _ _) rfl ok_X7_readNumber gw_476 ⟨by decide, by decide⟩ rfl hl.1 rfl (Nat.le_of_ble_eq_true rfl) ⟨by decide, by decide⟩ dX7_readValues_43 (fun v_ S_ T_ H locs hp7 hP hS => ?_)
          obtain ⟨rfl, rfl, rfl⟩ := hp7
          try dsimp only [Option.toList, List.cons_append, List.nil_append]
          refine br_ne (tgt := 51) hx hb dX7_readValues_46 (by decide) (fun c8 => ?_) (fun c8 => ?_)
          · refine lv_aload_n hx hb dX7_readValues_51 rfl (lv_at hl 2 rfl) ?_
            refine lv_iload_n hx hb dX7_readValues_52 rfl (lv_at hl 0 rfl) ?_
            refine lv_aload_n hx hb dX7_readValues_53 rfl (lv_at hl 1 rfl) ?_
            refine fgetx hx hb ht inG7 hown hK hP (k := 1) (by decide) (x := ((rnM ρ (1 : Int32) (999 : Int32)) 1)) rfl (sh_read _ _) rfl 4 (by decide) gw_240 (v := .int (((rnM ρ (1 : Int32) (999 : Int32)) 1) 4)) rfl dX7_readValues_54 ?_
            refine lv_iconst (v := 2) hx hb dX7_readValues_57 (by decide) ?_
            refine callv (y := yX4_put) ⟨hx, hb, hml, hown, ht⟩ hK hN hP hS (k := (47 + 57 * b + 6 * i)) (c_X4_put l D ca ad hI (rnM ρ (1 : Int32) (999 : Int32)) τ hb2 hi (nI k) (((rnM ρ (1 : Int32) (999 : Int32)) 1) 4) (2 : Int32)) (by omega) (sh_indx _ _ hb2 hi) rfl ok_X4_put gw_577 ⟨by decide, by decide⟩ rfl hl.1 rfl (Nat.le_of_ble_eq_true rfl) ⟨by decide, by decide⟩ dX7_readValues_58 (fun v_ S_ T_ H locs hp9 hP hS => ?_)
            obtain ⟨rfl, rfl, rfl⟩ := hp9
            try dsimp only [Option.toList, List.cons_append, List.nil_append]
            refine lv_iinc (v := (nI k) + 1) (lv' := [(2, .int ((nI k) + 1)), (0, .ref (ad 1)), (1, .ref (ad (47 + 57 * b + 6 * i)))]) hx hb dX7_readValues_61 hl (k := 0) rfl rfl (by decide) rfl (fun ls hl => ?_)
            refine lv_goto (tgt := 2) hx hb dX7_readValues_64 (by decide) ?_
            rw [nI_1] at hl
            exact ih _ r' (k + 1) (by omega) (by omega) (by rw [← hR, hst]; simp only [rvM, hvm, c8, ↓reduceIte]) _ _ hP hS ls (lv_sub hl [0, 1, 2] rfl)
          · refine lv_iconst (v := 0) hx hb dX7_readValues_49 (by decide) ?_
            exact ret_z hx hb hr hlk hP hS dX7_readValues_50 (b := false) rfl (⟨by rw [← hR, hst]; simp only [hvm, c8, ↓reduceIte, Bool.false_eq_true], by rw [← hR, hst]; simp only [rvM, hvm, c8, ↓reduceIte, Bool.false_eq_true], rfl⟩)
      · have dc2 := c2
        rw [i_eq] at dc2
        refine lv_aload_n hx hb dX7_readValues_12 rfl (lv_at hl 1 rfl) ?_
        refine fgetx hx hb ht inG7 hown hK hP (k := 1) (by decide) (x := (ρ 1)) rfl (sh_read _ _) rfl 0 (by decide) gw_235 (v := .ref (ad 2)) rfl dX7_readValues_13 ?_
        refine fgetxN hx hb ht inG6 hown hK hP (k := 2) (by decide) (x := (ρ 2)) rfl (sh_tape _ _) rfl 4 (by decide) (hN.get 104 nw_104 rfl) (v := .int ((ρ 2) 4)) rfl dX7_readValues_16 ?_
        refine lv_iconst (v := 2) hx hb dX7_readValues_19 (by decide) ?_
        refine lv_icmp_ne (tgt := 67) hx hb dX7_readValues_20 (by decide) (fun c10 => ?_) (fun c10 => ?_)
        · have dc10 := c10
          rw [i_eq] at dc10
          refine lv_iconst (v := 1) hx hb dX7_readValues_67 (by decide) ?_
          exact ret_z hx hb hr hlk hP hS dX7_readValues_68 (b := true) rfl (⟨by rw [← hR, vsK_end (by omega) (Or.inr c10)], by rw [← hR, vsK_end (by omega) (Or.inr c10)], rfl⟩)
        · have dc10 := c10
          rw [i_eq] at dc10
          have hst := vsK_step (b := b) (i := i) (ρ := ρ) (k := k) (r := r') (by omega) (Or.inr c10)
          refine lv_aload_n hx hb dX7_readValues_23 rfl (lv_at hl 1 rfl) ?_
          refine lv_iconst (v := 1) hx hb dX7_readValues_24 (by decide) ?_
          refine lv_iload_n hx hb dX7_readValues_25 rfl (lv_at hl 0 rfl) ?_
          refine lv_aload_n hx hb dX7_readValues_26 rfl (lv_at hl 1 rfl) ?_
          refine fgetx hx hb ht inG7 hown hK hP (k := 1) (by decide) (x := (ρ 1)) rfl (sh_read _ _) rfl 3 (by decide) gw_239 (v := .ref (ad (44 + 57 * (bz ((ρ 1) 3))))) rfl dX7_readValues_27 ?_
          refine fgetxN hx hb ht inG0 hown hK hP (k := (44 + 57 * (bz ((ρ 1) 3)))) (by have b0_ : (bz ((ρ 1) 3)) < 2 := (bz_lt _); omega) (x := (ρ (44 + 57 * (bz ((ρ 1) 3))))) rfl (sh_book _ _ (bz_lt _)) rfl 0 (by decide) (hN.get 214 nw_214 rfl) (v := .int ((ρ (44 + 57 * (bz ((ρ 1) 3)))) 0)) rfl dX7_readValues_30 ?_
          refine lv_icmp_gt (tgt := 42) hx hb dX7_readValues_33 (by decide) (fun c11 => ?_) (fun c11 => ?_)
          · have dc11 := c11
            rw [i_lt] at dc11
            have hvm : vmS ρ (nI k) = 0 := by simp only [vmS, c11, ↓reduceIte]
            refine lv_iconst (v := 0) hx hb dX7_readValues_42 (by decide) ?_
            refine callv (y := yX7_readNumber) ⟨hx, hb, hml, hown, ht⟩ hK hN hP hS (k := 1) (c_X7_readNumber l D ca ad hI ρ τ (1 : Int32) (0 : Int32)) (by decide) (sh_read _ _) rfl ok_X7_readNumber gw_476 ⟨by decide, by decide⟩ rfl hl.1 rfl (Nat.le_of_ble_eq_true rfl) ⟨by decide, by decide⟩ dX7_readValues_43 (fun v_ S_ T_ H locs hp12 hP hS => ?_)
            obtain ⟨rfl, rfl, rfl⟩ := hp12
            try dsimp only [Option.toList, List.cons_append, List.nil_append]
            refine br_ne (tgt := 51) hx hb dX7_readValues_46 (by decide) (fun c13 => ?_) (fun c13 => ?_)
            · refine lv_aload_n hx hb dX7_readValues_51 rfl (lv_at hl 2 rfl) ?_
              refine lv_iload_n hx hb dX7_readValues_52 rfl (lv_at hl 0 rfl) ?_
              refine lv_aload_n hx hb dX7_readValues_53 rfl (lv_at hl 1 rfl) ?_
              refine fgetx hx hb ht inG7 hown hK hP (k := 1) (by decide) (x := ((rnM ρ (1 : Int32) (0 : Int32)) 1)) rfl (sh_read _ _) rfl 4 (by decide) gw_240 (v := .int (((rnM ρ (1 : Int32) (0 : Int32)) 1) 4)) rfl dX7_readValues_54 ?_
              refine lv_iconst (v := 2) hx hb dX7_readValues_57 (by decide) ?_
              refine callv (y := yX4_put) ⟨hx, hb, hml, hown, ht⟩ hK hN hP hS (k := (47 + 57 * b + 6 * i)) (c_X4_put l D ca ad hI (rnM ρ (1 : Int32) (0 : Int32)) τ hb2 hi (nI k) (((rnM ρ (1 : Int32) (0 : Int32)) 1) 4) (2 : Int32)) (by omega) (sh_indx _ _ hb2 hi) rfl ok_X4_put gw_577 ⟨by decide, by decide⟩ rfl hl.1 rfl (Nat.le_of_ble_eq_true rfl) ⟨by decide, by decide⟩ dX7_readValues_58 (fun v_ S_ T_ H locs hp14 hP hS => ?_)
              obtain ⟨rfl, rfl, rfl⟩ := hp14
              try dsimp only [Option.toList, List.cons_append, List.nil_append]
              refine lv_iinc (v := (nI k) + 1) (lv' := [(2, .int ((nI k) + 1)), (0, .ref (ad 1)), (1, .ref (ad (47 + 57 * b + 6 * i)))]) hx hb dX7_readValues_61 hl (k := 0) rfl rfl (by decide) rfl (fun ls hl => ?_)
              refine lv_goto (tgt := 2) hx hb dX7_readValues_64 (by decide) ?_
              rw [nI_1] at hl
              exact ih _ r' (k + 1) (by omega) (by omega) (by rw [← hR, hst]; simp only [rvM, hvm, c13, ↓reduceIte]) _ _ hP hS ls (lv_sub hl [0, 1, 2] rfl)
            · refine lv_iconst (v := 0) hx hb dX7_readValues_49 (by decide) ?_
              exact ret_z hx hb hr hlk hP hS dX7_readValues_50 (b := false) rfl (⟨by rw [← hR, hst]; simp only [hvm, c13, ↓reduceIte, Bool.false_eq_true], by rw [← hR, hst]; simp only [rvM, hvm, c13, ↓reduceIte, Bool.false_eq_true], rfl⟩)
          · have dc11 := c11
            rw [i_lt] at dc11
            have hvm : vmS ρ (nI k) = 999 := by simp only [vmS, c11, ↓reduceIte]
            refine lv_sipush (v := 999) hx hb dX7_readValues_36 (by decide) ?_
            refine lv_goto (tgt := 43) hx hb dX7_readValues_39 (by decide) ?_
            refine callv (y := yX7_readNumber) ⟨hx, hb, hml, hown, ht⟩ hK hN hP hS (k := 1) (c_X7_readNumber l D ca ad hI ρ τ (1 : Int32) (999 : Int32)) (by decide) (sh_read _ _) rfl ok_X7_readNumber gw_476 ⟨by decide, by decide⟩ rfl hl.1 rfl (Nat.le_of_ble_eq_true rfl) ⟨by decide, by decide⟩ dX7_readValues_43 (fun v_ S_ T_ H locs hp15 hP hS => ?_)
            obtain ⟨rfl, rfl, rfl⟩ := hp15
            try dsimp only [Option.toList, List.cons_append, List.nil_append]
            refine br_ne (tgt := 51) hx hb dX7_readValues_46 (by decide) (fun c16 => ?_) (fun c16 => ?_)
            · refine lv_aload_n hx hb dX7_readValues_51 rfl (lv_at hl 2 rfl) ?_
              refine lv_iload_n hx hb dX7_readValues_52 rfl (lv_at hl 0 rfl) ?_
              refine lv_aload_n hx hb dX7_readValues_53 rfl (lv_at hl 1 rfl) ?_
              refine fgetx hx hb ht inG7 hown hK hP (k := 1) (by decide) (x := ((rnM ρ (1 : Int32) (999 : Int32)) 1)) rfl (sh_read _ _) rfl 4 (by decide) gw_240 (v := .int (((rnM ρ (1 : Int32) (999 : Int32)) 1) 4)) rfl dX7_readValues_54 ?_
              refine lv_iconst (v := 2) hx hb dX7_readValues_57 (by decide) ?_
              refine callv (y := yX4_put) ⟨hx, hb, hml, hown, ht⟩ hK hN hP hS (k := (47 + 57 * b + 6 * i)) (c_X4_put l D ca ad hI (rnM ρ (1 : Int32) (999 : Int32)) τ hb2 hi (nI k) (((rnM ρ (1 : Int32) (999 : Int32)) 1) 4) (2 : Int32)) (by omega) (sh_indx _ _ hb2 hi) rfl ok_X4_put gw_577 ⟨by decide, by decide⟩ rfl hl.1 rfl (Nat.le_of_ble_eq_true rfl) ⟨by decide, by decide⟩ dX7_readValues_58 (fun v_ S_ T_ H locs hp17 hP hS => ?_)
              obtain ⟨rfl, rfl, rfl⟩ := hp17
              try dsimp only [Option.toList, List.cons_append, List.nil_append]
              refine lv_iinc (v := (nI k) + 1) (lv' := [(2, .int ((nI k) + 1)), (0, .ref (ad 1)), (1, .ref (ad (47 + 57 * b + 6 * i)))]) hx hb dX7_readValues_61 hl (k := 0) rfl rfl (by decide) rfl (fun ls hl => ?_)
              refine lv_goto (tgt := 2) hx hb dX7_readValues_64 (by decide) ?_
              rw [nI_1] at hl
              exact ih _ r' (k + 1) (by omega) (by omega) (by rw [← hR, hst]; simp only [rvM, hvm, c16, ↓reduceIte]) _ _ hP hS ls (lv_sub hl [0, 1, 2] rfl)
            · refine lv_iconst (v := 0) hx hb dX7_readValues_49 (by decide) ?_
              exact ret_z hx hb hr hlk hP hS dX7_readValues_50 (b := false) rfl (⟨by rw [← hR, hst]; simp only [hvm, c16, ↓reduceIte, Bool.false_eq_true], by rw [← hR, hst]; simp only [rvM, hvm, c16, ↓reduceIte, Bool.false_eq_true], rfl⟩)
set_option maxHeartbeats 4000000 in
set_option maxRecDepth 100000 in
theorem c_X7_readValues (l : Launch) (D : va_G) (ca : Nat → ClassId) (ad : Nat → Nat) (hI : Inj 158 ad) (σ : MI) (τ : ML) {b i : Nat} (hb2 : b < 2) (hi : i < 6) : CT l D (TY ca) 158 ad (cxf ca ad) yX7_readValues cX7_readValues 3 (some .boolean) 4 91 [.ref (ad 1), .ref (ad (47 + 57 * b + 6 * i))] σ τ (fun v_ S_ T_ => some (.int (b2i ((vsP σ b i).1))) = v_ ∧ ((vsP σ b i).2) = S_ ∧ τ = T_) := by
  refine CT.of (by decide) (Nat.le_of_ble_eq_true rfl) ?_
  intro p e s m args below meth c hx hb hr ht hown hlk hml hP hK hN hS ls hl
  have hl : lv_has ls 3 [(0, .ref (ad 1)), (1, .ref (ad (47 + 57 * b + 6 * i)))] := hl
  have hbz := bz_lt (σ 1 3)
  refine lv_iconst (v := 0) hx hb dX7_readValues_0 (by decide) ?_
  refine lv_istore_n (lv' := [(2, .int 0), (0, .ref (ad 1)), (1, .ref (ad (47 + 57 * b + 6 * i)))]) hx hb dX7_readValues_1 rfl hl (by decide) rfl (fun ls hl => ?_)
  exact lp_X7_values hI hb2 hi hx hb hr ht hown hlk hml hK hN 38 σ 37 0 (by omega) (by omega) rfl _ _ hP hS ls hl
set_option maxHeartbeats 4000000 in
set_option maxRecDepth 100000 in
theorem c_X7_readIndex (l : Launch) (D : va_G) (ca : Nat → ClassId) (ad : Nat → Nat) (hI : Inj 158 ad) (adK adV : Nat → Nat) (σ : MI) (τ : ML)  : CY l D (TY ca) 158 ad (cxf ca ad) adK adV yX7_readIndex cX7_readIndex 3 (some .boolean) 6 127 [.ref (ad 1)] σ τ (fun v_ S_ T_ => some (.int (b2i ((riP σ).1))) = v_ ∧ ((riP σ).2) = S_ ∧ τ = T_) := by
  refine CY.of (by decide) (Nat.le_of_ble_eq_true rfl) ?_
  intro p e s m args below meth c hx hb hr ht hown hlk hml hP hK hN hS ls hl hE
  have hl : lv_has ls 3 [(0, .ref (ad 1))] := hl
  have hbz := bz_lt (σ 1 3)
  refine lv_aload_n hx hb dX7_readIndex_0 rfl (lv_at hl 0 rfl) ?_
  refine fgetx hx hb ht inG7 hown hK hP (k := 1) (by decide) (x := (σ 1)) rfl (sh_read _ _) rfl 0 (by decide) gw_235 (v := .ref (ad 2)) rfl dX7_readIndex_1 ?_
  refine va_ldcS hx hb hown (hE.2.2.2 1 (by decide)) dX7_readIndex_4 ?_
  refine callvY (y := yX6_isWord) ⟨hx, hb, hml, hown, ht⟩ hK hN hE hP hS (k := 2) (c_X6_isWord l D ca ad hI adK adV σ τ (by decide)) (by decide) (sh_tape _ _) rfl ok_X6_isWord gw_419 ⟨by decide, by decide⟩ rfl hl.1 rfl (Nat.le_of_ble_eq_true rfl) ⟨by decide, by decide⟩ dX7_readIndex_6 (fun v_ S_ T_ H locs hp1 hP hS => ?_)
  obtain ⟨rfl, rfl, rfl⟩ := hp1
  try dsimp only [Option.toList, List.cons_append, List.nil_append]
  refine br_ne (tgt := 18) hx hb dX7_readIndex_9 (by decide) (fun c2 => ?_) (fun c2 => ?_)
  · refine lv_aload_n hx hb dX7_readIndex_18 rfl (lv_at hl 0 rfl) ?_
    refine fgetx hx hb ht inG7 hown hK hP (k := 1) (by decide) (x := (σ 1)) rfl (sh_read _ _) rfl 3 (by decide) gw_239 (v := .ref (ad (44 + 57 * (bz ((σ 1) 3))))) rfl dX7_readIndex_19 ?_
    refine fgetxN hx hb ht inG0 hown hK hP (k := (44 + 57 * (bz ((σ 1) 3)))) (by have b0_ : (bz ((σ 1) 3)) < 2 := (bz_lt _); omega) (x := (σ (44 + 57 * (bz ((σ 1) 3))))) rfl (sh_book _ _ (bz_lt _)) rfl 1 (by decide) (hN.get 218 nw_218 rfl) (v := .int ((σ (44 + 57 * (bz ((σ 1) 3)))) 1)) rfl dX7_readIndex_22 ?_
    refine lv_istore_n (lv' := [(1, .int ((σ (44 + 57 * (bz ((σ 1) 3)))) 1)), (0, .ref (ad 1))]) hx hb dX7_readIndex_25 rfl hl (by decide) rfl (fun ls hl => ?_)
    refine lv_aload_n hx hb dX7_readIndex_26 rfl (lv_at hl 1 rfl) ?_
    refine fgetx hx hb ht inG7 hown hK hP (k := 1) (by decide) (x := (σ 1)) rfl (sh_read _ _) rfl 3 (by decide) gw_239 (v := .ref (ad (44 + 57 * (bz ((σ 1) 3))))) rfl dX7_readIndex_27 ?_
    refine callv (y := yX0_addIndex) ⟨hx, hb, hml, hown, ht⟩ hK hN hP hS (k := (44 + 57 * (bz ((σ 1) 3)))) (c_X0_addIndex l D ca ad hI σ τ (bz_lt _)) (by have b0_ : (bz ((σ 1) 3)) < 2 := (bz_lt _); omega) (sh_book _ _ (bz_lt _)) rfl ok_X0_addIndex gw_561 ⟨by decide, by decide⟩ rfl hl.1 rfl (Nat.le_of_ble_eq_true rfl) ⟨by decide, by decide⟩ dX7_readIndex_30 (fun v_ S_ T_ H locs hp3 hP hS => ?_)
    rcases hp3 with ⟨hp3, rfl, rfl, rfl⟩ | ⟨hp3, rfl, rfl, rfl⟩
    · try dsimp only [Option.toList, List.cons_append, List.nil_append]
      refine lv_astore_nN (lv' := [(2, .null), (1, .int ((σ (44 + 57 * (bz ((σ 1) 3)))) 1)), (0, .ref (ad 1))]) hx hb dX7_readIndex_33 rfl hl (by decide) rfl (fun ls hl => ?_)
      refine lv_aload_nN hx hb dX7_readIndex_34 rfl (lv_at hl 0 rfl) ?_
      refine lv_ifnonnullN hx hb dX7_readIndex_35 ?_
      refine lv_aload_n hx hb dX7_readIndex_38 rfl (lv_at hl 2 rfl) ?_
      refine lv_iconst (v := 4) hx hb dX7_readIndex_39 (by decide) ?_
      refine callv (y := yX7_refuse) ⟨hx, hb, hml, hown, ht⟩ hK hN hP hS (k := 1) (c_X7_refuse l D ca ad hI σ τ (4 : Int32)) (by decide) (sh_read _ _) rfl ok_X7_refuse gw_471 ⟨by decide, by decide⟩ rfl hl.1 rfl (Nat.le_of_ble_eq_true rfl) ⟨by decide, by decide⟩ dX7_readIndex_40 (fun v_ S_ T_ H locs hp4 hP hS => ?_)
      obtain ⟨rfl, rfl, rfl⟩ := hp4
      try dsimp only [Option.toList, List.cons_append, List.nil_append]
      exact ret_z hx hb hr hlk hP hS dX7_readIndex_43 (b := false) rfl (⟨by first | with_reducible rfl | (simp only [riP, riA, riK, c2, hp3, ↓reduceIte, Bool.false_eq_true]; done) | (simp only [riP, riA, riK, c2, hp3, ↓reduceIte, Bool.false_eq_true]; rfl) | rfl, by first | with_reducible rfl | (simp only [riP, riA, riK, c2, hp3, ↓reduceIte, Bool.false_eq_true]; done) | (simp only [riP, riA, riK, c2, hp3, ↓reduceIte, Bool.false_eq_true]; rfl) | rfl, rfl⟩)
    · try dsimp only [Option.toList, List.cons_append, List.nil_append]
      have hXhp3 := (inL_6 hp3)
      refine lv_astore_n (lv' := [(2, .ref (ad (47 + 57 * (bz ((σ 1) 3)) + 6 * (σ (44 + 57 * (bz ((σ 1) 3))) 1).toNatClampNeg))), (1, .int ((σ (44 + 57 * (bz ((σ 1) 3)))) 1)), (0, .ref (ad 1))]) hx hb dX7_readIndex_33 rfl hl (by decide) rfl (fun ls hl => ?_)
      refine lv_aload_n hx hb dX7_readIndex_34 rfl (lv_at hl 0 rfl) ?_
      refine lv_ifnonnull (tgt := 44) hx hb dX7_readIndex_35 (by decide) ?_
      refine lv_aload_n hx hb dX7_readIndex_44 rfl (lv_at hl 2 rfl) ?_
      refine fgetx hx hb ht inG7 hown hK hP (k := 1) (by decide) (x := (σ 1)) (aiS_lo _ (by omega)) (sh_read _ _) rfl 0 (by decide) gw_235 (v := .ref (ad 2)) rfl dX7_readIndex_45 ?_
      refine callv (y := yX6_advance) ⟨hx, hb, hml, hown, ht⟩ hK hN hP hS (k := 2) (c_X6_advance l D ca ad hI (aiS σ (bz ((σ 1) 3))) τ ) (by decide) (sh_tape _ _) rfl ok_X6_advance gw_475 ⟨by decide, by decide⟩ rfl hl.1 rfl (Nat.le_of_ble_eq_true rfl) ⟨by decide, by decide⟩ dX7_readIndex_48 (fun v_ S_ T_ H locs hp5 hP hS => ?_)
      obtain ⟨rfl, rfl, rfl⟩ := hp5
      try dsimp only [Option.toList, List.cons_append, List.nil_append]
      refine lv_aload_n hx hb dX7_readIndex_51 rfl (lv_at hl 2 rfl) ?_
      refine callvY (y := yX7_isName) ⟨hx, hb, hml, hown, ht⟩ hK hN hE hP hS (k := 1) (c_X7_isName l D ca ad hI adK adV (adS (aiS σ (bz ((σ 1) 3)))) τ ) (by decide) (sh_read _ _) rfl ok_X7_isName gw_505 ⟨by decide, by decide⟩ rfl hl.1 rfl (Nat.le_of_ble_eq_true rfl) ⟨by decide, by decide⟩ dX7_readIndex_52 (fun v_ S_ T_ H locs hp6 hP hS => ?_)
      obtain ⟨rfl, rfl, rfl⟩ := hp6
      try dsimp only [Option.toList, List.cons_append, List.nil_append]
      refine br_ne (tgt := 64) hx hb dX7_readIndex_55 (by decide) (fun c7 => ?_) (fun c7 => ?_)
      · refine lv_aload_n hx hb dX7_readIndex_64 rfl (lv_at hl 2 rfl) ?_
        refine lv_iload_n hx hb dX7_readIndex_65 rfl (lv_at hl 1 rfl) ?_
        refine callv (y := yX7_indexNamed) ⟨hx, hb, hml, hown, ht⟩ hK hN hP hS (k := 1) (c_X7_indexNamed l D ca ad hI (adS (aiS σ (bz ((σ 1) 3)))) τ ((σ (44 + 57 * (bz ((σ 1) 3)))) 1)) (by decide) (sh_read _ _) rfl ok_X7_indexNamed gw_514 ⟨by decide, by decide⟩ rfl hl.1 rfl (Nat.le_of_ble_eq_true rfl) ⟨by decide, by decide⟩ dX7_readIndex_66 (fun v_ S_ T_ H locs hp8 hP hS => ?_)
        obtain ⟨rfl, rfl, rfl⟩ := hp8
        try dsimp only [Option.toList, List.cons_append, List.nil_append]
        refine lv_iconst (v := -1) hx hb dX7_readIndex_69 (by decide) ?_
        refine lv_icmp_eq (tgt := 79) hx hb dX7_readIndex_70 (by decide) (fun c9 => ?_) (fun c9 => ?_)
        · have dc9 := c9
          rw [i_eq] at dc9
          refine lv_aload_n hx hb dX7_readIndex_79 rfl (lv_at hl 2 rfl) ?_
          refine lv_iload_n hx hb dX7_readIndex_80 rfl (lv_at hl 1 rfl) ?_
          refine callv (y := yX7_keepName) ⟨hx, hb, hml, hown, ht⟩ hK hN hP hS (k := 1) (c_X7_keepName l D ca ad hI (adS (aiS σ (bz ((σ 1) 3)))) τ ((σ (44 + 57 * (bz ((σ 1) 3)))) 1)) (by decide) (sh_read _ _) rfl ok_X7_keepName gw_569 ⟨by decide, by decide⟩ rfl hl.1 rfl (Nat.le_of_ble_eq_true rfl) ⟨by decide, by decide⟩ dX7_readIndex_81 (fun v_ S_ T_ H locs hp10 hP hS => ?_)
          obtain ⟨rfl, rfl, rfl⟩ := hp10
          try dsimp only [Option.toList, List.cons_append, List.nil_append]
          refine lv_aload_n hx hb dX7_readIndex_84 rfl (lv_at hl 2 rfl) ?_
          refine fgetx hx hb ht inG7 hown hK hP (k := 1) (by decide) (x := (σ 1)) ((kpM_ne _ _ (by omega) (by omega)).trans ((adS_ne _ (by omega)).trans (aiS_lo _ (by omega)))) (sh_read _ _) rfl 0 (by decide) gw_235 (v := .ref (ad 2)) rfl dX7_readIndex_85 ?_
          refine callv (y := yX6_advance) ⟨hx, hb, hml, hown, ht⟩ hK hN hP hS (k := 2) (c_X6_advance l D ca ad hI (kpM (adS (aiS σ (bz ((σ 1) 3)))) ((σ (44 + 57 * (bz ((σ 1) 3)))) 1)) τ ) (by decide) (sh_tape _ _) rfl ok_X6_advance gw_475 ⟨by decide, by decide⟩ rfl hl.1 rfl (Nat.le_of_ble_eq_true rfl) ⟨by decide, by decide⟩ dX7_readIndex_88 (fun v_ S_ T_ H locs hp11 hP hS => ?_)
          obtain ⟨rfl, rfl, rfl⟩ := hp11
          try dsimp only [Option.toList, List.cons_append, List.nil_append]
          refine lv_aload_n hx hb dX7_readIndex_91 rfl (lv_at hl 2 rfl) ?_
          refine lv_aload_n hx hb dX7_readIndex_92 rfl (lv_at hl 0 rfl) ?_
          refine callv (y := yX7_readValues) ⟨hx, hb, hml, hown, ht⟩ hK hN hP hS (k := 1) (c_X7_readValues l D ca ad hI (adS (kpM (adS (aiS σ (bz ((σ 1) 3)))) ((σ (44 + 57 * (bz ((σ 1) 3)))) 1))) τ (bz_lt _) (inL_6 hp3)) (by decide) (sh_read _ _) rfl ok_X7_readValues gw_573 ⟨by decide, by decide⟩ rfl hl.1 rfl (Nat.le_of_ble_eq_true rfl) ⟨by decide, by decide⟩ dX7_readIndex_93 (fun v_ S_ T_ H locs hp12 hP hS => ?_)
          obtain ⟨rfl, rfl, rfl⟩ := hp12
          try dsimp only [Option.toList, List.cons_append, List.nil_append]
          exact ret_z hx hb hr hlk hP hS dX7_readIndex_96 (b := ((vsP (adS (kpM (adS (aiS σ (bz ((σ 1) 3)))) ((σ (44 + 57 * (bz ((σ 1) 3)))) 1))) (bz ((σ 1) 3)) ((σ (44 + 57 * (bz ((σ 1) 3))) 1).toNatClampNeg)).1)) rfl (⟨by first | with_reducible rfl | (simp only [riP, riA, riK, c2, hp3, c7, c9, ↓reduceIte, Bool.false_eq_true]; done) | (simp only [riP, riA, riK, c2, hp3, c7, c9, ↓reduceIte, Bool.false_eq_true]; rfl) | rfl, by first | with_reducible rfl | (simp only [riP, riA, riK, c2, hp3, c7, c9, ↓reduceIte, Bool.false_eq_true]; done) | (simp only [riP, riA, riK, c2, hp3, c7, c9, ↓reduceIte, Bool.false_eq_true]; rfl) | rfl, rfl⟩)
        · have dc9 := c9
          rw [i_eq] at dc9
          refine lv_aload_n hx hb dX7_readIndex_73 rfl (lv_at hl 2 rfl) ?_
          refine lv_iconst (v := 3) hx hb dX7_readIndex_74 (by decide) ?_
          refine callv (y := yX7_refuse) ⟨hx, hb, hml, hown, ht⟩ hK hN hP hS (k := 1) (c_X7_refuse l D ca ad hI (adS (aiS σ (bz ((σ 1) 3)))) τ (3 : Int32)) (by decide) (sh_read _ _) rfl ok_X7_refuse gw_471 ⟨by decide, by decide⟩ rfl hl.1 rfl (Nat.le_of_ble_eq_true rfl) ⟨by decide, by decide⟩ dX7_readIndex_75 (fun v_ S_ T_ H locs hp13 hP hS => ?_)
          obtain ⟨rfl, rfl, rfl⟩ := hp13
          try dsimp only [Option.toList, List.cons_append, List.nil_append]
          exact ret_z hx hb hr hlk hP hS dX7_readIndex_78 (b := false) rfl (⟨by first | with_reducible rfl | (simp only [riP, riA, riK, c2, hp3, c7, c9, ↓reduceIte, Bool.false_eq_true]; done) | (simp only [riP, riA, riK, c2, hp3, c7, c9, ↓reduceIte, Bool.false_eq_true]; rfl) | rfl, by first | with_reducible rfl | (simp only [riP, riA, riK, c2, hp3, c7, c9, ↓reduceIte, Bool.false_eq_true]; done) | (simp only [riP, riA, riK, c2, hp3, c7, c9, ↓reduceIte, Bool.false_eq_true]; rfl) | rfl, rfl⟩)
      · refine lv_aload_n hx hb dX7_readIndex_58 rfl (lv_at hl 2 rfl) ?_
        refine lv_iconst (v := 1) hx hb dX7_readIndex_59 (by decide) ?_
        refine callv (y := yX7_refuse) ⟨hx, hb, hml, hown, ht⟩ hK hN hP hS (k := 1) (c_X7_refuse l D ca ad hI (adS (aiS σ (bz ((σ 1) 3)))) τ (1 : Int32)) (by decide) (sh_read _ _) rfl ok_X7_refuse gw_471 ⟨by decide, by decide⟩ rfl hl.1 rfl (Nat.le_of_ble_eq_true rfl) ⟨by decide, by decide⟩ dX7_readIndex_60 (fun v_ S_ T_ H locs hp14 hP hS => ?_)
        obtain ⟨rfl, rfl, rfl⟩ := hp14
        try dsimp only [Option.toList, List.cons_append, List.nil_append]
        exact ret_z hx hb hr hlk hP hS dX7_readIndex_63 (b := false) rfl (⟨by first | with_reducible rfl | (simp only [riP, riA, riK, c2, hp3, c7, ↓reduceIte, Bool.false_eq_true]; done) | (simp only [riP, riA, riK, c2, hp3, c7, ↓reduceIte, Bool.false_eq_true]; rfl) | rfl, by first | with_reducible rfl | (simp only [riP, riA, riK, c2, hp3, c7, ↓reduceIte, Bool.false_eq_true]; done) | (simp only [riP, riA, riK, c2, hp3, c7, ↓reduceIte, Bool.false_eq_true]; rfl) | rfl, rfl⟩)
  · refine lv_aload_n hx hb dX7_readIndex_12 rfl (lv_at hl 0 rfl) ?_
    refine lv_iconst (v := 1) hx hb dX7_readIndex_13 (by decide) ?_
    refine callv (y := yX7_refuse) ⟨hx, hb, hml, hown, ht⟩ hK hN hP hS (k := 1) (c_X7_refuse l D ca ad hI σ τ (1 : Int32)) (by decide) (sh_read _ _) rfl ok_X7_refuse gw_471 ⟨by decide, by decide⟩ rfl hl.1 rfl (Nat.le_of_ble_eq_true rfl) ⟨by decide, by decide⟩ dX7_readIndex_14 (fun v_ S_ T_ H locs hp15 hP hS => ?_)
    obtain ⟨rfl, rfl, rfl⟩ := hp15
    try dsimp only [Option.toList, List.cons_append, List.nil_append]
    exact ret_z hx hb hr hlk hP hS dX7_readIndex_17 (b := false) rfl (⟨by first | with_reducible rfl | (simp only [riP, riA, riK, c2, ↓reduceIte, Bool.false_eq_true]; done) | (simp only [riP, riA, riK, c2, ↓reduceIte, Bool.false_eq_true]; rfl) | rfl, by first | with_reducible rfl | (simp only [riP, riA, riK, c2, ↓reduceIte, Bool.false_eq_true]; done) | (simp only [riP, riA, riK, c2, ↓reduceIte, Bool.false_eq_true]; rfl) | rfl, rfl⟩)
set_option maxHeartbeats 4000000 in
set_option maxRecDepth 100000 in
theorem lp_X7_terms {l : Launch} {D : va_G} {ca : Nat → ClassId} {ad : Nat → Nat} (hI : Inj 158 ad) {adK adV : Nat → Nat} {σ : MI} {τ : ML} {b i : Nat} (hb2 : b < 2) (hi : i < 6) {p : Program} {e : Env} {s : State} {m : MethodId} {args : Array Value} {below : List Frame} {meth : Method} {c : Code} (hx : p.tables.exec = Jvm.exec) (hb : c.code = cX7_readTerms) (hr : meth.sig.returnType = (some .boolean)) (ht : ∀ w ∈ GG, w.before args s = true) (hown : s.vm.findClass yX7_readTerms.cls = some m.cls) (hlk : meth.locks = false) (hml : c.maxLocals = 4) (hK : va_K D vwCl (TY ca) s) (hN : NW s) (hE : SCx adK adV (AA 158 ad) s s.heap) : ∀ (n : Nat) (ρ : MI) (r k : Nat) (hk : k + r = 7) (hn : r < n) (hR : rtL b i r ρ = rtL b i 7 σ) (H : Heap) (locs : List Loc) (hP : PW D 158 ad (cxf ca ad) ρ τ H) (hS : va_S (AA 158 ad) s.heap H locs) (ls : Array Slot) (hl : lv_has ls 4 [(2, .int (nI k)), (0, .ref (ad 1)), (1, .ref (ad (83 + 57 * b + 3 * i)))]), W p l e { frames := 6, cells := 0, slots := 0, locals := 127 } s m args below meth c H locs 0 0 (MQ below (QD D 158 ad (cxf ca ad) (fun v_ S_ T_ => some (.int (b2i ((rtL b i 7 σ).1))) = v_ ∧ ((rtL b i 7 σ).2) = S_ ∧ τ = T_)) args s 0 0 (AA 158 ad)) (F0 m 2 ls []) := by
  intro n
  induction n with
  | zero => intro ρ r k hk hn hR H locs hP hS ls hl; exfalso; omega
  | succ n ih =>
    intro ρ r k hk hn hR H locs hP hS ls hl
    have e6 : (6 : Int32).toInt = 6 := rfl
    have ek : (nI k).toInt = k := nI_toInt (by omega)
    have hbz := bz_lt (ρ 1 3)
    refine lv_iload_n hx hb dX7_readTerms_2 rfl (lv_at hl 0 rfl) ?_
    refine lv_bipush (v := 6) hx hb dX7_readTerms_3 (by decide) ?_
    refine lv_icmp_gt (tgt := 106) hx hb dX7_readTerms_5 (by decide) (fun c1 => ?_) (fun c1 => ?_)
    · have dc1 := c1
      rw [i_lt] at dc1
      obtain rfl : r = 0 := by omega
      refine lv_iconst (v := 1) hx hb dX7_readTerms_106 (by decide) ?_
      exact ret_z hx hb hr hlk hP hS dX7_readTerms_107 (b := true) rfl (⟨by rw [← hR]; first | rfl | (simp only [rtL, ↓reduceIte, Bool.false_eq_true, rtN, rtX]), by rw [← hR]; first | rfl | (simp only [rtL, ↓reduceIte, Bool.false_eq_true, rtN, rtX]), rfl⟩)
    · have dc1 := c1
      rw [i_lt] at dc1
      obtain ⟨r', rfl⟩ : ∃ r', r = r' + 1 := ⟨r - 1, by omega⟩
      refine lv_aload_n hx hb dX7_readTerms_8 rfl (lv_at hl 1 rfl) ?_
      refine fgetx hx hb ht inG7 hown hK hP (k := 1) (by decide) (x := (ρ 1)) rfl (sh_read _ _) rfl 0 (by decide) gw_235 (v := .ref (ad 2)) rfl dX7_readTerms_9 ?_
      refine lv_bipush (v := 43) hx hb dX7_readTerms_12 (by decide) ?_
      refine callv (y := yX6_isSign) ⟨hx, hb, hml, hown, ht⟩ hK hN hP hS (k := 2) (c_X6_isSign l D ca ad hI ρ τ (43 : Int32)) (by decide) (sh_tape _ _) rfl ok_X6_isSign gw_497 ⟨by decide, by decide⟩ rfl hl.1 rfl (Nat.le_of_ble_eq_true rfl) ⟨by decide, by decide⟩ dX7_readTerms_14 (fun v_ S_ T_ H locs hp2 hP hS => ?_)
      obtain ⟨rfl, rfl, rfl⟩ := hp2
      try dsimp only [Option.toList, List.cons_append, List.nil_append]
      refine br_eq (tgt := 106) hx hb dX7_readTerms_17 (by decide) (fun c3 => ?_) (fun c3 => ?_)
      · refine lv_iconst (v := 1) hx hb dX7_readTerms_106 (by decide) ?_
        exact ret_z hx hb hr hlk hP hS dX7_readTerms_107 (b := true) rfl (⟨by rw [← hR]; first | rfl | (simp only [rtL, c3, ↓reduceIte, Bool.false_eq_true, rtN, rtX]), by rw [← hR]; first | rfl | (simp only [rtL, c3, ↓reduceIte, Bool.false_eq_true, rtN, rtX]), rfl⟩)
      · refine lv_aload_n hx hb dX7_readTerms_20 rfl (lv_at hl 1 rfl) ?_
        refine fgetx hx hb ht inG7 hown hK hP (k := 1) (by decide) (x := (ρ 1)) rfl (sh_read _ _) rfl 0 (by decide) gw_235 (v := .ref (ad 2)) rfl dX7_readTerms_21 ?_
        refine callv (y := yX6_advance) ⟨hx, hb, hml, hown, ht⟩ hK hN hP hS (k := 2) (c_X6_advance l D ca ad hI ρ τ ) (by decide) (sh_tape _ _) rfl ok_X6_advance gw_475 ⟨by decide, by decide⟩ rfl hl.1 rfl (Nat.le_of_ble_eq_true rfl) ⟨by decide, by decide⟩ dX7_readTerms_24 (fun v_ S_ T_ H locs hp4 hP hS => ?_)
        obtain ⟨rfl, rfl, rfl⟩ := hp4
        try dsimp only [Option.toList, List.cons_append, List.nil_append]
        refine lv_aload_n hx hb dX7_readTerms_27 rfl (lv_at hl 1 rfl) ?_
        refine lv_iconst (v := 0) hx hb dX7_readTerms_28 (by decide) ?_
        refine lv_sipush (v := 1000) hx hb dX7_readTerms_29 (by decide) ?_
        refine callv (y := yX7_readNumber) ⟨hx, hb, hml, hown, ht⟩ hK hN hP hS (k := 1) (c_X7_readNumber l D ca ad hI (adS ρ) τ (0 : Int32) (1000 : Int32)) (by decide) (sh_read _ _) rfl ok_X7_readNumber gw_476 ⟨by decide, by decide⟩ rfl hl.1 rfl (Nat.le_of_ble_eq_true rfl) ⟨by decide, by decide⟩ dX7_readTerms_32 (fun v_ S_ T_ H locs hp5 hP hS => ?_)
        obtain ⟨rfl, rfl, rfl⟩ := hp5
        try dsimp only [Option.toList, List.cons_append, List.nil_append]
        refine br_ne (tgt := 40) hx hb dX7_readTerms_35 (by decide) (fun c6 => ?_) (fun c6 => ?_)
        · refine lv_aload_n hx hb dX7_readTerms_40 rfl (lv_at hl 1 rfl) ?_
          refine callvY (y := yX7_isName) ⟨hx, hb, hml, hown, ht⟩ hK hN hE hP hS (k := 1) (c_X7_isName l D ca ad hI adK adV (rnM (adS ρ) (0 : Int32) (1000 : Int32)) τ ) (by decide) (sh_read _ _) rfl ok_X7_isName gw_505 ⟨by decide, by decide⟩ rfl hl.1 rfl (Nat.le_of_ble_eq_true rfl) ⟨by decide, by decide⟩ dX7_readTerms_41 (fun v_ S_ T_ H locs hp7 hP hS => ?_)
          obtain ⟨rfl, rfl, rfl⟩ := hp7
          try dsimp only [Option.toList, List.cons_append, List.nil_append]
          refine br_ne (tgt := 53) hx hb dX7_readTerms_44 (by decide) (fun c8 => ?_) (fun c8 => ?_)
          · refine lv_aload_n hx hb dX7_readTerms_53 rfl (lv_at hl 1 rfl) ?_
            refine lv_aload_n hx hb dX7_readTerms_54 rfl (lv_at hl 1 rfl) ?_
            refine fgetx hx hb ht inG7 hown hK hP (k := 1) (by decide) (x := ((rnM (adS ρ) (0 : Int32) (1000 : Int32)) 1)) rfl (sh_read _ _) rfl 3 (by decide) gw_239 (v := .ref (ad (44 + 57 * (bz (ρ 1 3))))) (congrArg (fun z => some (Value.ref (ad (44 + 57 * bz z)))) (show ((rnM (adS ρ) (0 : Int32) (1000 : Int32)) 1) 3 = ρ 1 3 from (by rw [rd3_rn, rd3_ad]))) dX7_readTerms_55 ?_
            refine fgetxN hx hb ht inG0 hown hK hP (k := (44 + 57 * (bz (ρ 1 3)))) (by have b0_ : (bz (ρ 1 3)) < 2 := (bz_lt _); omega) (x := (ρ (44 + 57 * (bz (ρ 1 3))))) ((rnM_ne _ _ _ (by omega) (by omega)).trans (adS_ne _ (by omega))) (sh_book _ _ (bz_lt _)) rfl 1 (by decide) (hN.get 218 nw_218 rfl) (v := .int ((ρ (44 + 57 * (bz (ρ 1 3)))) 1)) rfl dX7_readTerms_58 ?_
            refine callv (y := yX7_indexNamed) ⟨hx, hb, hml, hown, ht⟩ hK hN hP hS (k := 1) (c_X7_indexNamed l D ca ad hI (rnM (adS ρ) (0 : Int32) (1000 : Int32)) τ ((ρ (44 + 57 * (bz (ρ 1 3)))) 1)) (by decide) (sh_read _ _) rfl ok_X7_indexNamed gw_514 ⟨by decide, by decide⟩ rfl hl.1 rfl (Nat.le_of_ble_eq_true rfl) ⟨by decide, by decide⟩ dX7_readTerms_61 (fun v_ S_ T_ H locs hp9 hP hS => ?_)
            obtain ⟨rfl, rfl, rfl⟩ := hp9
            try dsimp only [Option.toList, List.cons_append, List.nil_append]
            refine lv_istore_n (lv' := [(3, .int (ixN (rnM (adS ρ) (0 : Int32) (1000 : Int32)) ((ρ (44 + 57 * (bz (ρ 1 3)))) 1))), (2, .int (nI k)), (0, .ref (ad 1)), (1, .ref (ad (83 + 57 * b + 3 * i)))]) hx hb dX7_readTerms_64 rfl hl (by decide) rfl (fun ls hl => ?_)
            refine lv_iload_n hx hb dX7_readTerms_65 rfl (lv_at hl 0 rfl) ?_
            refine lv_iconst (v := -1) hx hb dX7_readTerms_66 (by decide) ?_
            refine lv_icmp_eq (tgt := 78) hx hb dX7_readTerms_67 (by decide) (fun c10 => ?_) (fun c10 => ?_)
            · have dc10 := c10
              rw [i_eq] at dc10
              refine lv_aload_n hx hb dX7_readTerms_78 rfl (lv_at hl 2 rfl) ?_
              refine lv_iconst (v := 3) hx hb dX7_readTerms_79 (by decide) ?_
              refine callv (y := yX7_refuse) ⟨hx, hb, hml, hown, ht⟩ hK hN hP hS (k := 1) (c_X7_refuse l D ca ad hI (rnM (adS ρ) (0 : Int32) (1000 : Int32)) τ (3 : Int32)) (by decide) (sh_read _ _) rfl ok_X7_refuse gw_471 ⟨by decide, by decide⟩ rfl hl.1 rfl (Nat.le_of_ble_eq_true rfl) ⟨by decide, by decide⟩ dX7_readTerms_80 (fun v_ S_ T_ H locs hp11 hP hS => ?_)
              obtain ⟨rfl, rfl, rfl⟩ := hp11
              try dsimp only [Option.toList, List.cons_append, List.nil_append]
              exact ret_z hx hb hr hlk hP hS dX7_readTerms_83 (b := false) rfl (⟨by rw [← hR]; first | rfl | (simp only [rtL, c3, c6, c8, (eq_true c10), ↓reduceIte, Bool.false_eq_true, rtN, rtX]), by rw [← hR]; first | rfl | (simp only [rtL, c3, c6, c8, (eq_true c10), ↓reduceIte, Bool.false_eq_true, rtN, rtX]), rfl⟩)
            · have dc10 := c10
              rw [i_eq] at dc10
              refine lv_aload_n hx hb dX7_readTerms_70 rfl (lv_at hl 3 rfl) ?_
              refine lv_iload_n hx hb dX7_readTerms_71 rfl (lv_at hl 0 rfl) ?_
              refine callv (y := yX1_usesIndex) ⟨hx, hb, hml, hown, ht⟩ hK hN hP hS (k := (83 + 57 * b + 3 * i)) (c_X1_usesIndex l D ca ad hI (rnM (adS ρ) (0 : Int32) (1000 : Int32)) τ hb2 hi (ixN (rnM (adS ρ) (0 : Int32) (1000 : Int32)) ((ρ (44 + 57 * (bz (ρ 1 3)))) 1))) (by omega) (sh_cont _ _ hb2 hi) rfl ok_X1_usesIndex gw_522 ⟨by decide, by decide⟩ rfl hl.1 rfl (Nat.le_of_ble_eq_true rfl) ⟨by decide, by decide⟩ dX7_readTerms_72 (fun v_ S_ T_ H locs hp12 hP hS => ?_)
              obtain ⟨rfl, rfl, rfl⟩ := hp12
              try dsimp only [Option.toList, List.cons_append, List.nil_append]
              refine stk_i (v := (b2i (anyS ((ρ (85 + 57 * b + 3 * i))) (ixN (rnM (adS ρ) (0 : Int32) (1000 : Int32)) ((ρ (44 + 57 * (bz (ρ 1 3)))) 1)) (kmin ((ρ (83 + 57 * b + 3 * i)) 6) 6)))) (by first | (rw [(show (rnM (adS ρ) (0 : Int32) (1000 : Int32)) (85 + 57 * b + 3 * i) = (ρ (85 + 57 * b + 3 * i)) from ((rnM_ne _ _ _ (by omega) (by omega)).trans (adS_ne _ (by omega)))), (show (rnM (adS ρ) (0 : Int32) (1000 : Int32)) (83 + 57 * b + 3 * i) = (ρ (83 + 57 * b + 3 * i)) from ((rnM_ne _ _ _ (by omega) (by omega)).trans (adS_ne _ (by omega))))]; done) | (rw [(show (rnM (adS ρ) (0 : Int32) (1000 : Int32)) (85 + 57 * b + 3 * i) = (ρ (85 + 57 * b + 3 * i)) from ((rnM_ne _ _ _ (by omega) (by omega)).trans (adS_ne _ (by omega)))), (show (rnM (adS ρ) (0 : Int32) (1000 : Int32)) (83 + 57 * b + 3 * i) = (ρ (83 + 57 * b + 3 * i)) from ((rnM_ne _ _ _ (by omega) (by omega)).trans (adS_ne _ (by omega))))]; rfl)) ?_
              refine br_eq (tgt := 84) hx hb dX7_readTerms_75 (by decide) (fun c13 => ?_) (fun c13 => ?_)
              · refine lv_aload_n hx hb dX7_readTerms_84 rfl (lv_at hl 3 rfl) ?_
                refine lv_aload_n hx hb dX7_readTerms_85 rfl (lv_at hl 2 rfl) ?_
                refine fgetx hx hb ht inG7 hown hK hP (k := 1) (by decide) (x := ((rnM (adS ρ) (0 : Int32) (1000 : Int32)) 1)) rfl (sh_read _ _) rfl 4 (by decide) gw_240 (v := .int (((rnM (adS ρ) (0 : Int32) (1000 : Int32)) 1) 4)) rfl dX7_readTerms_86 ?_
                refine lv_iload_n hx hb dX7_readTerms_89 rfl (lv_at hl 0 rfl) ?_
                refine callv (y := yX1_addTerm) ⟨hx, hb, hml, hown, ht⟩ hK hN hP hS (k := (83 + 57 * b + 3 * i)) (c_X1_addTerm l D ca ad hI (rnM (adS ρ) (0 : Int32) (1000 : Int32)) τ hb2 hi (((rnM (adS ρ) (0 : Int32) (1000 : Int32)) 1) 4) (ixN (rnM (adS ρ) (0 : Int32) (1000 : Int32)) ((ρ (44 + 57 * (bz (ρ 1 3)))) 1))) (by omega) (sh_cont _ _ hb2 hi) rfl ok_X1_addTerm gw_526 ⟨by decide, by decide⟩ rfl hl.1 rfl (Nat.le_of_ble_eq_true rfl) ⟨by decide, by decide⟩ dX7_readTerms_90 (fun v_ S_ T_ H locs hp14 hP hS => ?_)
                obtain ⟨rfl, rfl, rfl⟩ := hp14
                try dsimp only [Option.toList, List.cons_append, List.nil_append]
                refine lv_aload_n hx hb dX7_readTerms_93 rfl (lv_at hl 2 rfl) ?_
                refine fgetx hx hb ht inG7 hown hK hP (k := 1) (by decide) (x := ((rnM (adS ρ) (0 : Int32) (1000 : Int32)) 1)) (addTS_lo _ _ _ (by omega)) (sh_read _ _) rfl 0 (by decide) gw_235 (v := .ref (ad 2)) rfl dX7_readTerms_94 ?_
                refine callv (y := yX6_advance) ⟨hx, hb, hml, hown, ht⟩ hK hN hP hS (k := 2) (c_X6_advance l D ca ad hI (addTS (rnM (adS ρ) (0 : Int32) (1000 : Int32)) b i (((rnM (adS ρ) (0 : Int32) (1000 : Int32)) 1) 4) (ixN (rnM (adS ρ) (0 : Int32) (1000 : Int32)) ((ρ (44 + 57 * (bz (ρ 1 3)))) 1))) τ ) (by decide) (sh_tape _ _) rfl ok_X6_advance gw_475 ⟨by decide, by decide⟩ rfl hl.1 rfl (Nat.le_of_ble_eq_true rfl) ⟨by decide, by decide⟩ dX7_readTerms_97 (fun v_ S_ T_ H locs hp15 hP hS => ?_)
                obtain ⟨rfl, rfl, rfl⟩ := hp15
                try dsimp only [Option.toList, List.cons_append, List.nil_append]
                refine lv_iinc (v := (nI k) + 1) (lv' := [(2, .int ((nI k) + 1)), (3, .int (ixN (rnM (adS ρ) (0 : Int32) (1000 : Int32)) ((ρ (44 + 57 * (bz (ρ 1 3)))) 1))), (0, .ref (ad 1)), (1, .ref (ad (83 + 57 * b + 3 * i)))]) hx hb dX7_readTerms_100 hl (k := 1) rfl rfl (by decide) rfl (fun ls hl => ?_)
                refine lv_goto (tgt := 2) hx hb dX7_readTerms_103 (by decide) ?_
                rw [nI_1] at hl
                exact ih _ r' (k + 1) (by omega) (by omega) (by rw [← hR]; simp only [rtL, c3, c6, c8, c10, c13, ↓reduceIte, Bool.false_eq_true, rtN, rtX]) _ _ hP hS ls (lv_sub hl [0, 2, 3] rfl)
              · refine lv_aload_n hx hb dX7_readTerms_78 rfl (lv_at hl 2 rfl) ?_
                refine lv_iconst (v := 3) hx hb dX7_readTerms_79 (by decide) ?_
                refine callv (y := yX7_refuse) ⟨hx, hb, hml, hown, ht⟩ hK hN hP hS (k := 1) (c_X7_refuse l D ca ad hI (rnM (adS ρ) (0 : Int32) (1000 : Int32)) τ (3 : Int32)) (by decide) (sh_read _ _) rfl ok_X7_refuse gw_471 ⟨by decide, by decide⟩ rfl hl.1 rfl (Nat.le_of_ble_eq_true rfl) ⟨by decide, by decide⟩ dX7_readTerms_80 (fun v_ S_ T_ H locs hp16 hP hS => ?_)
                obtain ⟨rfl, rfl, rfl⟩ := hp16
                try dsimp only [Option.toList, List.cons_append, List.nil_append]
                exact ret_z hx hb hr hlk hP hS dX7_readTerms_83 (b := false) rfl (⟨by rw [← hR]; first | rfl | (simp only [rtL, c3, c6, c8, c10, c13, ↓reduceIte, Bool.false_eq_true, rtN, rtX]), by rw [← hR]; first | rfl | (simp only [rtL, c3, c6, c8, c10, c13, ↓reduceIte, Bool.false_eq_true, rtN, rtX]), rfl⟩)
          · refine lv_aload_n hx hb dX7_readTerms_47 rfl (lv_at hl 1 rfl) ?_
            refine lv_iconst (v := 1) hx hb dX7_readTerms_48 (by decide) ?_
            refine callv (y := yX7_refuse) ⟨hx, hb, hml, hown, ht⟩ hK hN hP hS (k := 1) (c_X7_refuse l D ca ad hI (rnM (adS ρ) (0 : Int32) (1000 : Int32)) τ (1 : Int32)) (by decide) (sh_read _ _) rfl ok_X7_refuse gw_471 ⟨by decide, by decide⟩ rfl hl.1 rfl (Nat.le_of_ble_eq_true rfl) ⟨by decide, by decide⟩ dX7_readTerms_49 (fun v_ S_ T_ H locs hp17 hP hS => ?_)
            obtain ⟨rfl, rfl, rfl⟩ := hp17
            try dsimp only [Option.toList, List.cons_append, List.nil_append]
            exact ret_z hx hb hr hlk hP hS dX7_readTerms_52 (b := false) rfl (⟨by rw [← hR]; first | rfl | (simp only [rtL, c3, c6, c8, ↓reduceIte, Bool.false_eq_true, rtN, rtX]), by rw [← hR]; first | rfl | (simp only [rtL, c3, c6, c8, ↓reduceIte, Bool.false_eq_true, rtN, rtX]), rfl⟩)
        · refine lv_iconst (v := 0) hx hb dX7_readTerms_38 (by decide) ?_
          exact ret_z hx hb hr hlk hP hS dX7_readTerms_39 (b := false) rfl (⟨by rw [← hR]; first | rfl | (simp only [rtL, c3, c6, ↓reduceIte, Bool.false_eq_true, rtN, rtX]), by rw [← hR]; first | rfl | (simp only [rtL, c3, c6, ↓reduceIte, Bool.false_eq_true, rtN, rtX]), rfl⟩)
set_option maxHeartbeats 4000000 in
set_option maxRecDepth 100000 in
theorem c_X7_readTerms (l : Launch) (D : va_G) (ca : Nat → ClassId) (ad : Nat → Nat) (hI : Inj 158 ad) (adK adV : Nat → Nat) (σ : MI) (τ : ML) {b i : Nat} (hb2 : b < 2) (hi : i < 6) : CY l D (TY ca) 158 ad (cxf ca ad) adK adV yX7_readTerms cX7_readTerms 4 (some .boolean) 6 127 [.ref (ad 1), .ref (ad (83 + 57 * b + 3 * i))] σ τ (fun v_ S_ T_ => some (.int (b2i ((rtL b i 7 σ).1))) = v_ ∧ ((rtL b i 7 σ).2) = S_ ∧ τ = T_) := by
  refine CY.of (by decide) (Nat.le_of_ble_eq_true rfl) ?_
  intro p e s m args below meth c hx hb hr ht hown hlk hml hP hK hN hS ls hl hE
  have hl : lv_has ls 4 [(0, .ref (ad 1)), (1, .ref (ad (83 + 57 * b + 3 * i)))] := hl
  refine lv_iconst (v := 0) hx hb dX7_readTerms_0 (by decide) ?_
  refine lv_istore_n (lv' := [(2, .int 0), (0, .ref (ad 1)), (1, .ref (ad (83 + 57 * b + 3 * i)))]) hx hb dX7_readTerms_1 rfl hl (by decide) rfl (fun ls hl => ?_)
  exact lp_X7_terms hI hb2 hi hx hb hr ht hown hlk hml hK hN hE 8 σ 7 0 (by omega) (by omega) rfl _ _ hP hS ls hl
set_option maxHeartbeats 4000000 in
set_option maxRecDepth 100000 in
theorem lp_X7_base {l : Launch} {D : va_G} {ca : Nat → ClassId} {ad : Nat → Nat} (hI : Inj 158 ad) {adK adV : Nat → Nat} {σ : MI} {τ : ML} {b i : Nat} (hb2 : b < 2) (hi : i < 6) {p : Program} {e : Env} {s : State} {m : MethodId} {args : Array Value} {below : List Frame} {meth : Method} {c : Code} (hx : p.tables.exec = Jvm.exec) (hb : c.code = cX7_readBase) (hr : meth.sig.returnType = (some .boolean)) (ht : ∀ w ∈ GG, w.before args s = true) (hown : s.vm.findClass yX7_readBase.cls = some m.cls) (hlk : meth.locks = false) (hml : c.maxLocals = 4) (hK : va_K D vwCl (TY ca) s) (hN : NW s) (hE : SCx adK adV (AA 158 ad) s s.heap) : ∀ (n : Nat) (ρ : MI) (hR : rbL ρ b i = rbP σ b i) (k : Nat) (hk : k ≤ kmin (ρ (83 + 57 * b + 3 * i) 6) 6) (hn : kmin (ρ (83 + 57 * b + 3 * i) 6) 6 - k < n) (hall : ∀ j, j < k → tkB ρ b i j = true) (H : Heap) (locs : List Loc) (hP : PW D 158 ad (cxf ca ad) ρ τ H) (hS : va_S (AA 158 ad) s.heap H locs) (ls : Array Slot) (hl : lv_has ls 4 [(2, .int (nI k)), (0, .ref (ad 1)), (1, .ref (ad (83 + 57 * b + 3 * i)))]), W p l e { frames := 5, cells := 0, slots := 0, locals := 107 } s m args below meth c H locs 0 0 (MQ below (QD D 158 ad (cxf ca ad) (fun v_ S_ T_ => some (.int (b2i ((rbP σ b i).1))) = v_ ∧ ((rbP σ b i).2) = S_ ∧ τ = T_)) args s 0 0 (AA 158 ad)) (F0 m 71 ls []) := by
  intro n
  induction n with
  | zero => intro ρ hR k hk hn hall H locs hP hS ls hl; exfalso; omega
  | succ n ih =>
    intro ρ hR k hk hn hall H locs hP hS ls hl
    have eM : (6 : Int32).toInt = 6 := rfl
    have hc := clampI (ρ (83 + 57 * b + 3 * i) 6)
    have hm : kmin (ρ (83 + 57 * b + 3 * i) 6) 6 = min (ρ (83 + 57 * b + 3 * i) 6).toNatClampNeg 6 := rfl
    have ek : (nI k).toInt = k := nI_toInt (by omega)
    have hbz := bz_lt (ρ 1 3)
    refine lv_iload_n hx hb dX7_readBase_71 rfl (lv_at hl 0 rfl) ?_
    refine lv_aload_n hx hb dX7_readBase_72 rfl (lv_at hl 2 rfl) ?_
    refine fgetxN hx hb ht inG1 hown hK hP (k := (83 + 57 * b + 3 * i)) (by omega) (x := (ρ (83 + 57 * b + 3 * i))) rfl (sh_cont _ _ hb2 hi) rfl 6 (by decide) (hN.get 187 nw_187 rfl) (v := .int ((ρ (83 + 57 * b + 3 * i)) 6)) rfl dX7_readBase_73 ?_
    refine lv_icmp_ge (tgt := 126) hx hb dX7_readBase_76 (by decide) (fun c1 => ?_) (fun c1 => ?_)
    · have dc1 := c1
      rw [i_le] at dc1
      have hke : k = kmin (ρ (83 + 57 * b + 3 * i) 6) 6 := by omega
      refine lv_aload_n hx hb dX7_readBase_126 rfl (lv_at hl 1 rfl) ?_
      refine fgetx hx hb ht inG7 hown hK hP (k := 1) (by decide) (x := (ρ 1)) rfl (sh_read _ _) rfl 0 (by decide) gw_235 (v := .ref (ad 2)) rfl dX7_readBase_127 ?_
      refine callv (y := yX6_advance) ⟨hx, hb, hml, hown, ht⟩ hK hN hP hS (k := 2) (c_X6_advance l D ca ad hI ρ τ ) (by decide) (sh_tape _ _) rfl ok_X6_advance gw_475 ⟨by decide, by decide⟩ rfl hl.1 rfl (Nat.le_of_ble_eq_true rfl) ⟨by decide, by decide⟩ dX7_readBase_130 (fun v_ S_ T_ H locs hp2 hP hS => ?_)
      obtain ⟨rfl, rfl, rfl⟩ := hp2
      try dsimp only [Option.toList, List.cons_append, List.nil_append]
      refine lv_iconst (v := 1) hx hb dX7_readBase_133 (by decide) ?_
      exact ret_z hx hb hr hlk hP hS dX7_readBase_134 (b := true) rfl (⟨by rw [← hR, rbL, if_pos (allS_t (fun j hj => hall j (by omega)))], by rw [← hR, rbL, if_pos (allS_t (fun j hj => hall j (by omega)))], rfl⟩)
    · have dc1 := c1
      rw [i_le] at dc1
      refine lv_iload_n hx hb dX7_readBase_79 rfl (lv_at hl 0 rfl) ?_
      refine lv_bipush (v := 6) hx hb dX7_readBase_80 (by decide) ?_
      refine lv_icmp_ge (tgt := 126) hx hb dX7_readBase_82 (by decide) (fun c3 => ?_) (fun c3 => ?_)
      · have dc3 := c3
        rw [i_le] at dc3
        have hke : k = kmin (ρ (83 + 57 * b + 3 * i) 6) 6 := by omega
        refine lv_aload_n hx hb dX7_readBase_126 rfl (lv_at hl 1 rfl) ?_
        refine fgetx hx hb ht inG7 hown hK hP (k := 1) (by decide) (x := (ρ 1)) rfl (sh_read _ _) rfl 0 (by decide) gw_235 (v := .ref (ad 2)) rfl dX7_readBase_127 ?_
        refine callv (y := yX6_advance) ⟨hx, hb, hml, hown, ht⟩ hK hN hP hS (k := 2) (c_X6_advance l D ca ad hI ρ τ ) (by decide) (sh_tape _ _) rfl ok_X6_advance gw_475 ⟨by decide, by decide⟩ rfl hl.1 rfl (Nat.le_of_ble_eq_true rfl) ⟨by decide, by decide⟩ dX7_readBase_130 (fun v_ S_ T_ H locs hp4 hP hS => ?_)
        obtain ⟨rfl, rfl, rfl⟩ := hp4
        try dsimp only [Option.toList, List.cons_append, List.nil_append]
        refine lv_iconst (v := 1) hx hb dX7_readBase_133 (by decide) ?_
        exact ret_z hx hb hr hlk hP hS dX7_readBase_134 (b := true) rfl (⟨by rw [← hR, rbL, if_pos (allS_t (fun j hj => hall j (by omega)))], by rw [← hR, rbL, if_pos (allS_t (fun j hj => hall j (by omega)))], rfl⟩)
      · have dc3 := c3
        rw [i_le] at dc3
        refine lv_aload_n hx hb dX7_readBase_85 rfl (lv_at hl 1 rfl) ?_
        refine fgetx hx hb ht inG7 hown hK hP (k := 1) (by decide) (x := (ρ 1)) rfl (sh_read _ _) rfl 3 (by decide) gw_239 (v := .ref (ad (44 + 57 * (bz ((ρ 1) 3))))) rfl dX7_readBase_86 ?_
        refine lv_aload_n hx hb dX7_readBase_89 rfl (lv_at hl 2 rfl) ?_
        refine fgetxN hx hb ht inG1 hown hK hP (k := (83 + 57 * b + 3 * i)) (by omega) (x := (ρ (83 + 57 * b + 3 * i))) rfl (sh_cont _ _ hb2 hi) rfl 8 (by decide) (hN.get 193 nw_193 rfl) (v := .ref (ad (85 + 57 * b + 3 * i))) rfl dX7_readBase_90 ?_
        refine lv_iload_n hx hb dX7_readBase_93 rfl (lv_at hl 0 rfl) ?_
        refine aldj hx hb hK hP (k := (85 + 57 * b + 3 * i)) (by omega) (x := (ρ (85 + 57 * b + 3 * i))) rfl 0 (sh_cixs _ _ hb2 hi) rfl (by rw [vp_in_iff]; omega) (j := k) (nI_clamp (by omega)) dX7_readBase_94 ?_
        refine callv (y := yX0_indexAt) ⟨hx, hb, hml, hown, ht⟩ hK hN hP hS (k := (44 + 57 * (bz ((ρ 1) 3)))) (c_X0_indexAt l D ca ad hI ρ τ (bz_lt _) ((ρ (85 + 57 * b + 3 * i)) k)) (by have b0_ : (bz ((ρ 1) 3)) < 2 := (bz_lt _); omega) (sh_book _ _ (bz_lt _)) rfl ok_X0_indexAt gw_538 ⟨by decide, by decide⟩ rfl hl.1 rfl (Nat.le_of_ble_eq_true rfl) ⟨by decide, by decide⟩ dX7_readBase_95 (fun v_ S_ T_ H locs hp5 hP hS => ?_)
        rcases hp5 with ⟨hp5, rfl, rfl, rfl⟩ | ⟨hp5, rfl, rfl, rfl⟩
        · try dsimp only [Option.toList, List.cons_append, List.nil_append]
          refine lv_astore_nN (lv' := [(3, .null), (2, .int (nI k)), (0, .ref (ad 1)), (1, .ref (ad (83 + 57 * b + 3 * i)))]) hx hb dX7_readBase_98 rfl hl (by decide) rfl (fun ls hl => ?_)
          refine lv_aload_nN hx hb dX7_readBase_99 rfl (lv_at hl 0 rfl) ?_
          refine lv_ifnullN (tgt := 120) hx hb dX7_readBase_100 (by decide) ?_
          refine lv_iinc (v := (nI k) + 1) (lv' := [(2, .int ((nI k) + 1)), (3, .null), (0, .ref (ad 1)), (1, .ref (ad (83 + 57 * b + 3 * i)))]) hx hb dX7_readBase_120 hl (k := 1) rfl rfl (by decide) rfl (fun ls hl => ?_)
          refine lv_goto (tgt := 71) hx hb dX7_readBase_123 (by decide) ?_
          rw [nI_1] at hl
          exact ih ρ hR (k + 1) (by omega) (by omega) (fun j hj => by rcases (by omega : j < k ∨ j = k) with q | q; exact hall j q; rw [q]; simp only [tkB, hp5, ↓reduceIte, Bool.false_eq_true]) _ _ hP hS ls (lv_sub hl [0, 2, 3] rfl)
        · try dsimp only [Option.toList, List.cons_append, List.nil_append]
          have hXhp5 := (inC_6 hp5)
          refine lv_astore_n (lv' := [(3, .ref (ad (47 + 57 * (bz ((ρ 1) 3)) + 6 * ((ρ (85 + 57 * b + 3 * i)) k).toNatClampNeg))), (2, .int (nI k)), (0, .ref (ad 1)), (1, .ref (ad (83 + 57 * b + 3 * i)))]) hx hb dX7_readBase_98 rfl hl (by decide) rfl (fun ls hl => ?_)
          refine lv_aload_n hx hb dX7_readBase_99 rfl (lv_at hl 0 rfl) ?_
          refine lv_ifnull hx hb dX7_readBase_100 ?_
          refine lv_aload_n hx hb dX7_readBase_103 rfl (lv_at hl 0 rfl) ?_
          refine lv_aload_n hx hb dX7_readBase_104 rfl (lv_at hl 3 rfl) ?_
          refine fgetxN hx hb ht inG1 hown hK hP (k := (83 + 57 * b + 3 * i)) (by omega) (x := (ρ (83 + 57 * b + 3 * i))) rfl (sh_cont _ _ hb2 hi) rfl 2 (by decide) (hN.get 174 nw_174 rfl) (v := .int ((ρ (83 + 57 * b + 3 * i)) 2)) rfl dX7_readBase_105 ?_
          refine callv (y := yX4_hasValue) ⟨hx, hb, hml, hown, ht⟩ hK hN hP hS (k := (47 + 57 * (bz ((ρ 1) 3)) + 6 * ((ρ (85 + 57 * b + 3 * i)) k).toNatClampNeg)) (c_X4_hasValue l D ca ad hI ρ τ (bz_lt _) (inC_6 hp5) ((ρ (83 + 57 * b + 3 * i)) 2)) (by have b0_ : (bz ((ρ 1) 3)) < 2 := (bz_lt _); have b1_ : ((ρ (85 + 57 * b + 3 * i)) k).toNatClampNeg < 6 := (inC_6 hp5); omega) (sh_indx _ _ (bz_lt _) (inC_6 hp5)) rfl ok_X4_hasValue gw_542 ⟨by decide, by decide⟩ rfl hl.1 rfl (Nat.le_of_ble_eq_true rfl) ⟨by decide, by decide⟩ dX7_readBase_108 (fun v_ S_ T_ H locs hp6 hP hS => ?_)
          obtain ⟨rfl, rfl, rfl⟩ := hp6
          try dsimp only [Option.toList, List.cons_append, List.nil_append]
          refine br_ne (tgt := 120) hx hb dX7_readBase_111 (by decide) (fun c7 => ?_) (fun c7 => ?_)
          · refine lv_iinc (v := (nI k) + 1) (lv' := [(2, .int ((nI k) + 1)), (3, .ref (ad (47 + 57 * (bz ((ρ 1) 3)) + 6 * ((ρ (85 + 57 * b + 3 * i)) k).toNatClampNeg))), (0, .ref (ad 1)), (1, .ref (ad (83 + 57 * b + 3 * i)))]) hx hb dX7_readBase_120 hl (k := 1) rfl rfl (by decide) rfl (fun ls hl => ?_)
            refine lv_goto (tgt := 71) hx hb dX7_readBase_123 (by decide) ?_
            rw [nI_1] at hl
            exact ih ρ hR (k + 1) (by omega) (by omega) (fun j hj => by rcases (by omega : j < k ∨ j = k) with q | q; exact hall j q; rw [q]; simp only [tkB, hp5, c7, ↓reduceIte, Bool.false_eq_true]) _ _ hP hS ls (lv_sub hl [0, 2, 3] rfl)
          · refine lv_aload_n hx hb dX7_readBase_114 rfl (lv_at hl 2 rfl) ?_
            refine lv_iconst (v := 5) hx hb dX7_readBase_115 (by decide) ?_
            refine callv (y := yX7_refuse) ⟨hx, hb, hml, hown, ht⟩ hK hN hP hS (k := 1) (c_X7_refuse l D ca ad hI ρ τ (5 : Int32)) (by decide) (sh_read _ _) rfl ok_X7_refuse gw_471 ⟨by decide, by decide⟩ rfl hl.1 rfl (Nat.le_of_ble_eq_true rfl) ⟨by decide, by decide⟩ dX7_readBase_116 (fun v_ S_ T_ H locs hp8 hP hS => ?_)
            obtain ⟨rfl, rfl, rfl⟩ := hp8
            try dsimp only [Option.toList, List.cons_append, List.nil_append]
            exact ret_z hx hb hr hlk hP hS dX7_readBase_119 (b := false) rfl (⟨by rw [← hR, rbL, if_neg (by rw [allS_f (k := k) (by omega) (by simp only [tkB, hp5, c7, ↓reduceIte])]; decide)], by rw [← hR, rbL, if_neg (by rw [allS_f (k := k) (by omega) (by simp only [tkB, hp5, c7, ↓reduceIte])]; decide)], rfl⟩)
set_option maxHeartbeats 4000000 in
set_option maxRecDepth 100000 in
theorem c_X7_readBase (l : Launch) (D : va_G) (ca : Nat → ClassId) (ad : Nat → Nat) (hI : Inj 158 ad) (adK adV : Nat → Nat) (σ : MI) (τ : ML) {b i : Nat} (hb2 : b < 2) (hi : i < 6) : CY l D (TY ca) 158 ad (cxf ca ad) adK adV yX7_readBase cX7_readBase 4 (some .boolean) 5 107 [.ref (ad 1), .ref (ad (83 + 57 * b + 3 * i))] σ τ (fun v_ S_ T_ => some (.int (b2i ((rbP σ b i).1))) = v_ ∧ ((rbP σ b i).2) = S_ ∧ τ = T_) := by
  refine CY.of (by decide) (Nat.le_of_ble_eq_true rfl) ?_
  intro p e s m args below meth c hx hb hr ht hown hlk hml hP hK hN hS ls hl hE
  have hl : lv_has ls 4 [(0, .ref (ad 1)), (1, .ref (ad (83 + 57 * b + 3 * i)))] := hl
  have hbz := bz_lt (σ 1 3)
  refine lv_aload_n hx hb dX7_readBase_0 rfl (lv_at hl 0 rfl) ?_
  refine fgetx hx hb ht inG7 hown hK hP (k := 1) (by decide) (x := (σ 1)) rfl (sh_read _ _) rfl 0 (by decide) gw_235 (v := .ref (ad 2)) rfl dX7_readBase_1 ?_
  refine va_ldcS hx hb hown (hE.2.2.2 3 (by decide)) dX7_readBase_4 ?_
  refine callvY (y := yX6_isWord) ⟨hx, hb, hml, hown, ht⟩ hK hN hE hP hS (k := 2) (c_X6_isWord l D ca ad hI adK adV σ τ (by decide)) (by decide) (sh_tape _ _) rfl ok_X6_isWord gw_419 ⟨by decide, by decide⟩ rfl hl.1 rfl (Nat.le_of_ble_eq_true rfl) ⟨by decide, by decide⟩ dX7_readBase_6 (fun v_ S_ T_ H locs hp1 hP hS => ?_)
  obtain ⟨rfl, rfl, rfl⟩ := hp1
  try dsimp only [Option.toList, List.cons_append, List.nil_append]
  refine br_ne (tgt := 18) hx hb dX7_readBase_9 (by decide) (fun c2 => ?_) (fun c2 => ?_)
  · refine lv_aload_n hx hb dX7_readBase_18 rfl (lv_at hl 1 rfl) ?_
    refine callv (y := yX1_thousandths) ⟨hx, hb, hml, hown, ht⟩ hK hN hP hS (k := (83 + 57 * b + 3 * i)) (c_X1_thousandths l D ca ad hI σ τ hb2 hi) (by omega) (sh_cont _ _ hb2 hi) rfl ok_X1_thousandths gw_534 ⟨by decide, by decide⟩ rfl hl.1 rfl (Nat.le_of_ble_eq_true rfl) ⟨by decide, by decide⟩ dX7_readBase_19 (fun v_ S_ T_ H locs hp3 hP hS => ?_)
    obtain ⟨rfl, rfl, rfl⟩ := hp3
    try dsimp only [Option.toList, List.cons_append, List.nil_append]
    refine lv_sipush (v := 1000) hx hb dX7_readBase_22 (by decide) ?_
    refine lv_icmp_eq (tgt := 34) hx hb dX7_readBase_25 (by decide) (fun c4 => ?_) (fun c4 => ?_)
    · have dc4 := c4
      rw [i_eq] at dc4
      refine lv_aload_n hx hb dX7_readBase_34 rfl (lv_at hl 0 rfl) ?_
      refine fgetx hx hb ht inG7 hown hK hP (k := 1) (by decide) (x := (σ 1)) rfl (sh_read _ _) rfl 0 (by decide) gw_235 (v := .ref (ad 2)) rfl dX7_readBase_35 ?_
      refine callv (y := yX6_advance) ⟨hx, hb, hml, hown, ht⟩ hK hN hP hS (k := 2) (c_X6_advance l D ca ad hI σ τ ) (by decide) (sh_tape _ _) rfl ok_X6_advance gw_475 ⟨by decide, by decide⟩ rfl hl.1 rfl (Nat.le_of_ble_eq_true rfl) ⟨by decide, by decide⟩ dX7_readBase_38 (fun v_ S_ T_ H locs hp5 hP hS => ?_)
      obtain ⟨rfl, rfl, rfl⟩ := hp5
      try dsimp only [Option.toList, List.cons_append, List.nil_append]
      refine lv_aload_n hx hb dX7_readBase_41 rfl (lv_at hl 0 rfl) ?_
      refine lv_iconst (v := 0) hx hb dX7_readBase_42 (by decide) ?_
      refine lv_aload_n hx hb dX7_readBase_43 rfl (lv_at hl 0 rfl) ?_
      refine fgetx hx hb ht inG7 hown hK hP (k := 1) (by decide) (x := (σ 1)) (adS_ne _ (by omega)) (sh_read _ _) rfl 3 (by decide) gw_239 (v := .ref (ad (44 + 57 * (bz (σ 1 3))))) (congrArg (fun z => some (Value.ref (ad (44 + 57 * bz z)))) (show (σ 1) 3 = σ 1 3 from (by first | rfl | (rw [rd3_ad])))) dX7_readBase_44 ?_
      refine fgetxN hx hb ht inG0 hown hK hP (k := (44 + 57 * (bz (σ 1 3)))) (by have b0_ : (bz (σ 1 3)) < 2 := (bz_lt _); omega) (x := (σ (44 + 57 * (bz (σ 1 3))))) (adS_ne _ (by omega)) (sh_book _ _ (bz_lt _)) rfl 0 (by decide) (hN.get 214 nw_214 rfl) (v := .int ((σ (44 + 57 * (bz (σ 1 3)))) 0)) rfl dX7_readBase_47 ?_
      refine callv (y := yX7_isNumber) ⟨hx, hb, hml, hown, ht⟩ hK hN hP hS (k := 1) (c_X7_isNumber l D ca ad hI (adS σ) τ (0 : Int32) ((σ (44 + 57 * (bz (σ 1 3)))) 0)) (by decide) (sh_read _ _) rfl ok_X7_isNumber gw_480 ⟨by decide, by decide⟩ rfl hl.1 rfl (Nat.le_of_ble_eq_true rfl) ⟨by decide, by decide⟩ dX7_readBase_50 (fun v_ S_ T_ H locs hp6 hP hS => ?_)
      obtain ⟨rfl, rfl, rfl⟩ := hp6
      try dsimp only [Option.toList, List.cons_append, List.nil_append]
      refine br_ne (tgt := 58) hx hb dX7_readBase_53 (by decide) (fun c7 => ?_) (fun c7 => ?_)
      · have hM : inM (adS σ) 0 (σ (44 + 57 * bz (σ 1 3)) 0) = adS σ := inM_t c7
        rw [hM] at hP
        refine lv_aload_n hx hb dX7_readBase_58 rfl (lv_at hl 1 rfl) ?_
        refine lv_aload_n hx hb dX7_readBase_59 rfl (lv_at hl 0 rfl) ?_
        refine fgetx hx hb ht inG7 hown hK hP (k := 1) (by decide) (x := (σ 1)) (adS_ne _ (by omega)) (sh_read _ _) rfl 0 (by decide) gw_235 (v := .ref (ad 2)) rfl dX7_readBase_60 ?_
        refine fgetxN hx hb ht inG6 hown hK hP (k := 2) (by decide) (x := ((adS σ) 2)) rfl (sh_tape _ _) rfl 5 (by decide) (hN.get 107 nw_107 rfl) (v := .int (((adS σ) 2) 5)) rfl dX7_readBase_63 ?_
        refine fputxN (ref := "") (w := ((adS σ) 2) 5) hx hb ht inG1 tyX1 tyX1_ok nmX1 hown hK hP hI hS (k := (83 + 57 * b + 3 * i)) (by omega) (sh_cont _ _ hb2 hi) rfl 2 (by decide) (hN.get 174 nw_174 rfl) rfl rfl rfl (Nat.le_of_ble_eq_true rfl) (sh_cont _ _ hb2 hi) dX7_readBase_66 (fun H locs hP hS => ?_)
        refine lv_iconst (v := 0) hx hb dX7_readBase_69 (by decide) ?_
        refine lv_istore_n (lv' := [(2, .int 0), (0, .ref (ad 1)), (1, .ref (ad (83 + 57 * b + 3 * i)))]) hx hb dX7_readBase_70 rfl hl (by decide) rfl (fun ls hl => ?_)
        have hR : rbL (rbW σ b i) b i = rbP σ b i := by simp only [rbP, c2, (eq_true c4), c7, ↓reduceIte]
        exact lp_X7_base hI hb2 hi hx hb hr ht hown hlk hml hK hN hE (kmin (rbW σ b i (83 + 57 * b + 3 * i) 6) 6 + 1) (rbW σ b i) hR 0 (by omega) (by omega) (fun j hj => by omega) _ _ hP hS ls hl
      · refine lv_iconst (v := 0) hx hb dX7_readBase_56 (by decide) ?_
        exact ret_z hx hb hr hlk hP hS dX7_readBase_57 (b := false) rfl (⟨by first | with_reducible rfl | (simp only [rbP, c2, c4, c7, ↓reduceIte, Bool.false_eq_true]; done) | (simp only [rbP, c2, c4, c7, ↓reduceIte, Bool.false_eq_true]; rfl) | rfl, by first | with_reducible rfl | (simp only [rbP, c2, c4, c7, ↓reduceIte, Bool.false_eq_true]; done) | (simp only [rbP, c2, c4, c7, ↓reduceIte, Bool.false_eq_true]; rfl) | rfl, rfl⟩)
    · have dc4 := c4
      rw [i_eq] at dc4
      refine lv_aload_n hx hb dX7_readBase_28 rfl (lv_at hl 0 rfl) ?_
      refine lv_iconst (v := 5) hx hb dX7_readBase_29 (by decide) ?_
      refine callv (y := yX7_refuse) ⟨hx, hb, hml, hown, ht⟩ hK hN hP hS (k := 1) (c_X7_refuse l D ca ad hI σ τ (5 : Int32)) (by decide) (sh_read _ _) rfl ok_X7_refuse gw_471 ⟨by decide, by decide⟩ rfl hl.1 rfl (Nat.le_of_ble_eq_true rfl) ⟨by decide, by decide⟩ dX7_readBase_30 (fun v_ S_ T_ H locs hp8 hP hS => ?_)
      obtain ⟨rfl, rfl, rfl⟩ := hp8
      try dsimp only [Option.toList, List.cons_append, List.nil_append]
      exact ret_z hx hb hr hlk hP hS dX7_readBase_33 (b := false) rfl (⟨by first | with_reducible rfl | (simp only [rbP, c2, c4, ↓reduceIte, Bool.false_eq_true]; done) | (simp only [rbP, c2, c4, ↓reduceIte, Bool.false_eq_true]; rfl) | rfl, by first | with_reducible rfl | (simp only [rbP, c2, c4, ↓reduceIte, Bool.false_eq_true]; done) | (simp only [rbP, c2, c4, ↓reduceIte, Bool.false_eq_true]; rfl) | rfl, rfl⟩)
  · refine lv_aload_n hx hb dX7_readBase_12 rfl (lv_at hl 0 rfl) ?_
    refine lv_iconst (v := 1) hx hb dX7_readBase_13 (by decide) ?_
    refine callv (y := yX7_refuse) ⟨hx, hb, hml, hown, ht⟩ hK hN hP hS (k := 1) (c_X7_refuse l D ca ad hI σ τ (1 : Int32)) (by decide) (sh_read _ _) rfl ok_X7_refuse gw_471 ⟨by decide, by decide⟩ rfl hl.1 rfl (Nat.le_of_ble_eq_true rfl) ⟨by decide, by decide⟩ dX7_readBase_14 (fun v_ S_ T_ H locs hp9 hP hS => ?_)
    obtain ⟨rfl, rfl, rfl⟩ := hp9
    try dsimp only [Option.toList, List.cons_append, List.nil_append]
    exact ret_z hx hb hr hlk hP hS dX7_readBase_17 (b := false) rfl (⟨by first | with_reducible rfl | (simp only [rbP, c2, ↓reduceIte, Bool.false_eq_true]; done) | (simp only [rbP, c2, ↓reduceIte, Bool.false_eq_true]; rfl) | rfl, by first | with_reducible rfl | (simp only [rbP, c2, ↓reduceIte, Bool.false_eq_true]; done) | (simp only [rbP, c2, ↓reduceIte, Bool.false_eq_true]; rfl) | rfl, rfl⟩)
set_option maxHeartbeats 4000000 in
set_option maxRecDepth 100000 in
theorem c_X7_readRule (l : Launch) (D : va_G) (ca : Nat → ClassId) (ad : Nat → Nat) (hI : Inj 158 ad) (adK adV : Nat → Nat) (σ : MI) (τ : ML) {b i : Nat} (hb2 : b < 2) (hi : i < 6) : CY l D (TY ca) 158 ad (cxf ca ad) adK adV yX7_readRule cX7_readRule 2 (some .boolean) 6 128 [.ref (ad 1), .ref (ad (83 + 57 * b + 3 * i))] σ τ (fun v_ S_ T_ => some (.int (b2i ((rrP σ b i).1))) = v_ ∧ ((rrP σ b i).2) = S_ ∧ τ = T_) := by
  refine CY.of (by decide) (Nat.le_of_ble_eq_true rfl) ?_
  intro p e s m args below meth c hx hb hr ht hown hlk hml hP hK hN hS ls hl hE
  have hl : lv_has ls 2 [(0, .ref (ad 1)), (1, .ref (ad (83 + 57 * b + 3 * i)))] := hl
  have hbz := bz_lt (σ 1 3)
  refine lv_aload_n hx hb dX7_readRule_0 rfl (lv_at hl 1 rfl) ?_
  refine lv_aload_n hx hb dX7_readRule_1 rfl (lv_at hl 0 rfl) ?_
  refine fgetx hx hb ht inG7 hown hK hP (k := 1) (by decide) (x := (σ 1)) rfl (sh_read _ _) rfl 0 (by decide) gw_235 (v := .ref (ad 2)) rfl dX7_readRule_2 ?_
  refine va_ldcS hx hb hown (hE.2.2.2 5 (by decide)) dX7_readRule_5 ?_
  refine callvY (y := yX6_isWord) ⟨hx, hb, hml, hown, ht⟩ hK hN hE hP hS (k := 2) (c_X6_isWord l D ca ad hI adK adV σ τ (by decide)) (by decide) (sh_tape _ _) rfl ok_X6_isWord gw_419 ⟨by decide, by decide⟩ rfl hl.1 rfl (Nat.le_of_ble_eq_true rfl) ⟨by decide, by decide⟩ dX7_readRule_7 (fun v_ S_ T_ H locs hp1 hP hS => ?_)
  obtain ⟨rfl, rfl, rfl⟩ := hp1
  try dsimp only [Option.toList, List.cons_append, List.nil_append]
  refine fputxN (ref := "") (w := (b2i (isWd σ 5))) hx hb ht inG1 tyX1 tyX1_ok nmX1 hown hK hP hI hS (k := (83 + 57 * b + 3 * i)) (by omega) (sh_cont _ _ hb2 hi) rfl 5 (by decide) (hN.get 184 nw_184 rfl) rfl (by first | rfl | exact b2i_nar _) (by first | rfl | exact b2i_fit _) (Nat.le_of_ble_eq_true rfl) (sh_cont _ _ hb2 hi) dX7_readRule_10 (fun H locs hP hS => ?_)
  refine lv_aload_n hx hb dX7_readRule_13 rfl (lv_at hl 1 rfl) ?_
  refine fgetxN hx hb ht inG1 hown hK hP (k := (83 + 57 * b + 3 * i)) (by omega) (x := (upd (σ (83 + 57 * b + 3 * i)) 5 (b2i (isWd σ 5)))) (s2_k _ _ _ _) (sh_cont _ _ hb2 hi) rfl 5 (by decide) (hN.get 184 nw_184 rfl) (v := .int (b2i (isWd σ 5))) rfl dX7_readRule_14 ?_
  refine br_ne (tgt := 38) hx hb dX7_readRule_17 (by decide) (fun c2 => ?_) (fun c2 => ?_)
  · refine lv_aload_n hx hb dX7_readRule_38 rfl (lv_at hl 0 rfl) ?_
    refine fgetx hx hb ht inG7 hown hK hP (k := 1) (by decide) (x := (σ 1)) (s2_nk _ _ _ (by omega)) (sh_read _ _) rfl 0 (by decide) gw_235 (v := .ref (ad 2)) rfl dX7_readRule_39 ?_
    refine callv (y := yX6_advance) ⟨hx, hb, hml, hown, ht⟩ hK hN hP hS (k := 2) (c_X6_advance l D ca ad hI (s2 σ (83 + 57 * b + 3 * i) 5 (b2i (isWd σ 5))) τ ) (by decide) (sh_tape _ _) rfl ok_X6_advance gw_475 ⟨by decide, by decide⟩ rfl hl.1 rfl (Nat.le_of_ble_eq_true rfl) ⟨by decide, by decide⟩ dX7_readRule_42 (fun v_ S_ T_ H locs hp3 hP hS => ?_)
    obtain ⟨rfl, rfl, rfl⟩ := hp3
    try dsimp only [Option.toList, List.cons_append, List.nil_append]
    obtain ⟨S4_, hA4_⟩ : ∃ X_ : MI, X_ = (adS (s2 σ (83 + 57 * b + 3 * i) 5 (b2i (isWd σ 5)))) := ⟨_, rfl⟩
    rw [← hA4_] at hP
    refine lv_aload_n hx hb dX7_readRule_45 rfl (lv_at hl 0 rfl) ?_
    refine lv_iconst (v := 0) hx hb dX7_readRule_46 (by decide) ?_
    refine lv_sipush (v := 999) hx hb dX7_readRule_47 (by decide) ?_
    refine callv (y := yX7_readNumber) ⟨hx, hb, hml, hown, ht⟩ hK hN hP hS (k := 1) (c_X7_readNumber l D ca ad hI S4_ τ (0 : Int32) (999 : Int32)) (by decide) (sh_read _ _) rfl ok_X7_readNumber gw_476 ⟨by decide, by decide⟩ rfl hl.1 rfl (Nat.le_of_ble_eq_true rfl) ⟨by decide, by decide⟩ dX7_readRule_50 (fun v_ S_ T_ H locs hp5 hP hS => ?_)
    obtain ⟨rfl, rfl, rfl⟩ := hp5
    try dsimp only [Option.toList, List.cons_append, List.nil_append]
    obtain ⟨S6_, hA6_⟩ : ∃ X_ : MI, X_ = (rnM S4_ (0 : Int32) (999 : Int32)) := ⟨_, rfl⟩
    rw [← hA6_] at hP
    refine br_ne (tgt := 58) hx hb dX7_readRule_53 (by decide) (fun c7 => ?_) (fun c7 => ?_)
    · refine lv_aload_n hx hb dX7_readRule_58 rfl (lv_at hl 1 rfl) ?_
      refine lv_aload_n hx hb dX7_readRule_59 rfl (lv_at hl 0 rfl) ?_
      refine fgetx hx hb ht inG7 hown hK hP (k := 1) (by decide) (x := (S6_ 1)) rfl (sh_read _ _) rfl 4 (by decide) gw_240 (v := .int ((S6_ 1) 4)) rfl dX7_readRule_60 ?_
      refine fputxN (ref := "") (w := (S6_ 1) 4) hx hb ht inG1 tyX1 tyX1_ok nmX1 hown hK hP hI hS (k := (83 + 57 * b + 3 * i)) (by omega) (sh_cont _ _ hb2 hi) rfl 3 (by decide) (hN.get 178 nw_178 rfl) rfl rfl rfl (Nat.le_of_ble_eq_true rfl) (sh_cont _ _ hb2 hi) dX7_readRule_63 (fun H locs hP hS => ?_)
      refine lv_aload_n hx hb dX7_readRule_66 rfl (lv_at hl 0 rfl) ?_
      refine va_ldcS hx hb hown (hE.2.2.2 6 (by decide)) dX7_readRule_67 ?_
      refine callvY (y := yX7_readWord) ⟨hx, hb, hml, hown, ht⟩ hK hN hE hP hS (k := 1) (c_X7_readWord l D ca ad hI adK adV (s2 S6_ (83 + 57 * b + 3 * i) 3 ((S6_ 1) 4)) τ (by decide)) (by decide) (sh_read _ _) rfl ok_X7_readWord gw_415 ⟨by decide, by decide⟩ rfl hl.1 rfl (Nat.le_of_ble_eq_true rfl) ⟨by decide, by decide⟩ dX7_readRule_69 (fun v_ S_ T_ H locs hp8 hP hS => ?_)
      obtain ⟨rfl, rfl, rfl⟩ := hp8
      try dsimp only [Option.toList, List.cons_append, List.nil_append]
      obtain ⟨S9_, hA9_⟩ : ∃ X_ : MI, X_ = (rwM (s2 S6_ (83 + 57 * b + 3 * i) 3 ((S6_ 1) 4)) 6) := ⟨_, rfl⟩
      rw [← hA9_] at hP
      refine br_eq (tgt := 85) hx hb dX7_readRule_72 (by decide) (fun c10 => ?_) (fun c10 => ?_)
      · refine lv_iconst (v := 0) hx hb dX7_readRule_85 (by decide) ?_
        subst hA9_
        subst hA6_
        subst hA4_
        exact ret_z hx hb hr hlk hP hS dX7_readRule_86 (b := false) rfl (⟨by simp only [rrP, rrA, rrB, rrC, rrD, (bt_T c2), c7, c10, ↓reduceIte, Bool.false_eq_true], by simp only [rrP, rrA, rrB, rrC, rrD, (bt_T c2), c7, c10, ↓reduceIte, Bool.false_eq_true], rfl⟩)
      · refine lv_aload_n hx hb dX7_readRule_75 rfl (lv_at hl 0 rfl) ?_
        refine lv_iconst (v := 0) hx hb dX7_readRule_76 (by decide) ?_
        refine lv_bipush (v := 100) hx hb dX7_readRule_77 (by decide) ?_
        refine callv (y := yX7_readNumber) ⟨hx, hb, hml, hown, ht⟩ hK hN hP hS (k := 1) (c_X7_readNumber l D ca ad hI S9_ τ (0 : Int32) (100 : Int32)) (by decide) (sh_read _ _) rfl ok_X7_readNumber gw_476 ⟨by decide, by decide⟩ rfl hl.1 rfl (Nat.le_of_ble_eq_true rfl) ⟨by decide, by decide⟩ dX7_readRule_79 (fun v_ S_ T_ H locs hp11 hP hS => ?_)
        obtain ⟨rfl, rfl, rfl⟩ := hp11
        try dsimp only [Option.toList, List.cons_append, List.nil_append]
        obtain ⟨S12_, hA12_⟩ : ∃ X_ : MI, X_ = (rnM S9_ (0 : Int32) (100 : Int32)) := ⟨_, rfl⟩
        rw [← hA12_] at hP
        refine br_ne (tgt := 87) hx hb dX7_readRule_82 (by decide) (fun c13 => ?_) (fun c13 => ?_)
        · refine lv_aload_n hx hb dX7_readRule_87 rfl (lv_at hl 1 rfl) ?_
          refine lv_aload_n hx hb dX7_readRule_88 rfl (lv_at hl 0 rfl) ?_
          refine fgetx hx hb ht inG7 hown hK hP (k := 1) (by decide) (x := (S12_ 1)) rfl (sh_read _ _) rfl 4 (by decide) gw_240 (v := .int ((S12_ 1) 4)) rfl dX7_readRule_89 ?_
          refine fputxN (ref := "") (w := (S12_ 1) 4) hx hb ht inG1 tyX1 tyX1_ok nmX1 hown hK hP hI hS (k := (83 + 57 * b + 3 * i)) (by omega) (sh_cont _ _ hb2 hi) rfl 4 (by decide) (hN.get 181 nw_181 rfl) rfl rfl rfl (Nat.le_of_ble_eq_true rfl) (sh_cont _ _ hb2 hi) dX7_readRule_92 (fun H locs hP hS => ?_)
          refine lv_iconst (v := 1) hx hb dX7_readRule_95 (by decide) ?_
          subst hA12_
          subst hA9_
          subst hA6_
          subst hA4_
          exact ret_z hx hb hr hlk hP hS dX7_readRule_96 (b := true) rfl (⟨by simp only [rrP, rrA, rrB, rrC, rrD, (bt_T c2), c7, c10, c13, ↓reduceIte, Bool.false_eq_true], by simp only [rrP, rrA, rrB, rrC, rrD, (bt_T c2), c7, c10, c13, ↓reduceIte, Bool.false_eq_true], rfl⟩)
        · refine lv_iconst (v := 0) hx hb dX7_readRule_85 (by decide) ?_
          subst hA12_
          subst hA9_
          subst hA6_
          subst hA4_
          exact ret_z hx hb hr hlk hP hS dX7_readRule_86 (b := false) rfl (⟨by simp only [rrP, rrA, rrB, rrC, rrD, (bt_T c2), c7, c10, c13, ↓reduceIte, Bool.false_eq_true], by simp only [rrP, rrA, rrB, rrC, rrD, (bt_T c2), c7, c10, c13, ↓reduceIte, Bool.false_eq_true], rfl⟩)
    · refine lv_iconst (v := 0) hx hb dX7_readRule_56 (by decide) ?_
      subst hA6_
      subst hA4_
      exact ret_z hx hb hr hlk hP hS dX7_readRule_57 (b := false) rfl (⟨by simp only [rrP, rrA, rrB, rrC, rrD, (bt_T c2), c7, ↓reduceIte, Bool.false_eq_true], by simp only [rrP, rrA, rrB, rrC, rrD, (bt_T c2), c7, ↓reduceIte, Bool.false_eq_true], rfl⟩)
  · refine lv_aload_n hx hb dX7_readRule_20 rfl (lv_at hl 0 rfl) ?_
    refine fgetx hx hb ht inG7 hown hK hP (k := 1) (by decide) (x := (σ 1)) (s2_nk _ _ _ (by omega)) (sh_read _ _) rfl 0 (by decide) gw_235 (v := .ref (ad 2)) rfl dX7_readRule_21 ?_
    refine va_ldcS hx hb hown (hE.2.2.2 4 (by decide)) dX7_readRule_24 ?_
    refine callvY (y := yX6_isWord) ⟨hx, hb, hml, hown, ht⟩ hK hN hE hP hS (k := 2) (c_X6_isWord l D ca ad hI adK adV (s2 σ (83 + 57 * b + 3 * i) 5 (b2i (isWd σ 5))) τ (by decide)) (by decide) (sh_tape _ _) rfl ok_X6_isWord gw_419 ⟨by decide, by decide⟩ rfl hl.1 rfl (Nat.le_of_ble_eq_true rfl) ⟨by decide, by decide⟩ dX7_readRule_26 (fun v_ S_ T_ H locs hp14 hP hS => ?_)
    obtain ⟨rfl, rfl, rfl⟩ := hp14
    try dsimp only [Option.toList, List.cons_append, List.nil_append]
    refine br_ne (tgt := 38) hx hb dX7_readRule_29 (by decide) (fun c15 => ?_) (fun c15 => ?_)
    · refine lv_aload_n hx hb dX7_readRule_38 rfl (lv_at hl 0 rfl) ?_
      refine fgetx hx hb ht inG7 hown hK hP (k := 1) (by decide) (x := (σ 1)) (s2_nk _ _ _ (by omega)) (sh_read _ _) rfl 0 (by decide) gw_235 (v := .ref (ad 2)) rfl dX7_readRule_39 ?_
      refine callv (y := yX6_advance) ⟨hx, hb, hml, hown, ht⟩ hK hN hP hS (k := 2) (c_X6_advance l D ca ad hI (s2 σ (83 + 57 * b + 3 * i) 5 (b2i (isWd σ 5))) τ ) (by decide) (sh_tape _ _) rfl ok_X6_advance gw_475 ⟨by decide, by decide⟩ rfl hl.1 rfl (Nat.le_of_ble_eq_true rfl) ⟨by decide, by decide⟩ dX7_readRule_42 (fun v_ S_ T_ H locs hp16 hP hS => ?_)
      obtain ⟨rfl, rfl, rfl⟩ := hp16
      try dsimp only [Option.toList, List.cons_append, List.nil_append]
      obtain ⟨S17_, hA17_⟩ : ∃ X_ : MI, X_ = (adS (s2 σ (83 + 57 * b + 3 * i) 5 (b2i (isWd σ 5)))) := ⟨_, rfl⟩
      rw [← hA17_] at hP
      refine lv_aload_n hx hb dX7_readRule_45 rfl (lv_at hl 0 rfl) ?_
      refine lv_iconst (v := 0) hx hb dX7_readRule_46 (by decide) ?_
      refine lv_sipush (v := 999) hx hb dX7_readRule_47 (by decide) ?_
      refine callv (y := yX7_readNumber) ⟨hx, hb, hml, hown, ht⟩ hK hN hP hS (k := 1) (c_X7_readNumber l D ca ad hI S17_ τ (0 : Int32) (999 : Int32)) (by decide) (sh_read _ _) rfl ok_X7_readNumber gw_476 ⟨by decide, by decide⟩ rfl hl.1 rfl (Nat.le_of_ble_eq_true rfl) ⟨by decide, by decide⟩ dX7_readRule_50 (fun v_ S_ T_ H locs hp18 hP hS => ?_)
      obtain ⟨rfl, rfl, rfl⟩ := hp18
      try dsimp only [Option.toList, List.cons_append, List.nil_append]
      obtain ⟨S19_, hA19_⟩ : ∃ X_ : MI, X_ = (rnM S17_ (0 : Int32) (999 : Int32)) := ⟨_, rfl⟩
      rw [← hA19_] at hP
      refine br_ne (tgt := 58) hx hb dX7_readRule_53 (by decide) (fun c20 => ?_) (fun c20 => ?_)
      · refine lv_aload_n hx hb dX7_readRule_58 rfl (lv_at hl 1 rfl) ?_
        refine lv_aload_n hx hb dX7_readRule_59 rfl (lv_at hl 0 rfl) ?_
        refine fgetx hx hb ht inG7 hown hK hP (k := 1) (by decide) (x := (S19_ 1)) rfl (sh_read _ _) rfl 4 (by decide) gw_240 (v := .int ((S19_ 1) 4)) rfl dX7_readRule_60 ?_
        refine fputxN (ref := "") (w := (S19_ 1) 4) hx hb ht inG1 tyX1 tyX1_ok nmX1 hown hK hP hI hS (k := (83 + 57 * b + 3 * i)) (by omega) (sh_cont _ _ hb2 hi) rfl 3 (by decide) (hN.get 178 nw_178 rfl) rfl rfl rfl (Nat.le_of_ble_eq_true rfl) (sh_cont _ _ hb2 hi) dX7_readRule_63 (fun H locs hP hS => ?_)
        refine lv_aload_n hx hb dX7_readRule_66 rfl (lv_at hl 0 rfl) ?_
        refine va_ldcS hx hb hown (hE.2.2.2 6 (by decide)) dX7_readRule_67 ?_
        refine callvY (y := yX7_readWord) ⟨hx, hb, hml, hown, ht⟩ hK hN hE hP hS (k := 1) (c_X7_readWord l D ca ad hI adK adV (s2 S19_ (83 + 57 * b + 3 * i) 3 ((S19_ 1) 4)) τ (by decide)) (by decide) (sh_read _ _) rfl ok_X7_readWord gw_415 ⟨by decide, by decide⟩ rfl hl.1 rfl (Nat.le_of_ble_eq_true rfl) ⟨by decide, by decide⟩ dX7_readRule_69 (fun v_ S_ T_ H locs hp21 hP hS => ?_)
        obtain ⟨rfl, rfl, rfl⟩ := hp21
        try dsimp only [Option.toList, List.cons_append, List.nil_append]
        obtain ⟨S22_, hA22_⟩ : ∃ X_ : MI, X_ = (rwM (s2 S19_ (83 + 57 * b + 3 * i) 3 ((S19_ 1) 4)) 6) := ⟨_, rfl⟩
        rw [← hA22_] at hP
        refine br_eq (tgt := 85) hx hb dX7_readRule_72 (by decide) (fun c23 => ?_) (fun c23 => ?_)
        · refine lv_iconst (v := 0) hx hb dX7_readRule_85 (by decide) ?_
          subst hA22_
          subst hA19_
          subst hA17_
          exact ret_z hx hb hr hlk hP hS dX7_readRule_86 (b := false) rfl (⟨by simp only [rrP, rrA, rrB, rrC, rrD, (bt_F c2), c15, c20, c23, ↓reduceIte, Bool.false_eq_true], by simp only [rrP, rrA, rrB, rrC, rrD, (bt_F c2), c15, c20, c23, ↓reduceIte, Bool.false_eq_true], rfl⟩)
        · refine lv_aload_n hx hb dX7_readRule_75 rfl (lv_at hl 0 rfl) ?_
          refine lv_iconst (v := 0) hx hb dX7_readRule_76 (by decide) ?_
          refine lv_bipush (v := 100) hx hb dX7_readRule_77 (by decide) ?_
          refine callv (y := yX7_readNumber) ⟨hx, hb, hml, hown, ht⟩ hK hN hP hS (k := 1) (c_X7_readNumber l D ca ad hI S22_ τ (0 : Int32) (100 : Int32)) (by decide) (sh_read _ _) rfl ok_X7_readNumber gw_476 ⟨by decide, by decide⟩ rfl hl.1 rfl (Nat.le_of_ble_eq_true rfl) ⟨by decide, by decide⟩ dX7_readRule_79 (fun v_ S_ T_ H locs hp24 hP hS => ?_)
          obtain ⟨rfl, rfl, rfl⟩ := hp24
          try dsimp only [Option.toList, List.cons_append, List.nil_append]
          obtain ⟨S25_, hA25_⟩ : ∃ X_ : MI, X_ = (rnM S22_ (0 : Int32) (100 : Int32)) := ⟨_, rfl⟩
          rw [← hA25_] at hP
          refine br_ne (tgt := 87) hx hb dX7_readRule_82 (by decide) (fun c26 => ?_) (fun c26 => ?_)
          · refine lv_aload_n hx hb dX7_readRule_87 rfl (lv_at hl 1 rfl) ?_
            refine lv_aload_n hx hb dX7_readRule_88 rfl (lv_at hl 0 rfl) ?_
            refine fgetx hx hb ht inG7 hown hK hP (k := 1) (by decide) (x := (S25_ 1)) rfl (sh_read _ _) rfl 4 (by decide) gw_240 (v := .int ((S25_ 1) 4)) rfl dX7_readRule_89 ?_
            refine fputxN (ref := "") (w := (S25_ 1) 4) hx hb ht inG1 tyX1 tyX1_ok nmX1 hown hK hP hI hS (k := (83 + 57 * b + 3 * i)) (by omega) (sh_cont _ _ hb2 hi) rfl 4 (by decide) (hN.get 181 nw_181 rfl) rfl rfl rfl (Nat.le_of_ble_eq_true rfl) (sh_cont _ _ hb2 hi) dX7_readRule_92 (fun H locs hP hS => ?_)
            refine lv_iconst (v := 1) hx hb dX7_readRule_95 (by decide) ?_
            subst hA25_
            subst hA22_
            subst hA19_
            subst hA17_
            exact ret_z hx hb hr hlk hP hS dX7_readRule_96 (b := true) rfl (⟨by simp only [rrP, rrA, rrB, rrC, rrD, (bt_F c2), c15, c20, c23, c26, ↓reduceIte, Bool.false_eq_true], by simp only [rrP, rrA, rrB, rrC, rrD, (bt_F c2), c15, c20, c23, c26, ↓reduceIte, Bool.false_eq_true], rfl⟩)
          · refine lv_iconst (v := 0) hx hb dX7_readRule_85 (by decide) ?_
            subst hA25_
            subst hA22_
            subst hA19_
            subst hA17_
            exact ret_z hx hb hr hlk hP hS dX7_readRule_86 (b := false) rfl (⟨by simp only [rrP, rrA, rrB, rrC, rrD, (bt_F c2), c15, c20, c23, c26, ↓reduceIte, Bool.false_eq_true], by simp only [rrP, rrA, rrB, rrC, rrD, (bt_F c2), c15, c20, c23, c26, ↓reduceIte, Bool.false_eq_true], rfl⟩)
      · refine lv_iconst (v := 0) hx hb dX7_readRule_56 (by decide) ?_
        subst hA19_
        subst hA17_
        exact ret_z hx hb hr hlk hP hS dX7_readRule_57 (b := false) rfl (⟨by simp only [rrP, rrA, rrB, rrC, rrD, (bt_F c2), c15, c20, ↓reduceIte, Bool.false_eq_true], by simp only [rrP, rrA, rrB, rrC, rrD, (bt_F c2), c15, c20, ↓reduceIte, Bool.false_eq_true], rfl⟩)
    · refine lv_aload_n hx hb dX7_readRule_32 rfl (lv_at hl 0 rfl) ?_
      refine lv_iconst (v := 1) hx hb dX7_readRule_33 (by decide) ?_
      refine callv (y := yX7_refuse) ⟨hx, hb, hml, hown, ht⟩ hK hN hP hS (k := 1) (c_X7_refuse l D ca ad hI (s2 σ (83 + 57 * b + 3 * i) 5 (b2i (isWd σ 5))) τ (1 : Int32)) (by decide) (sh_read _ _) rfl ok_X7_refuse gw_471 ⟨by decide, by decide⟩ rfl hl.1 rfl (Nat.le_of_ble_eq_true rfl) ⟨by decide, by decide⟩ dX7_readRule_34 (fun v_ S_ T_ H locs hp27 hP hS => ?_)
      obtain ⟨rfl, rfl, rfl⟩ := hp27
      try dsimp only [Option.toList, List.cons_append, List.nil_append]
      obtain ⟨S28_, hA28_⟩ : ∃ X_ : MI, X_ = (s2 (s2 σ (83 + 57 * b + 3 * i) 5 (b2i (isWd σ 5))) 1 5 (1 : Int32)) := ⟨_, rfl⟩
      rw [← hA28_] at hP
      subst hA28_
      exact ret_z hx hb hr hlk hP hS dX7_readRule_37 (b := false) rfl (⟨by simp only [rrP, rrA, rrB, rrC, rrD, (bt_F c2), c15, ↓reduceIte, Bool.false_eq_true], by simp only [rrP, rrA, rrB, rrC, rrD, (bt_F c2), c15, ↓reduceIte, Bool.false_eq_true], rfl⟩)
set_option maxHeartbeats 4000000 in
set_option maxRecDepth 100000 in
theorem c_X7_readContract (l : Launch) (D : va_G) (ca : Nat → ClassId) (ad : Nat → Nat) (hI : Inj 158 ad) (adK adV : Nat → Nat) (σ : MI) (τ : ML)  : CY l D (TY ca) 158 ad (cxf ca ad) adK adV yX7_readContract cX7_readContract 2 (some .boolean) 7 150 [.ref (ad 1)] σ τ (fun v_ S_ T_ => some (.int (b2i ((rcP σ).1))) = v_ ∧ ((rcP σ).2) = S_ ∧ τ = T_) := by
  refine CY.of (by decide) (Nat.le_of_ble_eq_true rfl) ?_
  intro p e s m args below meth c hx hb hr ht hown hlk hml hP hK hN hS ls hl hE
  have hl : lv_has ls 2 [(0, .ref (ad 1))] := hl
  have hbz := bz_lt (σ 1 3)
  refine lv_aload_n hx hb dX7_readContract_0 rfl (lv_at hl 0 rfl) ?_
  refine fgetx hx hb ht inG7 hown hK hP (k := 1) (by decide) (x := (σ 1)) rfl (sh_read _ _) rfl 3 (by decide) gw_239 (v := .ref (ad (44 + 57 * (bz ((σ 1) 3))))) rfl dX7_readContract_1 ?_
  refine callv (y := yX0_addContract) ⟨hx, hb, hml, hown, ht⟩ hK hN hP hS (k := (44 + 57 * (bz ((σ 1) 3)))) (c_X0_addContract l D ca ad hI σ τ (bz_lt _)) (by have b0_ : (bz ((σ 1) 3)) < 2 := (bz_lt _); omega) (sh_book _ _ (bz_lt _)) rfl ok_X0_addContract gw_489 ⟨by decide, by decide⟩ rfl hl.1 rfl (Nat.le_of_ble_eq_true rfl) ⟨by decide, by decide⟩ dX7_readContract_4 (fun v_ S_ T_ H locs hp1 hP hS => ?_)
  rcases hp1 with ⟨hp1, rfl, rfl, rfl⟩ | ⟨hp1, rfl, rfl, rfl⟩
  · try dsimp only [Option.toList, List.cons_append, List.nil_append]
    refine lv_astore_nN (lv' := [(1, .null), (0, .ref (ad 1))]) hx hb dX7_readContract_7 rfl hl (by decide) rfl (fun ls hl => ?_)
    refine lv_aload_nN hx hb dX7_readContract_8 rfl (lv_at hl 0 rfl) ?_
    refine lv_ifnonnullN hx hb dX7_readContract_9 ?_
    refine lv_aload_n hx hb dX7_readContract_12 rfl (lv_at hl 1 rfl) ?_
    refine lv_iconst (v := 4) hx hb dX7_readContract_13 (by decide) ?_
    refine callv (y := yX7_refuse) ⟨hx, hb, hml, hown, ht⟩ hK hN hP hS (k := 1) (c_X7_refuse l D ca ad hI σ τ (4 : Int32)) (by decide) (sh_read _ _) rfl ok_X7_refuse gw_471 ⟨by decide, by decide⟩ rfl hl.1 rfl (Nat.le_of_ble_eq_true rfl) ⟨by decide, by decide⟩ dX7_readContract_14 (fun v_ S_ T_ H locs hp2 hP hS => ?_)
    obtain ⟨rfl, rfl, rfl⟩ := hp2
    try dsimp only [Option.toList, List.cons_append, List.nil_append]
    obtain ⟨S3_, hA3_⟩ : ∃ X_ : MI, X_ = (s2 σ 1 5 (4 : Int32)) := ⟨_, rfl⟩
    rw [← hA3_] at hP
    subst hA3_
    exact ret_z hx hb hr hlk hP hS dX7_readContract_17 (b := false) rfl (⟨by simp only [rcP, rcA, rcB, rcC, rcD, rcE, rcF, rcG, hp1, ↓reduceIte, Bool.false_eq_true], by simp only [rcP, rcA, rcB, rcC, rcD, rcE, rcF, rcG, hp1, ↓reduceIte, Bool.false_eq_true], rfl⟩)
  · try dsimp only [Option.toList, List.cons_append, List.nil_append]
    have hXhp1 := (inL_6 hp1)
    obtain ⟨S4_, hA4_⟩ : ∃ X_ : MI, X_ = (acS σ (bz ((σ 1) 3))) := ⟨_, rfl⟩
    rw [← hA4_] at hP
    refine lv_astore_n (lv' := [(1, .ref (ad (83 + 57 * (bz ((σ 1) 3)) + 3 * (σ (44 + 57 * (bz ((σ 1) 3))) 2).toNatClampNeg))), (0, .ref (ad 1))]) hx hb dX7_readContract_7 rfl hl (by decide) rfl (fun ls hl => ?_)
    refine lv_aload_n hx hb dX7_readContract_8 rfl (lv_at hl 0 rfl) ?_
    refine lv_ifnonnull (tgt := 18) hx hb dX7_readContract_9 (by decide) ?_
    refine lv_aload_n hx hb dX7_readContract_18 rfl (lv_at hl 1 rfl) ?_
    refine fgetx hx hb ht inG7 hown hK hP (k := 1) (by decide) (x := (σ 1)) ((congrFun hA4_ 1).trans (acS_lo _ (by omega))) (sh_read _ _) rfl 0 (by decide) gw_235 (v := .ref (ad 2)) rfl dX7_readContract_19 ?_
    refine callv (y := yX6_advance) ⟨hx, hb, hml, hown, ht⟩ hK hN hP hS (k := 2) (c_X6_advance l D ca ad hI S4_ τ ) (by decide) (sh_tape _ _) rfl ok_X6_advance gw_475 ⟨by decide, by decide⟩ rfl hl.1 rfl (Nat.le_of_ble_eq_true rfl) ⟨by decide, by decide⟩ dX7_readContract_22 (fun v_ S_ T_ H locs hp5 hP hS => ?_)
    obtain ⟨rfl, rfl, rfl⟩ := hp5
    try dsimp only [Option.toList, List.cons_append, List.nil_append]
    obtain ⟨S6_, hA6_⟩ : ∃ X_ : MI, X_ = (adS S4_) := ⟨_, rfl⟩
    rw [← hA6_] at hP
    refine lv_aload_n hx hb dX7_readContract_25 rfl (lv_at hl 1 rfl) ?_
    refine lv_iconst (v := 1) hx hb dX7_readContract_26 (by decide) ?_
    refine lv_sipush (v := 9999) hx hb dX7_readContract_27 (by decide) ?_
    refine callv (y := yX7_readNumber) ⟨hx, hb, hml, hown, ht⟩ hK hN hP hS (k := 1) (c_X7_readNumber l D ca ad hI S6_ τ (1 : Int32) (9999 : Int32)) (by decide) (sh_read _ _) rfl ok_X7_readNumber gw_476 ⟨by decide, by decide⟩ rfl hl.1 rfl (Nat.le_of_ble_eq_true rfl) ⟨by decide, by decide⟩ dX7_readContract_30 (fun v_ S_ T_ H locs hp7 hP hS => ?_)
    obtain ⟨rfl, rfl, rfl⟩ := hp7
    try dsimp only [Option.toList, List.cons_append, List.nil_append]
    obtain ⟨S8_, hA8_⟩ : ∃ X_ : MI, X_ = (rnM S6_ (1 : Int32) (9999 : Int32)) := ⟨_, rfl⟩
    rw [← hA8_] at hP
    refine br_ne (tgt := 38) hx hb dX7_readContract_33 (by decide) (fun c9 => ?_) (fun c9 => ?_)
    · refine lv_aload_n hx hb dX7_readContract_38 rfl (lv_at hl 0 rfl) ?_
      refine lv_aload_n hx hb dX7_readContract_39 rfl (lv_at hl 1 rfl) ?_
      refine fgetx hx hb ht inG7 hown hK hP (k := 1) (by decide) (x := (S8_ 1)) rfl (sh_read _ _) rfl 4 (by decide) gw_240 (v := .int ((S8_ 1) 4)) rfl dX7_readContract_40 ?_
      refine fputxN (ref := "") (w := (S8_ 1) 4) hx hb ht inG1 tyX1 tyX1_ok nmX1 hown hK hP hI hS (k := (83 + 57 * (bz ((σ 1) 3)) + 3 * (σ (44 + 57 * (bz ((σ 1) 3))) 2).toNatClampNeg)) (by have b0_ : (bz ((σ 1) 3)) < 2 := (bz_lt _); have b1_ : (σ (44 + 57 * (bz ((σ 1) 3))) 2).toNatClampNeg < 6 := (inL_6 hp1); omega) (sh_cont _ _ (bz_lt _) (inL_6 hp1)) rfl 0 (by decide) (hN.get 167 nw_167 rfl) rfl rfl rfl (Nat.le_of_ble_eq_true rfl) (sh_cont _ _ (bz_lt _) (inL_6 hp1)) dX7_readContract_43 (fun H locs hP hS => ?_)
      refine lv_aload_n hx hb dX7_readContract_46 rfl (lv_at hl 1 rfl) ?_
      refine lv_bipush (v := 61) hx hb dX7_readContract_47 (by decide) ?_
      refine callv (y := yX7_readSign) ⟨hx, hb, hml, hown, ht⟩ hK hN hP hS (k := 1) (c_X7_readSign l D ca ad hI (s2 S8_ (83 + 57 * (bz ((σ 1) 3)) + 3 * (σ (44 + 57 * (bz ((σ 1) 3))) 2).toNatClampNeg) 0 ((S8_ 1) 4)) τ (61 : Int32)) (by decide) (sh_read _ _) rfl ok_X7_readSign gw_493 ⟨by decide, by decide⟩ rfl hl.1 rfl (Nat.le_of_ble_eq_true rfl) ⟨by decide, by decide⟩ dX7_readContract_49 (fun v_ S_ T_ H locs hp10 hP hS => ?_)
      obtain ⟨rfl, rfl, rfl⟩ := hp10
      try dsimp only [Option.toList, List.cons_append, List.nil_append]
      obtain ⟨S11_, hA11_⟩ : ∃ X_ : MI, X_ = (rsM (s2 S8_ (83 + 57 * (bz ((σ 1) 3)) + 3 * (σ (44 + 57 * (bz ((σ 1) 3))) 2).toNatClampNeg) 0 ((S8_ 1) 4)) (61 : Int32)) := ⟨_, rfl⟩
      rw [← hA11_] at hP
      refine br_eq (tgt := 66) hx hb dX7_readContract_52 (by decide) (fun c12 => ?_) (fun c12 => ?_)
      · refine lv_iconst (v := 0) hx hb dX7_readContract_66 (by decide) ?_
        subst hA11_
        subst hA8_
        subst hA6_
        subst hA4_
        exact ret_z hx hb hr hlk hP hS dX7_readContract_67 (b := false) rfl (⟨by simp only [rcP, rcA, rcB, rcC, rcD, rcE, rcF, rcG, hp1, c9, c12, ↓reduceIte, Bool.false_eq_true], by simp only [rcP, rcA, rcB, rcC, rcD, rcE, rcF, rcG, hp1, c9, c12, ↓reduceIte, Bool.false_eq_true], rfl⟩)
      · refine lv_aload_n hx hb dX7_readContract_55 rfl (lv_at hl 1 rfl) ?_
        refine lv_iconst (v := 0) hx hb dX7_readContract_56 (by decide) ?_
        refine lv_sipush (v := 1000) hx hb dX7_readContract_57 (by decide) ?_
        refine callv (y := yX7_readNumber) ⟨hx, hb, hml, hown, ht⟩ hK hN hP hS (k := 1) (c_X7_readNumber l D ca ad hI S11_ τ (0 : Int32) (1000 : Int32)) (by decide) (sh_read _ _) rfl ok_X7_readNumber gw_476 ⟨by decide, by decide⟩ rfl hl.1 rfl (Nat.le_of_ble_eq_true rfl) ⟨by decide, by decide⟩ dX7_readContract_60 (fun v_ S_ T_ H locs hp13 hP hS => ?_)
        obtain ⟨rfl, rfl, rfl⟩ := hp13
        try dsimp only [Option.toList, List.cons_append, List.nil_append]
        obtain ⟨S14_, hA14_⟩ : ∃ X_ : MI, X_ = (rnM S11_ (0 : Int32) (1000 : Int32)) := ⟨_, rfl⟩
        rw [← hA14_] at hP
        refine br_ne (tgt := 68) hx hb dX7_readContract_63 (by decide) (fun c15 => ?_) (fun c15 => ?_)
        · refine lv_aload_n hx hb dX7_readContract_68 rfl (lv_at hl 0 rfl) ?_
          refine lv_aload_n hx hb dX7_readContract_69 rfl (lv_at hl 1 rfl) ?_
          refine fgetx hx hb ht inG7 hown hK hP (k := 1) (by decide) (x := (S14_ 1)) rfl (sh_read _ _) rfl 4 (by decide) gw_240 (v := .int ((S14_ 1) 4)) rfl dX7_readContract_70 ?_
          refine fputxN (ref := "") (w := (S14_ 1) 4) hx hb ht inG1 tyX1 tyX1_ok nmX1 hown hK hP hI hS (k := (83 + 57 * (bz ((σ 1) 3)) + 3 * (σ (44 + 57 * (bz ((σ 1) 3))) 2).toNatClampNeg)) (by have b0_ : (bz ((σ 1) 3)) < 2 := (bz_lt _); have b1_ : (σ (44 + 57 * (bz ((σ 1) 3))) 2).toNatClampNeg < 6 := (inL_6 hp1); omega) (sh_cont _ _ (bz_lt _) (inL_6 hp1)) rfl 1 (by decide) (hN.get 170 nw_170 rfl) rfl rfl rfl (Nat.le_of_ble_eq_true rfl) (sh_cont _ _ (bz_lt _) (inL_6 hp1)) dX7_readContract_73 (fun H locs hP hS => ?_)
          refine lv_aload_n hx hb dX7_readContract_76 rfl (lv_at hl 1 rfl) ?_
          refine lv_aload_n hx hb dX7_readContract_77 rfl (lv_at hl 0 rfl) ?_
          refine callvY (y := yX7_readTerms) ⟨hx, hb, hml, hown, ht⟩ hK hN hE hP hS (k := 1) (c_X7_readTerms l D ca ad hI adK adV (s2 S14_ (83 + 57 * (bz ((σ 1) 3)) + 3 * (σ (44 + 57 * (bz ((σ 1) 3))) 2).toNatClampNeg) 1 ((S14_ 1) 4)) τ (bz_lt _) (inL_6 hp1)) (by decide) (sh_read _ _) rfl ok_X7_readTerms gw_501 ⟨by decide, by decide⟩ rfl hl.1 rfl (Nat.le_of_ble_eq_true rfl) ⟨by decide, by decide⟩ dX7_readContract_78 (fun v_ S_ T_ H locs hp16 hP hS => ?_)
          obtain ⟨rfl, rfl, rfl⟩ := hp16
          try dsimp only [Option.toList, List.cons_append, List.nil_append]
          obtain ⟨S17_, hA17_⟩ : ∃ X_ : MI, X_ = ((rtL (bz ((σ 1) 3)) ((σ (44 + 57 * (bz ((σ 1) 3))) 2).toNatClampNeg) 7 (s2 S14_ (83 + 57 * (bz ((σ 1) 3)) + 3 * (σ (44 + 57 * (bz ((σ 1) 3))) 2).toNatClampNeg) 1 ((S14_ 1) 4))).2) := ⟨_, rfl⟩
          rw [← hA17_] at hP
          refine br_eq (tgt := 104) hx hb dX7_readContract_81 (by decide) (fun c18 => ?_) (fun c18 => ?_)
          · refine lv_iconst (v := 0) hx hb dX7_readContract_104 (by decide) ?_
            subst hA17_
            subst hA14_
            subst hA11_
            subst hA8_
            subst hA6_
            subst hA4_
            exact ret_z hx hb hr hlk hP hS dX7_readContract_105 (b := false) rfl (⟨by simp only [rcP, rcA, rcB, rcC, rcD, rcE, rcF, rcG, hp1, c9, c12, c15, c18, ↓reduceIte, Bool.false_eq_true], by simp only [rcP, rcA, rcB, rcC, rcD, rcE, rcF, rcG, hp1, c9, c12, c15, c18, ↓reduceIte, Bool.false_eq_true], rfl⟩)
          · refine lv_aload_n hx hb dX7_readContract_84 rfl (lv_at hl 1 rfl) ?_
            refine lv_aload_n hx hb dX7_readContract_85 rfl (lv_at hl 0 rfl) ?_
            refine callvY (y := yX7_readBase) ⟨hx, hb, hml, hown, ht⟩ hK hN hE hP hS (k := 1) (c_X7_readBase l D ca ad hI adK adV S17_ τ (bz_lt _) (inL_6 hp1)) (by decide) (sh_read _ _) rfl ok_X7_readBase gw_530 ⟨by decide, by decide⟩ rfl hl.1 rfl (Nat.le_of_ble_eq_true rfl) ⟨by decide, by decide⟩ dX7_readContract_86 (fun v_ S_ T_ H locs hp19 hP hS => ?_)
            obtain ⟨rfl, rfl, rfl⟩ := hp19
            try dsimp only [Option.toList, List.cons_append, List.nil_append]
            obtain ⟨S20_, hA20_⟩ : ∃ X_ : MI, X_ = ((rbP S17_ (bz ((σ 1) 3)) ((σ (44 + 57 * (bz ((σ 1) 3))) 2).toNatClampNeg)).2) := ⟨_, rfl⟩
            rw [← hA20_] at hP
            refine br_eq (tgt := 104) hx hb dX7_readContract_89 (by decide) (fun c21 => ?_) (fun c21 => ?_)
            · refine lv_iconst (v := 0) hx hb dX7_readContract_104 (by decide) ?_
              subst hA20_
              subst hA17_
              subst hA14_
              subst hA11_
              subst hA8_
              subst hA6_
              subst hA4_
              exact ret_z hx hb hr hlk hP hS dX7_readContract_105 (b := false) rfl (⟨by simp only [rcP, rcA, rcB, rcC, rcD, rcE, rcF, rcG, hp1, c9, c12, c15, c18, c21, ↓reduceIte, Bool.false_eq_true], by simp only [rcP, rcA, rcB, rcC, rcD, rcE, rcF, rcG, hp1, c9, c12, c15, c18, c21, ↓reduceIte, Bool.false_eq_true], rfl⟩)
            · refine lv_aload_n hx hb dX7_readContract_92 rfl (lv_at hl 1 rfl) ?_
              refine lv_aload_n hx hb dX7_readContract_93 rfl (lv_at hl 0 rfl) ?_
              refine callvY (y := yX7_readRule) ⟨hx, hb, hml, hown, ht⟩ hK hN hE hP hS (k := 1) (c_X7_readRule l D ca ad hI adK adV S20_ τ (bz_lt _) (inL_6 hp1)) (by decide) (sh_read _ _) rfl ok_X7_readRule gw_553 ⟨by decide, by decide⟩ rfl hl.1 rfl (Nat.le_of_ble_eq_true rfl) ⟨by decide, by decide⟩ dX7_readContract_94 (fun v_ S_ T_ H locs hp22 hP hS => ?_)
              obtain ⟨rfl, rfl, rfl⟩ := hp22
              try dsimp only [Option.toList, List.cons_append, List.nil_append]
              obtain ⟨S23_, hA23_⟩ : ∃ X_ : MI, X_ = ((rrP S20_ (bz ((σ 1) 3)) ((σ (44 + 57 * (bz ((σ 1) 3))) 2).toNatClampNeg)).2) := ⟨_, rfl⟩
              rw [← hA23_] at hP
              refine br_eq (tgt := 104) hx hb dX7_readContract_97 (by decide) (fun c24 => ?_) (fun c24 => ?_)
              · refine lv_iconst (v := 0) hx hb dX7_readContract_104 (by decide) ?_
                subst hA23_
                subst hA20_
                subst hA17_
                subst hA14_
                subst hA11_
                subst hA8_
                subst hA6_
                subst hA4_
                exact ret_z hx hb hr hlk hP hS dX7_readContract_105 (b := false) rfl (⟨by simp only [rcP, rcA, rcB, rcC, rcD, rcE, rcF, rcG, hp1, c9, c12, c15, c18, c21, c24, ↓reduceIte, Bool.false_eq_true], by simp only [rcP, rcA, rcB, rcC, rcD, rcE, rcF, rcG, hp1, c9, c12, c15, c18, c21, c24, ↓reduceIte, Bool.false_eq_true], rfl⟩)
              · refine lv_iconst (v := 1) hx hb dX7_readContract_100 (by decide) ?_
                refine lv_goto (tgt := 105) hx hb dX7_readContract_101 (by decide) ?_
                subst hA23_
                subst hA20_
                subst hA17_
                subst hA14_
                subst hA11_
                subst hA8_
                subst hA6_
                subst hA4_
                exact ret_z hx hb hr hlk hP hS dX7_readContract_105 (b := true) rfl (⟨by simp only [rcP, rcA, rcB, rcC, rcD, rcE, rcF, rcG, hp1, c9, c12, c15, c18, c21, c24, ↓reduceIte, Bool.false_eq_true], by simp only [rcP, rcA, rcB, rcC, rcD, rcE, rcF, rcG, hp1, c9, c12, c15, c18, c21, c24, ↓reduceIte, Bool.false_eq_true], rfl⟩)
        · refine lv_iconst (v := 0) hx hb dX7_readContract_66 (by decide) ?_
          subst hA14_
          subst hA11_
          subst hA8_
          subst hA6_
          subst hA4_
          exact ret_z hx hb hr hlk hP hS dX7_readContract_67 (b := false) rfl (⟨by simp only [rcP, rcA, rcB, rcC, rcD, rcE, rcF, rcG, hp1, c9, c12, c15, ↓reduceIte, Bool.false_eq_true], by simp only [rcP, rcA, rcB, rcC, rcD, rcE, rcF, rcG, hp1, c9, c12, c15, ↓reduceIte, Bool.false_eq_true], rfl⟩)
    · refine lv_iconst (v := 0) hx hb dX7_readContract_36 (by decide) ?_
      subst hA8_
      subst hA6_
      subst hA4_
      exact ret_z hx hb hr hlk hP hS dX7_readContract_37 (b := false) rfl (⟨by simp only [rcP, rcA, rcB, rcC, rcD, rcE, rcF, rcG, hp1, c9, ↓reduceIte, Bool.false_eq_true], by simp only [rcP, rcA, rcB, rcC, rcD, rcE, rcF, rcG, hp1, c9, ↓reduceIte, Bool.false_eq_true], rfl⟩)
