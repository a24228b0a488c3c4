set_option maxHeartbeats 4000000 in
set_option maxRecDepth 100000 in
theorem c_X8_isMonth (l : Launch) (D : va_G) (ca : Nat → ClassId) (ad : Nat → Nat) (hI : Inj 158 ad) (σ : MI) (τ : ML) (mo : Int32) : CT l D (TY ca) 158 ad (cxf ca ad) yX8_isMonth cX8_isMonth 1 (some .boolean) 0 0 [.int mo] σ τ (fun v_ S_ T_ => some (.int (b2i (isMon mo))) = v_ ∧ σ = S_ ∧ τ = T_) := by
  refine CT.of (by decide) (Nat.le_of_ble_eq_true rfl) ?_
  intro p e s m args below meth c hx hb hr ht hown hlk hml hP hK hN hS ls hl
  have hl : lv_has ls 1 [(0, .int mo)] := hl
  refine lv_iload_n hx hb dX8_isMonth_0 rfl (lv_at hl 0 rfl) ?_
  refine lv_if_lt (tgt := 14) hx hb dX8_isMonth_1 (by decide) (fun c1 => ?_) (fun c1 => ?_)
  · have dc1 := c1
    rw [i_lt] at dc1
    refine lv_iconst (v := 0) hx hb dX8_isMonth_14 (by decide) ?_
    exact ret_z hx hb hr hlk hP hS dX8_isMonth_15 (b := false) rfl ⟨by first | rfl | (simp only [isMon, c1, ↓reduceIte, Bool.false_eq_true]; done) | (simp only [isMon, c1, ↓reduceIte, Bool.false_eq_true]; rfl), by first | rfl | (simp only [isMon, c1, ↓reduceIte, Bool.false_eq_true]; done), rfl⟩
  · have dc1 := c1
    rw [i_lt] at dc1
    refine lv_iload_n hx hb dX8_isMonth_4 rfl (lv_at hl 0 rfl) ?_
    refine lv_bipush (v := 36) hx hb dX8_isMonth_5 (by decide) ?_
    refine lv_icmp_ge (tgt := 14) hx hb dX8_isMonth_7 (by decide) (fun c2 => ?_) (fun c2 => ?_)
    · have dc2 := c2
      rw [i_le] at dc2
      refine lv_iconst (v := 0) hx hb dX8_isMonth_14 (by decide) ?_
      exact ret_z hx hb hr hlk hP hS dX8_isMonth_15 (b := false) rfl ⟨by first | rfl | (simp only [isMon, c1, c2, ↓reduceIte, Bool.false_eq_true]; done) | (simp only [isMon, c1, c2, ↓reduceIte, Bool.false_eq_true]; rfl), by first | rfl | (simp only [isMon, c1, c2, ↓reduceIte, Bool.false_eq_true]; done), rfl⟩
    · have dc2 := c2
      rw [i_le] at dc2
      refine lv_iconst (v := 1) hx hb dX8_isMonth_10 (by decide) ?_
      refine lv_goto (tgt := 15) hx hb dX8_isMonth_11 (by decide) ?_
      exact ret_z hx hb hr hlk hP hS dX8_isMonth_15 (b := true) rfl ⟨by first | rfl | (simp only [isMon, c1, c2, ↓reduceIte, Bool.false_eq_true]; done) | (simp only [isMon, c1, c2, ↓reduceIte, Bool.false_eq_true]; rfl), by first | rfl | (simp only [isMon, c1, c2, ↓reduceIte, Bool.false_eq_true]; done), rfl⟩
set_option maxHeartbeats 4000000 in
set_option maxRecDepth 100000 in
theorem c_X8_isValue (l : Launch) (D : va_G) (ca : Nat → ClassId) (ad : Nat → Nat) (hI : Inj 158 ad) (σ : MI) (τ : ML) (v : Int32) : CT l D (TY ca) 158 ad (cxf ca ad) yX8_isValue cX8_isValue 1 (some .boolean) 0 0 [.int v] σ τ (fun v_ S_ T_ => some (.int (b2i (isVal v))) = v_ ∧ σ = S_ ∧ τ = T_) := by
  refine CT.of (by decide) (Nat.le_of_ble_eq_true rfl) ?_
  intro p e s m args below meth c hx hb hr ht hown hlk hml hP hK hN hS ls hl
  have hl : lv_has ls 1 [(0, .int v)] := hl
  refine lv_iload_n hx hb dX8_isValue_0 rfl (lv_at hl 0 rfl) ?_
  refine lv_iconst (v := 1) hx hb dX8_isValue_1 (by decide) ?_
  refine lv_icmp_lt (tgt := 16) hx hb dX8_isValue_2 (by decide) (fun c1 => ?_) (fun c1 => ?_)
  · have dc1 := c1
    rw [i_lt] at dc1
    refine lv_iconst (v := 0) hx hb dX8_isValue_16 (by decide) ?_
    exact ret_z hx hb hr hlk hP hS dX8_isValue_17 (b := false) rfl ⟨by first | rfl | (simp only [isVal, c1, ↓reduceIte, Bool.false_eq_true]; done) | (simp only [isVal, c1, ↓reduceIte, Bool.false_eq_true]; rfl), by first | rfl | (simp only [isVal, c1, ↓reduceIte, Bool.false_eq_true]; done), rfl⟩
  · have dc1 := c1
    rw [i_lt] at dc1
    refine lv_iload_n hx hb dX8_isValue_5 rfl (lv_at hl 0 rfl) ?_
    refine lv_sipush (v := 999) hx hb dX8_isValue_6 (by decide) ?_
    refine lv_icmp_gt (tgt := 16) hx hb dX8_isValue_9 (by decide) (fun c2 => ?_) (fun c2 => ?_)
    · have dc2 := c2
      rw [i_lt] at dc2
      refine lv_iconst (v := 0) hx hb dX8_isValue_16 (by decide) ?_
      exact ret_z hx hb hr hlk hP hS dX8_isValue_17 (b := false) rfl ⟨by first | rfl | (simp only [isVal, c1, c2, ↓reduceIte, Bool.false_eq_true]; done) | (simp only [isVal, c1, c2, ↓reduceIte, Bool.false_eq_true]; rfl), by first | rfl | (simp only [isVal, c1, c2, ↓reduceIte, Bool.false_eq_true]; done), rfl⟩
    · have dc2 := c2
      rw [i_lt] at dc2
      refine lv_iconst (v := 1) hx hb dX8_isValue_12 (by decide) ?_
      refine lv_goto (tgt := 17) hx hb dX8_isValue_13 (by decide) ?_
      exact ret_z hx hb hr hlk hP hS dX8_isValue_17 (b := true) rfl ⟨by first | rfl | (simp only [isVal, c1, c2, ↓reduceIte, Bool.false_eq_true]; done) | (simp only [isVal, c1, c2, ↓reduceIte, Bool.false_eq_true]; rfl), by first | rfl | (simp only [isVal, c1, c2, ↓reduceIte, Bool.false_eq_true]; done), rfl⟩
set_option maxHeartbeats 4000000 in
set_option maxRecDepth 100000 in
theorem c_X4_kindAt (l : Launch) (D : va_G) (ca : Nat → ClassId) (ad : Nat → Nat) (hI : Inj 158 ad) (σ : MI) (τ : ML) {b i : Nat} (hb2 : b < 2) (hi : i < 6) (mo : Int32) : CT l D (TY ca) 158 ad (cxf ca ad) yX4_kindAt cX4_kindAt 2 (some .int) 1 20 [.ref (ad (47 + 57 * b + 6 * i)), .int mo] σ τ (fun v_ S_ T_ => some (.int (kindS (σ (49 + 57 * b + 6 * i)) mo)) = v_ ∧ σ = S_ ∧ τ = T_) := by
  refine CT.of (by decide) (Nat.le_of_ble_eq_true rfl) ?_
  intro p e s m args below meth c hx hb hr ht hown hlk hml hP hK hN hS ls hl
  have hl : lv_has ls 2 [(0, .ref (ad (47 + 57 * b + 6 * i))), (1, .int mo)] := hl
  refine lv_iload_n hx hb dX4_kindAt_0 rfl (lv_at hl 1 rfl) ?_
  refine callsN (y := yX8_isMonth) ⟨hx, hb, hml, hown, ht⟩ hK hN hP hS (c_X8_isMonth l D ca ad hI σ τ mo) ok_X8_isMonth (hN.get 550 nw_550 rfl) ⟨by decide, by decide⟩ rfl hl.1 rfl (Nat.le_of_ble_eq_true rfl) ⟨by decide, by decide⟩ dX4_kindAt_1 (fun v_ S_ T_ H locs hp1 hP hS => ?_)
  obtain ⟨rfl, rfl, rfl⟩ := hp1
  try dsimp only [Option.toList, List.cons_append, List.nil_append]
  refine br_eq (tgt := 16) hx hb dX4_kindAt_4 (by decide) (fun c2 => ?_) (fun c2 => ?_)
  · refine lv_iconst (v := 0) hx hb dX4_kindAt_16 (by decide) ?_
    exact ret_i hx hb hr hlk hP hS dX4_kindAt_17 ⟨by first | rfl | (simp only [kindS, c2, ↓reduceIte, Bool.false_eq_true]; done) | (simp only [kindS, c2, ↓reduceIte, Bool.false_eq_true]; rfl), by first | rfl | (simp only [kindS, c2, ↓reduceIte, Bool.false_eq_true]; done), rfl⟩
  · refine lv_aload_n hx hb dX4_kindAt_7 rfl (lv_at hl 0 rfl) ?_
    refine fgetx hx hb ht inG4 hown hK hP (k := (47 + 57 * b + 6 * i)) (by omega) (x := (σ (47 + 57 * b + 6 * i))) rfl (sh_indx _ _ hb2 hi) rfl 1 (by decide) gw_136 (v := .ref (ad (49 + 57 * b + 6 * i))) rfl dX4_kindAt_8 ?_
    refine lv_iload_n hx hb dX4_kindAt_11 rfl (lv_at hl 1 rfl) ?_
    refine aldj hx hb hK hP (k := (49 + 57 * b + 6 * i)) (by omega) (x := (σ (49 + 57 * b + 6 * i))) rfl 0 (sh_knds _ _ hb2 hi) rfl (isMon_in ‹_›) (j := mo.toNatClampNeg) rfl dX4_kindAt_12 ?_
    refine lv_goto (tgt := 17) hx hb dX4_kindAt_13 (by decide) ?_
    exact ret_i hx hb hr hlk hP hS dX4_kindAt_17 ⟨by first | rfl | (simp only [kindS, c2, ↓reduceIte, Bool.false_eq_true]; done) | (simp only [kindS, c2, ↓reduceIte, Bool.false_eq_true]; rfl), by first | rfl | (simp only [kindS, c2, ↓reduceIte, Bool.false_eq_true]; done), rfl⟩
set_option maxHeartbeats 4000000 in
set_option maxRecDepth 100000 in
theorem c_X4_valueAt (l : Launch) (D : va_G) (ca : Nat → ClassId) (ad : Nat → Nat) (hI : Inj 158 ad) (σ : MI) (τ : ML) {b i : Nat} (hb2 : b < 2) (hi : i < 6) (mo : Int32) : CT l D (TY ca) 158 ad (cxf ca ad) yX4_valueAt cX4_valueAt 2 (some .int) 1 20 [.ref (ad (47 + 57 * b + 6 * i)), .int mo] σ τ (fun v_ S_ T_ => some (.int (valS (σ (48 + 57 * b + 6 * i)) (σ (49 + 57 * b + 6 * i)) mo)) = v_ ∧ σ = S_ ∧ τ = T_) := by
  refine CT.of (by decide) (Nat.le_of_ble_eq_true rfl) ?_
  intro p e s m args below meth c hx hb hr ht hown hlk hml hP hK hN hS ls hl
  have hl : lv_has ls 2 [(0, .ref (ad (47 + 57 * b + 6 * i))), (1, .int mo)] := hl
  refine lv_iload_n hx hb dX4_valueAt_0 rfl (lv_at hl 1 rfl) ?_
  refine callsN (y := yX8_isMonth) ⟨hx, hb, hml, hown, ht⟩ hK hN hP hS (c_X8_isMonth l D ca ad hI σ τ mo) ok_X8_isMonth (hN.get 550 nw_550 rfl) ⟨by decide, by decide⟩ rfl hl.1 rfl (Nat.le_of_ble_eq_true rfl) ⟨by decide, by decide⟩ dX4_valueAt_1 (fun v_ S_ T_ H locs hp1 hP hS => ?_)
  obtain ⟨rfl, rfl, rfl⟩ := hp1
  try dsimp only [Option.toList, List.cons_append, List.nil_append]
  refine br_eq (tgt := 25) hx hb dX4_valueAt_4 (by decide) (fun c2 => ?_) (fun c2 => ?_)
  · refine lv_iconst (v := -1) hx hb dX4_valueAt_25 (by decide) ?_
    exact ret_i hx hb hr hlk hP hS dX4_valueAt_26 ⟨by first | rfl | (simp only [valS, c2, ↓reduceIte, Bool.false_eq_true]; done) | (simp only [valS, c2, ↓reduceIte, Bool.false_eq_true]; rfl), by first | rfl | (simp only [valS, c2, ↓reduceIte, Bool.false_eq_true]; done), rfl⟩
  · refine lv_aload_n hx hb dX4_valueAt_7 rfl (lv_at hl 0 rfl) ?_
    refine fgetx hx hb ht inG4 hown hK hP (k := (47 + 57 * b + 6 * i)) (by omega) (x := (σ (47 + 57 * b + 6 * i))) rfl (sh_indx _ _ hb2 hi) rfl 1 (by decide) gw_136 (v := .ref (ad (49 + 57 * b + 6 * i))) rfl dX4_valueAt_8 ?_
    refine lv_iload_n hx hb dX4_valueAt_11 rfl (lv_at hl 1 rfl) ?_
    refine aldj hx hb hK hP (k := (49 + 57 * b + 6 * i)) (by omega) (x := (σ (49 + 57 * b + 6 * i))) rfl 0 (sh_knds _ _ hb2 hi) rfl (isMon_in ‹_›) (j := mo.toNatClampNeg) rfl dX4_valueAt_12 ?_
    refine lv_if_eq (tgt := 25) hx hb dX4_valueAt_13 (by decide) (fun c3 => ?_) (fun c3 => ?_)
    · have dc3 := c3
      rw [i_eq] at dc3
      refine lv_iconst (v := -1) hx hb dX4_valueAt_25 (by decide) ?_
      exact ret_i hx hb hr hlk hP hS dX4_valueAt_26 ⟨by first | rfl | (simp only [valS, c2, c3, ↓reduceIte, Bool.false_eq_true]; done) | (simp only [valS, c2, c3, ↓reduceIte, Bool.false_eq_true]; rfl), by first | rfl | (simp only [valS, c2, c3, ↓reduceIte, Bool.false_eq_true]; done), rfl⟩
    · have dc3 := c3
      rw [i_eq] at dc3
      refine lv_aload_n hx hb dX4_valueAt_16 rfl (lv_at hl 0 rfl) ?_
      refine fgetx hx hb ht inG4 hown hK hP (k := (47 + 57 * b + 6 * i)) (by omega) (x := (σ (47 + 57 * b + 6 * i))) rfl (sh_indx _ _ hb2 hi) rfl 0 (by decide) gw_135 (v := .ref (ad (48 + 57 * b + 6 * i))) rfl dX4_valueAt_17 ?_
      refine lv_iload_n hx hb dX4_valueAt_20 rfl (lv_at hl 1 rfl) ?_
      refine aldj hx hb hK hP (k := (48 + 57 * b + 6 * i)) (by omega) (x := (σ (48 + 57 * b + 6 * i))) rfl 0 (sh_vals _ _ hb2 hi) rfl (isMon_in ‹_›) (j := mo.toNatClampNeg) rfl dX4_valueAt_21 ?_
      refine lv_goto (tgt := 26) hx hb dX4_valueAt_22 (by decide) ?_
      exact ret_i hx hb hr hlk hP hS dX4_valueAt_26 ⟨by first | rfl | (simp only [valS, c2, c3, ↓reduceIte, Bool.false_eq_true]; done) | (simp only [valS, c2, c3, ↓reduceIte, Bool.false_eq_true]; rfl), by first | rfl | (simp only [valS, c2, c3, ↓reduceIte, Bool.false_eq_true]; done), rfl⟩
set_option maxHeartbeats 4000000 in
set_option maxRecDepth 100000 in
theorem c_X4_hasValue (l : Launch) (D : va_G) (ca : Nat → ClassId) (ad : Nat → Nat) (hI : Inj 158 ad) (σ : MI) (τ : ML) {b i : Nat} (hb2 : b < 2) (hi : i < 6) (mo : Int32) : CT l D (TY ca) 158 ad (cxf ca ad) yX4_hasValue cX4_hasValue 2 (some .boolean) 2 41 [.ref (ad (47 + 57 * b + 6 * i)), .int mo] σ τ (fun v_ S_ T_ => some (.int (b2i (hasS (σ (49 + 57 * b + 6 * i)) mo))) = v_ ∧ σ = S_ ∧ τ = T_) := by
  refine CT.of (by decide) (Nat.le_of_ble_eq_true rfl) ?_
  intro p e s m args below meth c hx hb hr ht hown hlk hml hP hK hN hS ls hl
  have hl : lv_has ls 2 [(0, .ref (ad (47 + 57 * b + 6 * i))), (1, .int mo)] := hl
  refine lv_aload_n hx hb dX4_hasValue_0 rfl (lv_at hl 0 rfl) ?_
  refine lv_iload_n hx hb dX4_hasValue_1 rfl (lv_at hl 1 rfl) ?_
  refine callv (y := yX4_kindAt) ⟨hx, hb, hml, hown, ht⟩ hK hN hP hS (k := (47 + 57 * b + 6 * i)) (c_X4_kindAt l D ca ad hI σ τ hb2 hi mo) (by omega) (sh_indx _ _ hb2 hi) rfl ok_X4_kindAt gw_546 ⟨by decide, by decide⟩ rfl hl.1 rfl (Nat.le_of_ble_eq_true rfl) ⟨by decide, by decide⟩ dX4_hasValue_2 (fun v_ S_ T_ H locs hp1 hP hS => ?_)
  obtain ⟨rfl, rfl, rfl⟩ := hp1
  try dsimp only [Option.toList, List.cons_append, List.nil_append]
  refine lv_if_eq (tgt := 12) hx hb dX4_hasValue_5 (by decide) (fun c2 => ?_) (fun c2 => ?_)
  · have dc2 := c2
    rw [i_eq] at dc2
    refine lv_iconst (v := 0) hx hb dX4_hasValue_12 (by decide) ?_
    exact ret_z hx hb hr hlk hP hS dX4_hasValue_13 (b := false) rfl ⟨by first | rfl | (simp only [hasS, c2, ↓reduceIte, Bool.false_eq_true]; done) | (simp only [hasS, c2, ↓reduceIte, Bool.false_eq_true]; rfl), by first | rfl | (simp only [hasS, c2, ↓reduceIte, Bool.false_eq_true]; done), rfl⟩
  · have dc2 := c2
    rw [i_eq] at dc2
    refine lv_iconst (v := 1) hx hb dX4_hasValue_8 (by decide) ?_
    refine lv_goto (tgt := 13) hx hb dX4_hasValue_9 (by decide) ?_
    exact ret_z hx hb hr hlk hP hS dX4_hasValue_13 (b := true) rfl ⟨by first | rfl | (simp only [hasS, c2, ↓reduceIte, Bool.false_eq_true]; done) | (simp only [hasS, c2, ↓reduceIte, Bool.false_eq_true]; rfl), by first | rfl | (simp only [hasS, c2, ↓reduceIte, Bool.false_eq_true]; done), rfl⟩
set_option maxHeartbeats 4000000 in
set_option maxRecDepth 100000 in
theorem c_X4_hasRebasing (l : Launch) (D : va_G) (ca : Nat → ClassId) (ad : Nat → Nat) (hI : Inj 158 ad) (σ : MI) (τ : ML) {b i : Nat} (hb2 : b < 2) (hi : i < 6) (k : Int32) : CT l D (TY ca) 158 ad (cxf ca ad) yX4_hasRebasing cX4_hasRebasing 2 (some .boolean) 0 0 [.ref (ad (47 + 57 * b + 6 * i)), .int k] σ τ (fun v_ S_ T_ => some (.int (b2i (inC k (σ (47 + 57 * b + 6 * i) 5) 3))) = v_ ∧ σ = S_ ∧ τ = T_) := by
  refine CT.of (by decide) (Nat.le_of_ble_eq_true rfl) ?_
  intro p e s m args below meth c hx hb hr ht hown hlk hml hP hK hN hS ls hl
  have hl : lv_has ls 2 [(0, .ref (ad (47 + 57 * b + 6 * i))), (1, .int k)] := hl
  refine lv_iload_n hx hb dX4_hasRebasing_0 rfl (lv_at hl 1 rfl) ?_
  refine lv_if_lt (tgt := 21) hx hb dX4_hasRebasing_1 (by decide) (fun c1 => ?_) (fun c1 => ?_)
  · have dc1 := c1
    rw [i_lt] at dc1
    refine lv_iconst (v := 0) hx hb dX4_hasRebasing_21 (by decide) ?_
    exact ret_z hx hb hr hlk hP hS dX4_hasRebasing_22 (b := false) rfl ⟨by first | rfl | (simp only [inC, c1, ↓reduceIte, Bool.false_eq_true]; done) | (simp only [inC, c1, ↓reduceIte, Bool.false_eq_true]; rfl), by first | rfl | (simp only [inC, c1, ↓reduceIte, Bool.false_eq_true]; done), rfl⟩
  · have dc1 := c1
    rw [i_lt] at dc1
    refine lv_iload_n hx hb dX4_hasRebasing_4 rfl (lv_at hl 1 rfl) ?_
    refine lv_aload_n hx hb dX4_hasRebasing_5 rfl (lv_at hl 0 rfl) ?_
    refine fgetx hx hb ht inG4 hown hK hP (k := (47 + 57 * b + 6 * i)) (by omega) (x := (σ (47 + 57 * b + 6 * i))) rfl (sh_indx _ _ hb2 hi) rfl 5 (by decide) gw_143 (v := .int ((σ (47 + 57 * b + 6 * i)) 5)) rfl dX4_hasRebasing_6 ?_
    refine lv_icmp_ge (tgt := 21) hx hb dX4_hasRebasing_9 (by decide) (fun c2 => ?_) (fun c2 => ?_)
    · have dc2 := c2
      rw [i_le] at dc2
      refine lv_iconst (v := 0) hx hb dX4_hasRebasing_21 (by decide) ?_
      exact ret_z hx hb hr hlk hP hS dX4_hasRebasing_22 (b := false) rfl ⟨by first | rfl | (simp only [inC, c1, c2, ↓reduceIte, Bool.false_eq_true]; done) | (simp only [inC, c1, c2, ↓reduceIte, Bool.false_eq_true]; rfl), by first | rfl | (simp only [inC, c1, c2, ↓reduceIte, Bool.false_eq_true]; done), rfl⟩
    · have dc2 := c2
      rw [i_le] at dc2
      refine lv_iload_n hx hb dX4_hasRebasing_12 rfl (lv_at hl 1 rfl) ?_
      refine lv_iconst (v := 3) hx hb dX4_hasRebasing_13 (by decide) ?_
      refine lv_icmp_ge (tgt := 21) hx hb dX4_hasRebasing_14 (by decide) (fun c3 => ?_) (fun c3 => ?_)
      · have dc3 := c3
        rw [i_le] at dc3
        refine lv_iconst (v := 0) hx hb dX4_hasRebasing_21 (by decide) ?_
        exact ret_z hx hb hr hlk hP hS dX4_hasRebasing_22 (b := false) rfl ⟨by first | rfl | (simp only [inC, c1, c2, c3, ↓reduceIte, Bool.false_eq_true]; done) | (simp only [inC, c1, c2, c3, ↓reduceIte, Bool.false_eq_true]; rfl), by first | rfl | (simp only [inC, c1, c2, c3, ↓reduceIte, Bool.false_eq_true]; done), rfl⟩
      · have dc3 := c3
        rw [i_le] at dc3
        refine lv_iconst (v := 1) hx hb dX4_hasRebasing_17 (by decide) ?_
        refine lv_goto (tgt := 22) hx hb dX4_hasRebasing_18 (by decide) ?_
        exact ret_z hx hb hr hlk hP hS dX4_hasRebasing_22 (b := true) rfl ⟨by first | rfl | (simp only [inC, c1, c2, c3, ↓reduceIte, Bool.false_eq_true]; done) | (simp only [inC, c1, c2, c3, ↓reduceIte, Bool.false_eq_true]; rfl), by first | rfl | (simp only [inC, c1, c2, c3, ↓reduceIte, Bool.false_eq_true]; done), rfl⟩
set_option maxHeartbeats 4000000 in
set_option maxRecDepth 100000 in
theorem c_X4_put (l : Launch) (D : va_G) (ca : Nat → ClassId) (ad : Nat → Nat) (hI : Inj 158 ad) (σ : MI) (τ : ML) {b i : Nat} (hb2 : b < 2) (hi : i < 6) (mo v k : Int32) : CT l D (TY ca) 158 ad (cxf ca ad) yX4_put cX4_put 4 none 1 20 [.ref (ad (47 + 57 * b + 6 * i)), .int mo, .int v, .int k] σ τ (fun v_ S_ T_ => none = v_ ∧ putS σ b i mo v k = S_ ∧ τ = T_) := by
  refine CT.of (by decide) (Nat.le_of_ble_eq_true rfl) ?_
  intro p e s m args below meth c hx hb hr ht hown hlk hml hP hK hN hS ls hl
  have hl : lv_has ls 4 [(0, .ref (ad (47 + 57 * b + 6 * i))), (1, .int mo), (2, .int v), (3, .int k)] := hl
  refine lv_iload_n hx hb dX4_put_0 rfl (lv_at hl 1 rfl) ?_
  refine callsN (y := yX8_isMonth) ⟨hx, hb, hml, hown, ht⟩ hK hN hP hS (c_X8_isMonth l D ca ad hI σ τ mo) ok_X8_isMonth (hN.get 550 nw_550 rfl) ⟨by decide, by decide⟩ rfl hl.1 rfl (Nat.le_of_ble_eq_true rfl) ⟨by decide, by decide⟩ dX4_put_1 (fun v_ S_ T_ H locs hp1 hP hS => ?_)
  obtain ⟨rfl, rfl, rfl⟩ := hp1
  try dsimp only [Option.toList, List.cons_append, List.nil_append]
  refine br_eq (tgt := 21) hx hb dX4_put_4 (by decide) (fun c2 => ?_) (fun c2 => ?_)
  · exact ret_v hx hb hr hlk hP hS dX4_put_21 ⟨by first | rfl | (simp only [putS, c2, ↓reduceIte, Bool.false_eq_true]; done) | (simp only [putS, c2, ↓reduceIte, Bool.false_eq_true]; rfl), by first | rfl | (simp only [putS, c2, ↓reduceIte, Bool.false_eq_true]; done), rfl⟩
  · refine lv_aload_n hx hb dX4_put_7 rfl (lv_at hl 0 rfl) ?_
    refine fgetx hx hb ht inG4 hown hK hP (k := (47 + 57 * b + 6 * i)) (by omega) (x := (σ (47 + 57 * b + 6 * i))) rfl (sh_indx _ _ hb2 hi) rfl 0 (by decide) gw_135 (v := .ref (ad (48 + 57 * b + 6 * i))) rfl dX4_put_8 ?_
    refine lv_iload_n hx hb dX4_put_11 rfl (lv_at hl 1 rfl) ?_
    refine lv_iload_n hx hb dX4_put_12 rfl (lv_at hl 2 rfl) ?_
    refine astj hx hb hK hP hI hS (k := (48 + 57 * b + 6 * i)) (by omega) 0 (fun f => sh_vals f _ hb2 hi) rfl (isMon_in ‹_›) (j := mo.toNatClampNeg) rfl dX4_put_13 (fun H locs hP hS => ?_)
    refine lv_aload_n hx hb dX4_put_14 rfl (lv_at hl 0 rfl) ?_
    refine fgetx hx hb ht inG4 hown hK hP (k := (47 + 57 * b + 6 * i)) (by omega) (x := (σ (47 + 57 * b + 6 * i))) (s2_nk _ _ _ (by omega)) (sh_indx _ _ hb2 hi) rfl 1 (by decide) gw_136 (v := .ref (ad (49 + 57 * b + 6 * i))) rfl dX4_put_15 ?_
    refine lv_iload_n hx hb dX4_put_18 rfl (lv_at hl 1 rfl) ?_
    refine lv_iload_n hx hb dX4_put_19 rfl (lv_at hl 3 rfl) ?_
    refine astj hx hb hK hP hI hS (k := (49 + 57 * b + 6 * i)) (by omega) 0 (fun f => sh_knds f _ hb2 hi) rfl (isMon_in ‹_›) (j := mo.toNatClampNeg) rfl dX4_put_20 (fun H locs hP hS => ?_)
    exact ret_v hx hb hr hlk hP hS dX4_put_21 ⟨by first | rfl | (simp only [putS, c2, ↓reduceIte, Bool.false_eq_true]; done) | (simp only [putS, c2, ↓reduceIte, Bool.false_eq_true]; rfl), by first | rfl | (simp only [putS, c2, ↓reduceIte, Bool.false_eq_true]; done), rfl⟩
set_option maxHeartbeats 4000000 in
set_option maxRecDepth 100000 in
theorem c_X4_latestRebasing (l : Launch) (D : va_G) (ca : Nat → ClassId) (ad : Nat → Nat) (hI : Inj 158 ad) (σ : MI) (τ : ML) {b i : Nat} (hb2 : b < 2) (hi : i < 6) : CT l D (TY ca) 158 ad (cxf ca ad) yX4_latestRebasing cX4_latestRebasing 1 (some .int) 1 21 [.ref (ad (47 + 57 * b + 6 * i))] σ τ (fun v_ S_ T_ => some (.int (lateS (σ (47 + 57 * b + 6 * i) 5) (σ (50 + 57 * b + 6 * i)))) = v_ ∧ σ = S_ ∧ τ = T_) := by
  refine CT.of (by decide) (Nat.le_of_ble_eq_true rfl) ?_
  intro p e s m args below meth c hx hb hr ht hown hlk hml hP hK hN hS ls hl
  have hl : lv_has ls 1 [(0, .ref (ad (47 + 57 * b + 6 * i)))] := hl
  refine lv_aload_n hx hb dX4_latestRebasing_0 rfl (lv_at hl 0 rfl) ?_
  refine lv_aload_n hx hb dX4_latestRebasing_1 rfl (lv_at hl 0 rfl) ?_
  refine fgetx hx hb ht inG4 hown hK hP (k := (47 + 57 * b + 6 * i)) (by omega) (x := (σ (47 + 57 * b + 6 * i))) rfl (sh_indx _ _ hb2 hi) rfl 5 (by decide) gw_143 (v := .int ((σ (47 + 57 * b + 6 * i)) 5)) rfl dX4_latestRebasing_2 ?_
  refine lv_iconst (v := 1) hx hb dX4_latestRebasing_5 (by decide) ?_
  refine lv_isub hx hb dX4_latestRebasing_6 ?_
  refine callv (y := yX4_hasRebasing) ⟨hx, hb, hml, hown, ht⟩ hK hN hP hS (k := (47 + 57 * b + 6 * i)) (c_X4_hasRebasing l D ca ad hI σ τ hb2 hi (((σ (47 + 57 * b + 6 * i)) 5) - 1)) (by omega) (sh_indx _ _ hb2 hi) rfl ok_X4_hasRebasing gw_724 ⟨by decide, by decide⟩ rfl hl.1 rfl (Nat.le_of_ble_eq_true rfl) ⟨by decide, by decide⟩ dX4_latestRebasing_7 (fun v_ S_ T_ H locs hp1 hP hS => ?_)
  obtain ⟨rfl, rfl, rfl⟩ := hp1
  try dsimp only [Option.toList, List.cons_append, List.nil_append]
  refine br_eq (tgt := 27) hx hb dX4_latestRebasing_10 (by decide) (fun c2 => ?_) (fun c2 => ?_)
  · refine lv_iconst (v := -1) hx hb dX4_latestRebasing_27 (by decide) ?_
    exact ret_i hx hb hr hlk hP hS dX4_latestRebasing_28 ⟨by first | rfl | (simp only [lateS, c2, ↓reduceIte, Bool.false_eq_true]; done) | (simp only [lateS, c2, ↓reduceIte, Bool.false_eq_true]; rfl), by first | rfl | (simp only [lateS, c2, ↓reduceIte, Bool.false_eq_true]; done), rfl⟩
  · refine lv_aload_n hx hb dX4_latestRebasing_13 rfl (lv_at hl 0 rfl) ?_
    refine fgetx hx hb ht inG4 hown hK hP (k := (47 + 57 * b + 6 * i)) (by omega) (x := (σ (47 + 57 * b + 6 * i))) rfl (sh_indx _ _ hb2 hi) rfl 2 (by decide) gw_137 (v := .ref (ad (50 + 57 * b + 6 * i))) rfl dX4_latestRebasing_14 ?_
    refine lv_aload_n hx hb dX4_latestRebasing_17 rfl (lv_at hl 0 rfl) ?_
    refine fgetx hx hb ht inG4 hown hK hP (k := (47 + 57 * b + 6 * i)) (by omega) (x := (σ (47 + 57 * b + 6 * i))) rfl (sh_indx _ _ hb2 hi) rfl 5 (by decide) gw_143 (v := .int ((σ (47 + 57 * b + 6 * i)) 5)) rfl dX4_latestRebasing_18 ?_
    refine lv_iconst (v := 1) hx hb dX4_latestRebasing_21 (by decide) ?_
    refine lv_isub hx hb dX4_latestRebasing_22 ?_
    refine aldj hx hb hK hP (k := (50 + 57 * b + 6 * i)) (by omega) (x := (σ (50 + 57 * b + 6 * i))) rfl 0 (sh_rbms _ _ hb2 hi) rfl (inC_in3 ‹_›) (j := (((σ (47 + 57 * b + 6 * i)) 5) - 1).toNatClampNeg) rfl dX4_latestRebasing_23 ?_
    refine lv_goto (tgt := 28) hx hb dX4_latestRebasing_24 (by decide) ?_
    exact ret_i hx hb hr hlk hP hS dX4_latestRebasing_28 ⟨by first | rfl | (simp only [lateS, c2, ↓reduceIte, Bool.false_eq_true]; done) | (simp only [lateS, c2, ↓reduceIte, Bool.false_eq_true]; rfl), by first | rfl | (simp only [lateS, c2, ↓reduceIte, Bool.false_eq_true]; done), rfl⟩
set_option maxHeartbeats 4000000 in
set_option maxRecDepth 100000 in
theorem c_X4_addRebasing (l : Launch) (D : va_G) (ca : Nat → ClassId) (ad : Nat → Nat) (hI : Inj 158 ad) (σ : MI) (τ : ML) {b i : Nat} (hb2 : b < 2) (hi : i < 6) (mo v : Int32) : CT l D (TY ca) 158 ad (cxf ca ad) yX4_addRebasing cX4_addRebasing 3 none 2 41 [.ref (ad (47 + 57 * b + 6 * i)), .int mo, .int v] σ τ (fun v_ S_ T_ => none = v_ ∧ addRS σ b i mo v = S_ ∧ τ = T_) := by
  refine CT.of (by decide) (Nat.le_of_ble_eq_true rfl) ?_
  intro p e s m args below meth c hx hb hr ht hown hlk hml hP hK hN hS ls hl
  have hl : lv_has ls 3 [(0, .ref (ad (47 + 57 * b + 6 * i))), (1, .int mo), (2, .int v)] := hl
  refine lv_aload_n hx hb dX4_addRebasing_0 rfl (lv_at hl 0 rfl) ?_
  refine fgetx hx hb ht inG4 hown hK hP (k := (47 + 57 * b + 6 * i)) (by omega) (x := (σ (47 + 57 * b + 6 * i))) rfl (sh_indx _ _ hb2 hi) rfl 5 (by decide) gw_143 (v := .int ((σ (47 + 57 * b + 6 * i)) 5)) rfl dX4_addRebasing_1 ?_
  refine lv_if_lt (tgt := 59) hx hb dX4_addRebasing_4 (by decide) (fun c1 => ?_) (fun c1 => ?_)
  · have dc1 := c1
    rw [i_lt] at dc1
    exact ret_v hx hb hr hlk hP hS dX4_addRebasing_59 ⟨rfl, by simp only [addRS, c1, ↓reduceIte, Bool.false_eq_true]; try rw [s2_nk _ _ _ (by omega), s2_nk _ _ _ (by omega)], rfl⟩
  · have dc1 := c1
    rw [i_lt] at dc1
    refine lv_aload_n hx hb dX4_addRebasing_7 rfl (lv_at hl 0 rfl) ?_
    refine fgetx hx hb ht inG4 hown hK hP (k := (47 + 57 * b + 6 * i)) (by omega) (x := (σ (47 + 57 * b + 6 * i))) rfl (sh_indx _ _ hb2 hi) rfl 5 (by decide) gw_143 (v := .int ((σ (47 + 57 * b + 6 * i)) 5)) rfl dX4_addRebasing_8 ?_
    refine lv_iconst (v := 3) hx hb dX4_addRebasing_11 (by decide) ?_
    refine lv_icmp_ge (tgt := 59) hx hb dX4_addRebasing_12 (by decide) (fun c2 => ?_) (fun c2 => ?_)
    · have dc2 := c2
      rw [i_le] at dc2
      exact ret_v hx hb hr hlk hP hS dX4_addRebasing_59 ⟨rfl, by simp only [addRS, c1, c2, ↓reduceIte, Bool.false_eq_true]; try rw [s2_nk _ _ _ (by omega), s2_nk _ _ _ (by omega)], rfl⟩
    · have dc2 := c2
      rw [i_le] at dc2
      refine lv_aload_n hx hb dX4_addRebasing_15 rfl (lv_at hl 0 rfl) ?_
      refine fgetx hx hb ht inG4 hown hK hP (k := (47 + 57 * b + 6 * i)) (by omega) (x := (σ (47 + 57 * b + 6 * i))) rfl (sh_indx _ _ hb2 hi) rfl 2 (by decide) gw_137 (v := .ref (ad (50 + 57 * b + 6 * i))) rfl dX4_addRebasing_16 ?_
      refine lv_aload_n hx hb dX4_addRebasing_19 rfl (lv_at hl 0 rfl) ?_
      refine fgetx hx hb ht inG4 hown hK hP (k := (47 + 57 * b + 6 * i)) (by omega) (x := (σ (47 + 57 * b + 6 * i))) rfl (sh_indx _ _ hb2 hi) rfl 5 (by decide) gw_143 (v := .int ((σ (47 + 57 * b + 6 * i)) 5)) rfl dX4_addRebasing_20 ?_
      refine lv_iload_n hx hb dX4_addRebasing_23 rfl (lv_at hl 1 rfl) ?_
      refine astj hx hb hK hP hI hS (k := (50 + 57 * b + 6 * i)) (by omega) 0 (fun f => sh_rbms f _ hb2 hi) rfl (in_lt (n := 3) ‹_› ‹_› rfl) (j := ((σ (47 + 57 * b + 6 * i)) 5).toNatClampNeg) rfl dX4_addRebasing_24 (fun H locs hP hS => ?_)
      refine lv_aload_n hx hb dX4_addRebasing_25 rfl (lv_at hl 0 rfl) ?_
      refine fgetx hx hb ht inG4 hown hK hP (k := (47 + 57 * b + 6 * i)) (by omega) (x := (σ (47 + 57 * b + 6 * i))) (s2_nk _ _ _ (by omega)) (sh_indx _ _ hb2 hi) rfl 3 (by decide) gw_139 (v := .ref (ad (51 + 57 * b + 6 * i))) rfl dX4_addRebasing_26 ?_
      refine lv_aload_n hx hb dX4_addRebasing_29 rfl (lv_at hl 0 rfl) ?_
      refine fgetx hx hb ht inG4 hown hK hP (k := (47 + 57 * b + 6 * i)) (by omega) (x := (σ (47 + 57 * b + 6 * i))) (s2_nk _ _ _ (by omega)) (sh_indx _ _ hb2 hi) rfl 5 (by decide) gw_143 (v := .int ((σ (47 + 57 * b + 6 * i)) 5)) rfl dX4_addRebasing_30 ?_
      refine lv_aload_n hx hb dX4_addRebasing_33 rfl (lv_at hl 0 rfl) ?_
      refine lv_iload_n hx hb dX4_addRebasing_34 rfl (lv_at hl 1 rfl) ?_
      refine callv (y := yX4_valueAt) ⟨hx, hb, hml, hown, ht⟩ hK hN hP hS (k := (47 + 57 * b + 6 * i)) (c_X4_valueAt l D ca ad hI (s2 σ (50 + 57 * b + 6 * i) (((σ (47 + 57 * b + 6 * i)) 5).toNatClampNeg) mo) τ hb2 hi mo) (by omega) (sh_indx _ _ hb2 hi) rfl ok_X4_valueAt gw_672 ⟨by decide, by decide⟩ rfl hl.1 rfl (Nat.le_of_ble_eq_true rfl) ⟨by decide, by decide⟩ dX4_addRebasing_35 (fun v_ S_ T_ H locs hp3 hP hS => ?_)
      obtain ⟨rfl, rfl, rfl⟩ := hp3
      try dsimp only [Option.toList, List.cons_append, List.nil_append]
      refine astj hx hb hK hP hI hS (k := (51 + 57 * b + 6 * i)) (by omega) 0 (fun f => sh_olds f _ hb2 hi) rfl (in_lt (n := 3) ‹_› ‹_› rfl) (j := ((σ (47 + 57 * b + 6 * i)) 5).toNatClampNeg) rfl dX4_addRebasing_38 (fun H locs hP hS => ?_)
      refine lv_aload_n hx hb dX4_addRebasing_39 rfl (lv_at hl 0 rfl) ?_
      refine fgetx hx hb ht inG4 hown hK hP (k := (47 + 57 * b + 6 * i)) (by omega) (x := (σ (47 + 57 * b + 6 * i))) ((s2_nk _ _ _ (by omega)).trans (s2_nk _ _ _ (by omega))) (sh_indx _ _ hb2 hi) rfl 4 (by decide) gw_141 (v := .ref (ad (52 + 57 * b + 6 * i))) rfl dX4_addRebasing_40 ?_
      refine lv_aload_n hx hb dX4_addRebasing_43 rfl (lv_at hl 0 rfl) ?_
      refine fgetx hx hb ht inG4 hown hK hP (k := (47 + 57 * b + 6 * i)) (by omega) (x := (σ (47 + 57 * b + 6 * i))) ((s2_nk _ _ _ (by omega)).trans (s2_nk _ _ _ (by omega))) (sh_indx _ _ hb2 hi) rfl 5 (by decide) gw_143 (v := .int ((σ (47 + 57 * b + 6 * i)) 5)) rfl dX4_addRebasing_44 ?_
      refine lv_iload_n hx hb dX4_addRebasing_47 rfl (lv_at hl 2 rfl) ?_
      refine astj hx hb hK hP hI hS (k := (52 + 57 * b + 6 * i)) (by omega) 0 (fun f => sh_news f _ hb2 hi) rfl (in_lt (n := 3) ‹_› ‹_› rfl) (j := ((σ (47 + 57 * b + 6 * i)) 5).toNatClampNeg) rfl dX4_addRebasing_48 (fun H locs hP hS => ?_)
      refine lv_aload_n hx hb dX4_addRebasing_49 rfl (lv_at hl 0 rfl) ?_
      refine lv_dup hx hb dX4_addRebasing_50 rfl ?_
      refine fgetx hx hb ht inG4 hown hK hP (k := (47 + 57 * b + 6 * i)) (by omega) (x := (σ (47 + 57 * b + 6 * i))) ((s2_nk _ _ _ (by omega)).trans ((s2_nk _ _ _ (by omega)).trans (s2_nk _ _ _ (by omega)))) (sh_indx _ _ hb2 hi) rfl 5 (by decide) gw_143 (v := .int ((σ (47 + 57 * b + 6 * i)) 5)) rfl dX4_addRebasing_51 ?_
      refine lv_iconst (v := 1) hx hb dX4_addRebasing_54 (by decide) ?_
      refine lv_iadd hx hb dX4_addRebasing_55 ?_
      refine fputx (ref := "") (w := ((σ (47 + 57 * b + 6 * i)) 5) + 1) hx hb ht inG4 tyX4 tyX4_ok nmX4 hown hK hP hI hS (k := (47 + 57 * b + 6 * i)) (by omega) (sh_indx _ _ hb2 hi) rfl 5 (by decide) gw_143 rfl rfl rfl (Nat.le_of_ble_eq_true rfl) (sh_indx _ _ hb2 hi) dX4_addRebasing_56 (fun H locs hP hS => ?_)
      exact ret_v hx hb hr hlk hP hS dX4_addRebasing_59 ⟨rfl, by simp only [addRS, c1, c2, ↓reduceIte, Bool.false_eq_true]; try rw [s2_nk _ _ _ (by omega), s2_nk _ _ _ (by omega)], rfl⟩
set_option maxHeartbeats 4000000 in
set_option maxRecDepth 100000 in
theorem lp_X4_forget {l : Launch} {D : va_G} {ca : Nat → ClassId} {ad : Nat → Nat} (hI : Inj 158 ad) {σ : MI} {τ : ML} {b i : Nat} (hb2 : b < 2) (hi : i < 6) {p : Program} {e : Env} {s : State} {m : MethodId} {args : Array Value} {below : List Frame} {meth : Method} {c : Code} (hx : p.tables.exec = Jvm.exec) (hb : c.code = cX4_forget) (hr : meth.sig.returnType = none) (ht : ∀ w ∈ GG, w.before args s = true) (hown : s.vm.findClass yX4_forget.cls = some m.cls) (hlk : meth.locks = false) (hml : c.maxLocals = 2) (hK : va_K D vwCl (TY ca) s) (hN : NW s) : ∀ (n : Nat) (k : Nat) (hk : k ≤ 36) (hn : 36 - k < n) (H : Heap) (locs : List Loc) (hP : PW D 158 ad (cxf ca ad) (clrS σ b i k) τ H) (hS : va_S (AA 158 ad) s.heap H locs) (ls : Array Slot) (hl : lv_has ls 2 [(1, .int (nI k)), (0, .ref (ad (47 + 57 * b + 6 * i)))]), W p l e { frames := 0, cells := 0, slots := 0, locals := 0 } s m args below meth c H locs 0 0 (MQ below (QD D 158 ad (cxf ca ad) (fun v_ S_ T_ => none = v_ ∧ forgS σ b i = S_ ∧ τ = T_)) args s 0 0 (AA 158 ad)) (F0 m 2 ls []) := by
  intro n
  induction n with
  | zero => intro k hk hn H locs hP hS ls hl; exact absurd ‹_› (by omega)
  | succ n ih =>
    intro k hk hn H locs hP hS ls hl
    have e36 : (36 : Int32).toInt = 36 := rfl
    have ek : (nI k).toInt = k := nI_toInt (by omega)
    refine lv_iload_n hx hb dX4_forget_2 rfl (lv_at hl 0 rfl) ?_
    refine lv_bipush (v := 36) hx hb dX4_forget_3 (by decide) ?_
    refine lv_icmp_ge (tgt := 28) hx hb dX4_forget_5 (by decide) (fun c1 => ?_) (fun c1 => ?_)
    · have dc1 := c1
      rw [i_le] at dc1
      refine lv_aload_n hx hb dX4_forget_28 rfl (lv_at hl 1 rfl) ?_
      refine lv_iconst (v := 0) hx hb dX4_forget_29 (by decide) ?_
      refine fputx (ref := "") (w := 0) hx hb ht inG4 tyX4 tyX4_ok nmX4 hown hK hP hI hS (k := (47 + 57 * b + 6 * i)) (by omega) (sh_indx _ _ hb2 hi) rfl 5 (by decide) gw_143 rfl rfl rfl (Nat.le_of_ble_eq_true rfl) (sh_indx _ _ hb2 hi) dX4_forget_30 (fun H locs hP hS => ?_)
      exact ret_v hx hb hr hlk hP hS dX4_forget_33 ⟨rfl, by rw [show k = 36 by omega]; rfl, rfl⟩
    · have dc1 := c1
      rw [i_le] at dc1
      refine lv_aload_n hx hb dX4_forget_8 rfl (lv_at hl 1 rfl) ?_
      refine fgetx hx hb ht inG4 hown hK hP (k := (47 + 57 * b + 6 * i)) (by omega) (x := ((clrS σ b i k) (47 + 57 * b + 6 * i))) rfl (sh_indx _ _ hb2 hi) rfl 0 (by decide) gw_135 (v := .ref (ad (48 + 57 * b + 6 * i))) rfl dX4_forget_9 ?_
      refine lv_iload_n hx hb dX4_forget_12 rfl (lv_at hl 0 rfl) ?_
      refine lv_iconst (v := 0) hx hb dX4_forget_13 (by decide) ?_
      refine astj hx hb hK hP hI hS (k := (48 + 57 * b + 6 * i)) (by omega) 0 (fun f => sh_vals f _ hb2 hi) rfl (by rw [vp_in_iff]; omega) (j := k) (nI_clamp (by omega)) dX4_forget_14 (fun H locs hP hS => ?_)
      refine lv_aload_n hx hb dX4_forget_15 rfl (lv_at hl 1 rfl) ?_
      refine fgetx hx hb ht inG4 hown hK hP (k := (47 + 57 * b + 6 * i)) (by omega) (x := ((clrS σ b i k) (47 + 57 * b + 6 * i))) (s2_nk _ _ _ (by omega)) (sh_indx _ _ hb2 hi) rfl 1 (by decide) gw_136 (v := .ref (ad (49 + 57 * b + 6 * i))) rfl dX4_forget_16 ?_
      refine lv_iload_n hx hb dX4_forget_19 rfl (lv_at hl 0 rfl) ?_
      refine lv_iconst (v := 0) hx hb dX4_forget_20 (by decide) ?_
      refine astj hx hb hK hP hI hS (k := (49 + 57 * b + 6 * i)) (by omega) 0 (fun f => sh_knds f _ hb2 hi) rfl (by rw [vp_in_iff]; omega) (j := k) (nI_clamp (by omega)) dX4_forget_21 (fun H locs hP hS => ?_)
      refine lv_iinc (v := (nI k) + 1) (lv' := [(1, .int ((nI k) + 1)), (0, .ref (ad (47 + 57 * b + 6 * i)))]) hx hb dX4_forget_22 hl (k := 0) rfl rfl (by decide) rfl (fun ls hl => ?_)
      refine lv_goto (tgt := 2) hx hb dX4_forget_25 (by decide) ?_
      rw [nI_1] at hl
      exact ih (k + 1) (by omega) (by omega) _ _ hP hS ls (lv_sub hl [0, 1] rfl)
set_option maxHeartbeats 4000000 in
set_option maxRecDepth 100000 in
theorem c_X4_forget (l : Launch) (D : va_G) (ca : Nat → ClassId) (ad : Nat → Nat) (hI : Inj 158 ad) (σ : MI) (τ : ML) {b i : Nat} (hb2 : b < 2) (hi : i < 6) : CT l D (TY ca) 158 ad (cxf ca ad) yX4_forget cX4_forget 2 none 0 0 [.ref (ad (47 + 57 * b + 6 * i))] σ τ (fun v_ S_ T_ => none = v_ ∧ forgS σ b i = S_ ∧ τ = T_) := by
  refine CT.of (by decide) (Nat.le_of_ble_eq_true rfl) ?_
  intro p e s m args below meth c hx hb hr ht hown hlk hml hP hK hN hS ls hl
  have hl : lv_has ls 2 [(0, .ref (ad (47 + 57 * b + 6 * i)))] := hl
  refine lv_iconst (v := 0) hx hb dX4_forget_0 (by decide) ?_
  refine lv_istore_n (lv' := [(1, .int 0), (0, .ref (ad (47 + 57 * b + 6 * i)))]) hx hb dX4_forget_1 rfl hl (by decide) rfl (fun ls hl => ?_)
  exact lp_X4_forget hI hb2 hi hx hb hr ht hown hlk hml hK hN 37 0 (by omega) (by omega) _ _ hP hS ls hl
set_option maxHeartbeats 4000000 in
set_option maxRecDepth 100000 in
theorem lp_X4_knownMonth {l : Launch} {D : va_G} {ca : Nat → ClassId} {ad : Nat → Nat} (hI : Inj 158 ad) {σ : MI} {τ : ML} {b i : Nat} (hb2 : b < 2) (hi : i < 6) (mo : Int32) {p : Program} {e : Env} {s : State} {m : MethodId} {args : Array Value} {below : List Frame} {meth : Method} {c : Code} (hx : p.tables.exec = Jvm.exec) (hb : c.code = cX4_knownMonth) (hr : meth.sig.returnType = (some .int)) (ht : ∀ w ∈ GG, w.before args s = true) (hown : s.vm.findClass yX4_knownMonth.cls = some m.cls) (hlk : meth.locks = false) (hml : c.maxLocals = 3) (hK : va_K D vwCl (TY ca) s) (hN : NW s) : ∀ (n : Nat) (k : Nat) (x : Int32) (ex : (x.toInt < 0 ∧ k = 0) ∨ x.toInt = (k : Int) - 1) (hk : k ≤ 36) (hn : k < n) (hR : kn (σ (49 + 57 * b + 6 * i)) k = knowS (σ (49 + 57 * b + 6 * i)) mo) (H : Heap) (locs : List Loc) (hP : PW D 158 ad (cxf ca ad) σ τ H) (hS : va_S (AA 158 ad) s.heap H locs) (ls : Array Slot) (hl : lv_has ls 3 [(2, .int x), (0, .ref (ad (47 + 57 * b + 6 * i))), (1, .int mo)]), W p l e { frames := 1, cells := 0, slots := 0, locals := 24 } s m args below meth c H locs 0 0 (MQ below (QD D 158 ad (cxf ca ad) (fun v_ S_ T_ => some (.int (knowS (σ (49 + 57 * b + 6 * i)) mo)) = v_ ∧ σ = S_ ∧ τ = T_)) args s 0 0 (AA 158 ad)) (F0 m 7 ls []) := by
  intro n
  induction n with
  | zero => intro k x ex hk hn hR H locs hP hS ls hl; exact absurd ‹_› (by omega)
  | succ n ih =>
    intro k x ex hk hn hR H locs hP hS ls hl
    have e0 : (0 : Int32).toInt = 0 := rfl
    have e1 : (-1 : Int32).toInt = -1 := rfl
    refine lv_iload_n hx hb dX4_knownMonth_7 rfl (lv_at hl 0 rfl) ?_
    refine lv_if_lt (tgt := 28) hx hb dX4_knownMonth_8 (by decide) (fun c1 => ?_) (fun c1 => ?_)
    · have dc1 := c1
      rw [i_lt] at dc1
      refine lv_iconst (v := -1) hx hb dX4_knownMonth_28 (by decide) ?_
      exact ret_i hx hb hr hlk hP hS dX4_knownMonth_29 ⟨by rw [← hR, show k = 0 by omega]; rfl, rfl, rfl⟩
    · have dc1 := c1
      rw [i_lt] at dc1
      obtain ⟨j, rfl⟩ : ∃ j, k = j + 1 := ⟨k - 1, by omega⟩
      have ej : x = nI j := by rw [i_eq, nI_toInt (by omega)]; omega
      have ec : x.toNatClampNeg = j := by rw [ej, nI_clamp (by omega)]
      refine lv_aload_n hx hb dX4_knownMonth_11 rfl (lv_at hl 1 rfl) ?_
      refine fgetx hx hb ht inG4 hown hK hP (k := (47 + 57 * b + 6 * i)) (by omega) (x := (σ (47 + 57 * b + 6 * i))) rfl (sh_indx _ _ hb2 hi) rfl 1 (by decide) gw_136 (v := .ref (ad (49 + 57 * b + 6 * i))) rfl dX4_knownMonth_12 ?_
      refine lv_iload_n hx hb dX4_knownMonth_15 rfl (lv_at hl 0 rfl) ?_
      refine aldj hx hb hK hP (k := (49 + 57 * b + 6 * i)) (by omega) (x := (σ (49 + 57 * b + 6 * i))) rfl 0 (sh_knds _ _ hb2 hi) rfl (by rw [vp_in_iff]; omega) (j := j) ec dX4_knownMonth_16 ?_
      refine lv_if_eq (tgt := 22) hx hb dX4_knownMonth_17 (by decide) (fun c2 => ?_) (fun c2 => ?_)
      · have dc2 := c2
        rw [i_eq] at dc2
        refine lv_iinc (v := x + (-1)) (lv' := [(2, .int (x + (-1))), (0, .ref (ad (47 + 57 * b + 6 * i))), (1, .int mo)]) hx hb dX4_knownMonth_22 hl (k := 0) rfl rfl (by decide) rfl (fun ls hl => ?_)
        refine lv_goto (tgt := 7) hx hb dX4_knownMonth_25 (by decide) ?_
        exact ih j (x + (-1)) (by rw [fb_addI (by omega) (by omega)]; omega) (by omega) (by omega) (by rw [← hR]; simp only [kn, c2, ↓reduceIte]) _ _ hP hS ls (lv_sub hl [0, 1, 2] rfl)
      · have dc2 := c2
        rw [i_eq] at dc2
        refine lv_iload_n hx hb dX4_knownMonth_20 rfl (lv_at hl 0 rfl) ?_
        exact ret_i hx hb hr hlk hP hS dX4_knownMonth_21 ⟨by rw [← hR]; simp only [kn, c2, ↓reduceIte]; rw [ej], rfl, rfl⟩
set_option maxHeartbeats 4000000 in
set_option maxRecDepth 100000 in
theorem c_X4_knownMonth (l : Launch) (D : va_G) (ca : Nat → ClassId) (ad : Nat → Nat) (hI : Inj 158 ad) (σ : MI) (τ : ML) {b i : Nat} (hb2 : b < 2) (hi : i < 6) (mo : Int32) : CT l D (TY ca) 158 ad (cxf ca ad) yX4_knownMonth cX4_knownMonth 3 (some .int) 1 24 [.ref (ad (47 + 57 * b + 6 * i)), .int mo] σ τ (fun v_ S_ T_ => some (.int (knowS (σ (49 + 57 * b + 6 * i)) mo)) = v_ ∧ σ = S_ ∧ τ = T_) := by
  refine CT.of (by decide) (Nat.le_of_ble_eq_true rfl) ?_
  intro p e s m args below meth c hx hb hr ht hown hlk hml hP hK hN hS ls hl
  have hl : lv_has ls 3 [(0, .ref (ad (47 + 57 * b + 6 * i))), (1, .int mo)] := hl
  refine lv_iload_n hx hb dX4_knownMonth_0 rfl (lv_at hl 1 rfl) ?_
  refine lv_bipush (v := 35) hx hb dX4_knownMonth_1 (by decide) ?_
  refine va_mmin hx hb (hml.trans hl.1.symm) hown (ht _ gw_620) (ht _ gw_621) (ht _ gw_68) (ht _ gw_622) (by decide) (by decide) (by decide) (by decide) dX4_knownMonth_3 ?_
  refine lv_istore_n (lv' := [(2, .int (if 35 < mo then 35 else mo)), (0, .ref (ad (47 + 57 * b + 6 * i))), (1, .int mo)]) hx hb dX4_knownMonth_6 rfl hl (by decide) rfl (fun ls hl => ?_)
  exact lp_X4_knownMonth hI hb2 hi mo hx hb hr ht hown hlk hml hK hN 37 (cntM mo) _ (cntM_x mo) (cntM_le mo) (by have := cntM_le mo; omega) rfl _ _ hP hS ls (lv_sub hl [0, 1, 2] rfl)
set_option maxHeartbeats 4000000 in
set_option maxRecDepth 100000 in
theorem lp_X4_ratio {l : Launch} {D : va_G} {ca : Nat → ClassId} {ad : Nat → Nat} (hI : Inj 158 ad) {σ : MI} {τ : ML} {b i : Nat} (hb2 : b < 2) (hi : i < 6) (a z : Int32) {p : Program} {e : Env} {s : State} {m : MethodId} {args : Array Value} {below : List Frame} {meth : Method} {c : Code} (hx : p.tables.exec = Jvm.exec) (hb : c.code = cX4_ratioBetween) (hr : meth.sig.returnType = (some .int)) (ht : ∀ w ∈ GG, w.before args s = true) (hown : s.vm.findClass yX4_ratioBetween.cls = some m.cls) (hlk : meth.locks = false) (hml : c.maxLocals = 8) (hK : va_K D vwCl (TY ca) s) (hN : NW s) : ∀ (n : Nat) (k : Nat) (hk : k ≤ kmin (σ (47 + 57 * b + 6 * i) 5) 3) (hn : kmin (σ (47 + 57 * b + 6 * i) 5) 3 - k < n) (u d : Int64) (hud : ratP (σ (50 + 57 * b + 6 * i)) (σ (51 + 57 * b + 6 * i)) (σ (52 + 57 * b + 6 * i)) a z (valS (σ (48 + 57 * b + 6 * i)) (σ (49 + 57 * b + 6 * i)) z).toInt64 (valS (σ (48 + 57 * b + 6 * i)) (σ (49 + 57 * b + 6 * i)) a).toInt64 k = (u, d)) (H : Heap) (locs : List Loc) (hP : PW D 158 ad (cxf ca ad) σ τ H) (hS : va_S (AA 158 ad) s.heap H locs) (ls : Array Slot) (hl : lv_has ls 8 [(7, .int (nI k)), (5, .long d), (3, .long u), (0, .ref (ad (47 + 57 * b + 6 * i))), (1, .int a), (2, .int z)]), W p l e { frames := 2, cells := 0, slots := 0, locals := 41 } s m args below meth c H locs 0 0 (MQ below (QD D 158 ad (cxf ca ad) (fun v_ S_ T_ => some (.int (ratI σ b i a z)) = v_ ∧ σ = S_ ∧ τ = T_)) args s 0 0 (AA 158 ad)) (F0 m 18 ls []) := by
  intro n
  induction n with
  | zero => intro k hk hn u d hud H locs hP hS ls hl; exact absurd ‹_› (by omega)
  | succ n ih =>
    intro k hk hn u d hud H locs hP hS ls hl
    have eM : (3 : Int32).toInt = 3 := rfl
    have hc := clampI (σ (47 + 57 * b + 6 * i) 5)
    have hm : kmin (σ (47 + 57 * b + 6 * i) 5) 3 = min (σ (47 + 57 * b + 6 * i) 5).toNatClampNeg 3 := rfl
    have ek : (nI k).toInt = k := nI_toInt (by omega)
    refine lv_iload hx hb dX4_ratioBetween_18 (lv_at hl 0 rfl) ?_
    refine lv_aload_n hx hb dX4_ratioBetween_20 rfl (lv_at hl 3 rfl) ?_
    refine fgetx hx hb ht inG4 hown hK hP (k := (47 + 57 * b + 6 * i)) (by omega) (x := (σ (47 + 57 * b + 6 * i))) rfl (sh_indx _ _ hb2 hi) rfl 5 (by decide) gw_143 (v := .int ((σ (47 + 57 * b + 6 * i)) 5)) rfl dX4_ratioBetween_21 ?_
    refine lv_icmp_ge (tgt := 85) hx hb dX4_ratioBetween_24 (by decide) (fun c1 => ?_) (fun c1 => ?_)
    · have dc1 := c1
      rw [i_le] at dc1
      have hke : k = kmin (σ (47 + 57 * b + 6 * i) 5) 3 := by omega
      refine lv_lload_n hx hb dX4_ratioBetween_85 rfl (lv_at hl 2 rfl) ?_
      refine lv_lconst (v := 0) hx hb dX4_ratioBetween_86 (by decide) ?_
      refine W.lcmp hx hb dX4_ratioBetween_87 ?_
      refine lv_if_le (tgt := 98) hx hb dX4_ratioBetween_88 (by decide) (fun c2 => ?_) (fun c2 => ?_)
      · rw [lgc_le] at c2
        refine lv_iconst (v := 0) hx hb dX4_ratioBetween_98 (by decide) ?_
        exact ret_i hx hb hr hlk hP hS dX4_ratioBetween_99 ⟨by unfold ratI ratS; rw [← hke, hud]; simp only [ratQ, c1, c2, ↓reduceIte], rfl, rfl⟩
      · rw [lgc_le] at c2
        refine lv_lload hx hb dX4_ratioBetween_91 (lv_at hl 1 rfl) ?_
        refine lv_lconst (v := 0) hx hb dX4_ratioBetween_93 (by decide) ?_
        refine W.lcmp hx hb dX4_ratioBetween_94 ?_
        refine lv_if_gt (tgt := 100) hx hb dX4_ratioBetween_95 (by decide) (fun c3 => ?_) (fun c3 => ?_)
        · rw [lgc_gt] at c3
          refine lv_lload_n hx hb dX4_ratioBetween_100 rfl (lv_at hl 2 rfl) ?_
          refine lv_ldc2 hx hb hown (ht _ gw_673) dX4_ratioBetween_101 ?_
          refine lv_lmul hx hb dX4_ratioBetween_104 ?_
          refine lv_lload hx hb dX4_ratioBetween_105 (lv_at hl 1 rfl) ?_
          refine lv_ldiv hx hb dX4_ratioBetween_107 (by intro q; rw [q] at c3; exact absurd c3 (by decide)) ?_
          refine lv_ldc2 hx hb hown (ht _ gw_674) dX4_ratioBetween_108 ?_
          refine va_mmin_long hx hb (hml.trans hl.1.symm) hown (ht _ gw_675) (ht _ gw_676) (ht _ gw_68) (ht _ gw_677) (by decide) (by decide) (by decide) (by decide) dX4_ratioBetween_111 ?_
          refine lv_l2i (v := (if 99999999 < (u * 1000000) / d then 99999999 else (u * 1000000) / d).toInt32) hx hb dX4_ratioBetween_114 rfl ?_
          exact ret_i hx hb hr hlk hP hS dX4_ratioBetween_115 ⟨by unfold ratI ratS; rw [← hke, hud]; simp only [ratQ, c1, c2, c3, ↓reduceIte], rfl, rfl⟩
        · rw [lgc_gt] at c3
          refine lv_iconst (v := 0) hx hb dX4_ratioBetween_98 (by decide) ?_
          exact ret_i hx hb hr hlk hP hS dX4_ratioBetween_99 ⟨by unfold ratI ratS; rw [← hke, hud]; simp only [ratQ, c1, c2, c3, ↓reduceIte], rfl, rfl⟩
    · have dc1 := c1
      rw [i_le] at dc1
      refine lv_iload hx hb dX4_ratioBetween_27 (lv_at hl 0 rfl) ?_
      refine lv_iconst (v := 3) hx hb dX4_ratioBetween_29 (by decide) ?_
      refine lv_icmp_ge (tgt := 85) hx hb dX4_ratioBetween_30 (by decide) (fun c4 => ?_) (fun c4 => ?_)
      · have dc4 := c4
        rw [i_le] at dc4
        have hke : k = kmin (σ (47 + 57 * b + 6 * i) 5) 3 := by omega
        refine lv_lload_n hx hb dX4_ratioBetween_85 rfl (lv_at hl 2 rfl) ?_
        refine lv_lconst (v := 0) hx hb dX4_ratioBetween_86 (by decide) ?_
        refine W.lcmp hx hb dX4_ratioBetween_87 ?_
        refine lv_if_le (tgt := 98) hx hb dX4_ratioBetween_88 (by decide) (fun c5 => ?_) (fun c5 => ?_)
        · rw [lgc_le] at c5
          refine lv_iconst (v := 0) hx hb dX4_ratioBetween_98 (by decide) ?_
          exact ret_i hx hb hr hlk hP hS dX4_ratioBetween_99 ⟨by unfold ratI ratS; rw [← hke, hud]; simp only [ratQ, c1, c4, c5, ↓reduceIte], rfl, rfl⟩
        · rw [lgc_le] at c5
          refine lv_lload hx hb dX4_ratioBetween_91 (lv_at hl 1 rfl) ?_
          refine lv_lconst (v := 0) hx hb dX4_ratioBetween_93 (by decide) ?_
          refine W.lcmp hx hb dX4_ratioBetween_94 ?_
          refine lv_if_gt (tgt := 100) hx hb dX4_ratioBetween_95 (by decide) (fun c6 => ?_) (fun c6 => ?_)
          · rw [lgc_gt] at c6
            refine lv_lload_n hx hb dX4_ratioBetween_100 rfl (lv_at hl 2 rfl) ?_
            refine lv_ldc2 hx hb hown (ht _ gw_673) dX4_ratioBetween_101 ?_
            refine lv_lmul hx hb dX4_ratioBetween_104 ?_
            refine lv_lload hx hb dX4_ratioBetween_105 (lv_at hl 1 rfl) ?_
            refine lv_ldiv hx hb dX4_ratioBetween_107 (by intro q; rw [q] at c6; exact absurd c6 (by decide)) ?_
            refine lv_ldc2 hx hb hown (ht _ gw_674) dX4_ratioBetween_108 ?_
            refine va_mmin_long hx hb (hml.trans hl.1.symm) hown (ht _ gw_675) (ht _ gw_676) (ht _ gw_68) (ht _ gw_677) (by decide) (by decide) (by decide) (by decide) dX4_ratioBetween_111 ?_
            refine lv_l2i (v := (if 99999999 < (u * 1000000) / d then 99999999 else (u * 1000000) / d).toInt32) hx hb dX4_ratioBetween_114 rfl ?_
            exact ret_i hx hb hr hlk hP hS dX4_ratioBetween_115 ⟨by unfold ratI ratS; rw [← hke, hud]; simp only [ratQ, c1, c4, c5, c6, ↓reduceIte], rfl, rfl⟩
          · rw [lgc_gt] at c6
            refine lv_iconst (v := 0) hx hb dX4_ratioBetween_98 (by decide) ?_
            exact ret_i hx hb hr hlk hP hS dX4_ratioBetween_99 ⟨by unfold ratI ratS; rw [← hke, hud]; simp only [ratQ, c1, c4, c5, c6, ↓reduceIte], rfl, rfl⟩
      · have dc4 := c4
        rw [i_le] at dc4
        refine lv_aload_n hx hb dX4_ratioBetween_33 rfl (lv_at hl 3 rfl) ?_
        refine fgetx hx hb ht inG4 hown hK hP (k := (47 + 57 * b + 6 * i)) (by omega) (x := (σ (47 + 57 * b + 6 * i))) rfl (sh_indx _ _ hb2 hi) rfl 2 (by decide) gw_137 (v := .ref (ad (50 + 57 * b + 6 * i))) rfl dX4_ratioBetween_34 ?_
        refine lv_iload hx hb dX4_ratioBetween_37 (lv_at hl 0 rfl) ?_
        refine aldj hx hb hK hP (k := (50 + 57 * b + 6 * i)) (by omega) (x := (σ (50 + 57 * b + 6 * i))) rfl 0 (sh_rbms _ _ hb2 hi) rfl (by rw [vp_in_iff]; omega) (j := k) (nI_clamp (by omega)) dX4_ratioBetween_39 ?_
        refine lv_iload_n hx hb dX4_ratioBetween_40 rfl (lv_at hl 4 rfl) ?_
        refine lv_icmp_lt (tgt := 79) hx hb dX4_ratioBetween_41 (by decide) (fun c7 => ?_) (fun c7 => ?_)
        · have dc7 := c7
          rw [i_lt] at dc7
          refine lv_iinc (v := (nI k) + 1) (lv' := [(7, .int ((nI k) + 1)), (5, .long d), (3, .long u), (0, .ref (ad (47 + 57 * b + 6 * i))), (1, .int a), (2, .int z)]) hx hb dX4_ratioBetween_79 hl (k := 0) rfl rfl (by decide) rfl (fun ls hl => ?_)
          refine lv_goto (tgt := 18) hx hb dX4_ratioBetween_82 (by decide) ?_
          rw [nI_1] at hl
          exact ih (k + 1) (by omega) (by omega) (u) (d) (by simp only [ratP, c7, ↓reduceIte, hud]) _ _ hP hS ls (lv_sub hl [0, 1, 2, 3, 4, 5] rfl)
        · have dc7 := c7
          rw [i_lt] at dc7
          refine lv_aload_n hx hb dX4_ratioBetween_44 rfl (lv_at hl 3 rfl) ?_
          refine fgetx hx hb ht inG4 hown hK hP (k := (47 + 57 * b + 6 * i)) (by omega) (x := (σ (47 + 57 * b + 6 * i))) rfl (sh_indx _ _ hb2 hi) rfl 2 (by decide) gw_137 (v := .ref (ad (50 + 57 * b + 6 * i))) rfl dX4_ratioBetween_45 ?_
          refine lv_iload hx hb dX4_ratioBetween_48 (lv_at hl 0 rfl) ?_
          refine aldj hx hb hK hP (k := (50 + 57 * b + 6 * i)) (by omega) (x := (σ (50 + 57 * b + 6 * i))) rfl 0 (sh_rbms _ _ hb2 hi) rfl (by rw [vp_in_iff]; omega) (j := k) (nI_clamp (by omega)) dX4_ratioBetween_50 ?_
          refine lv_iload_n hx hb dX4_ratioBetween_51 rfl (lv_at hl 5 rfl) ?_
          refine lv_icmp_ge (tgt := 79) hx hb dX4_ratioBetween_52 (by decide) (fun c8 => ?_) (fun c8 => ?_)
          · have dc8 := c8
            rw [i_le] at dc8
            refine lv_iinc (v := (nI k) + 1) (lv' := [(7, .int ((nI k) + 1)), (5, .long d), (3, .long u), (0, .ref (ad (47 + 57 * b + 6 * i))), (1, .int a), (2, .int z)]) hx hb dX4_ratioBetween_79 hl (k := 0) rfl rfl (by decide) rfl (fun ls hl => ?_)
            refine lv_goto (tgt := 18) hx hb dX4_ratioBetween_82 (by decide) ?_
            rw [nI_1] at hl
            exact ih (k + 1) (by omega) (by omega) (u) (d) (by simp only [ratP, c7, c8, ↓reduceIte, hud]) _ _ hP hS ls (lv_sub hl [0, 1, 2, 3, 4, 5] rfl)
          · have dc8 := c8
            rw [i_le] at dc8
            refine lv_lload_n hx hb dX4_ratioBetween_55 rfl (lv_at hl 2 rfl) ?_
            refine lv_aload_n hx hb dX4_ratioBetween_56 rfl (lv_at hl 3 rfl) ?_
            refine fgetx hx hb ht inG4 hown hK hP (k := (47 + 57 * b + 6 * i)) (by omega) (x := (σ (47 + 57 * b + 6 * i))) rfl (sh_indx _ _ hb2 hi) rfl 3 (by decide) gw_139 (v := .ref (ad (51 + 57 * b + 6 * i))) rfl dX4_ratioBetween_57 ?_
            refine lv_iload hx hb dX4_ratioBetween_60 (lv_at hl 0 rfl) ?_
            refine aldj hx hb hK hP (k := (51 + 57 * b + 6 * i)) (by omega) (x := (σ (51 + 57 * b + 6 * i))) rfl 0 (sh_olds _ _ hb2 hi) rfl (by rw [vp_in_iff]; omega) (j := k) (nI_clamp (by omega)) dX4_ratioBetween_62 ?_
            refine lv_i2l (v := ((σ (51 + 57 * b + 6 * i)) k).toInt64) hx hb dX4_ratioBetween_63 rfl ?_
            refine lv_lmul hx hb dX4_ratioBetween_64 ?_
            refine lv_lstore_n (lv' := [(3, .long (u * (((σ (51 + 57 * b + 6 * i)) k).toInt64))), (7, .int (nI k)), (5, .long d), (0, .ref (ad (47 + 57 * b + 6 * i))), (1, .int a), (2, .int z)]) hx hb dX4_ratioBetween_65 rfl hl (by decide) rfl (fun ls hl => ?_)
            refine lv_lload hx hb dX4_ratioBetween_66 (lv_at hl 2 rfl) ?_
            refine lv_aload_n hx hb dX4_ratioBetween_68 rfl (lv_at hl 3 rfl) ?_
            refine fgetx hx hb ht inG4 hown hK hP (k := (47 + 57 * b + 6 * i)) (by omega) (x := (σ (47 + 57 * b + 6 * i))) rfl (sh_indx _ _ hb2 hi) rfl 4 (by decide) gw_141 (v := .ref (ad (52 + 57 * b + 6 * i))) rfl dX4_ratioBetween_69 ?_
            refine lv_iload hx hb dX4_ratioBetween_72 (lv_at hl 1 rfl) ?_
            refine aldj hx hb hK hP (k := (52 + 57 * b + 6 * i)) (by omega) (x := (σ (52 + 57 * b + 6 * i))) rfl 0 (sh_news _ _ hb2 hi) rfl (by rw [vp_in_iff]; omega) (j := k) (nI_clamp (by omega)) dX4_ratioBetween_74 ?_
            refine lv_i2l (v := ((σ (52 + 57 * b + 6 * i)) k).toInt64) hx hb dX4_ratioBetween_75 rfl ?_
            refine lv_lmul hx hb dX4_ratioBetween_76 ?_
            refine lv_lstore (lv' := [(5, .long (d * (((σ (52 + 57 * b + 6 * i)) k).toInt64))), (3, .long (u * (((σ (51 + 57 * b + 6 * i)) k).toInt64))), (7, .int (nI k)), (0, .ref (ad (47 + 57 * b + 6 * i))), (1, .int a), (2, .int z)]) hx hb dX4_ratioBetween_77 hl (by decide) rfl (fun ls hl => ?_)
            refine lv_iinc (v := (nI k) + 1) (lv' := [(7, .int ((nI k) + 1)), (5, .long (d * (((σ (52 + 57 * b + 6 * i)) k).toInt64))), (3, .long (u * (((σ (51 + 57 * b + 6 * i)) k).toInt64))), (0, .ref (ad (47 + 57 * b + 6 * i))), (1, .int a), (2, .int z)]) hx hb dX4_ratioBetween_79 hl (k := 2) rfl rfl (by decide) rfl (fun ls hl => ?_)
            refine lv_goto (tgt := 18) hx hb dX4_ratioBetween_82 (by decide) ?_
            rw [nI_1] at hl
            exact ih (k + 1) (by omega) (by omega) (u * (((σ (51 + 57 * b + 6 * i)) k).toInt64)) (d * (((σ (52 + 57 * b + 6 * i)) k).toInt64)) (by simp only [ratP, c7, c8, ↓reduceIte, hud]) _ _ hP hS ls (lv_sub hl [0, 1, 2, 3, 4, 5] rfl)
set_option maxHeartbeats 4000000 in
set_option maxRecDepth 100000 in
theorem c_X4_ratioBetween (l : Launch) (D : va_G) (ca : Nat → ClassId) (ad : Nat → Nat) (hI : Inj 158 ad) (σ : MI) (τ : ML) {b i : Nat} (hb2 : b < 2) (hi : i < 6) (a z : Int32) : CT l D (TY ca) 158 ad (cxf ca ad) yX4_ratioBetween cX4_ratioBetween 8 (some .int) 2 41 [.ref (ad (47 + 57 * b + 6 * i)), .int a, .int z] σ τ (fun v_ S_ T_ => some (.int (ratI σ b i a z)) = v_ ∧ σ = S_ ∧ τ = T_) := by
  refine CT.of (by decide) (Nat.le_of_ble_eq_true rfl) ?_
  intro p e s m args below meth c hx hb hr ht hown hlk hml hP hK hN hS ls hl
  have hl : lv_has ls 8 [(0, .ref (ad (47 + 57 * b + 6 * i))), (1, .int a), (2, .int z)] := hl
  refine lv_aload_n hx hb dX4_ratioBetween_0 rfl (lv_at hl 0 rfl) ?_
  refine lv_iload_n hx hb dX4_ratioBetween_1 rfl (lv_at hl 2 rfl) ?_
  refine callv (y := yX4_valueAt) ⟨hx, hb, hml, hown, ht⟩ hK hN hP hS (k := (47 + 57 * b + 6 * i)) (c_X4_valueAt l D ca ad hI σ τ hb2 hi z) (by omega) (sh_indx _ _ hb2 hi) rfl ok_X4_valueAt gw_672 ⟨by decide, by decide⟩ rfl hl.1 rfl (Nat.le_of_ble_eq_true rfl) ⟨by decide, by decide⟩ dX4_ratioBetween_2 (fun v_ S_ T_ H locs hp1 hP hS => ?_)
  obtain ⟨rfl, rfl, rfl⟩ := hp1
  try dsimp only [Option.toList, List.cons_append, List.nil_append]
  refine lv_i2l (v := (valS (σ (48 + 57 * b + 6 * i)) (σ (49 + 57 * b + 6 * i)) z).toInt64) hx hb dX4_ratioBetween_5 rfl ?_
  refine lv_lstore_n (lv' := [(3, .long ((valS (σ (48 + 57 * b + 6 * i)) (σ (49 + 57 * b + 6 * i)) z).toInt64)), (0, .ref (ad (47 + 57 * b + 6 * i))), (1, .int a), (2, .int z)]) hx hb dX4_ratioBetween_6 rfl hl (by decide) rfl (fun ls hl => ?_)
  refine lv_aload_n hx hb dX4_ratioBetween_7 rfl (lv_at hl 1 rfl) ?_
  refine lv_iload_n hx hb dX4_ratioBetween_8 rfl (lv_at hl 2 rfl) ?_
  refine callv (y := yX4_valueAt) ⟨hx, hb, hml, hown, ht⟩ hK hN hP hS (k := (47 + 57 * b + 6 * i)) (c_X4_valueAt l D ca ad hI σ τ hb2 hi a) (by omega) (sh_indx _ _ hb2 hi) rfl ok_X4_valueAt gw_672 ⟨by decide, by decide⟩ rfl hl.1 rfl (Nat.le_of_ble_eq_true rfl) ⟨by decide, by decide⟩ dX4_ratioBetween_9 (fun v_ S_ T_ H locs hp2 hP hS => ?_)
  obtain ⟨rfl, rfl, rfl⟩ := hp2
  try dsimp only [Option.toList, List.cons_append, List.nil_append]
  refine lv_i2l (v := (valS (σ (48 + 57 * b + 6 * i)) (σ (49 + 57 * b + 6 * i)) a).toInt64) hx hb dX4_ratioBetween_12 rfl ?_
  refine lv_lstore (lv' := [(5, .long ((valS (σ (48 + 57 * b + 6 * i)) (σ (49 + 57 * b + 6 * i)) a).toInt64)), (3, .long ((valS (σ (48 + 57 * b + 6 * i)) (σ (49 + 57 * b + 6 * i)) z).toInt64)), (0, .ref (ad (47 + 57 * b + 6 * i))), (1, .int a), (2, .int z)]) hx hb dX4_ratioBetween_13 hl (by decide) rfl (fun ls hl => ?_)
  refine lv_iconst (v := 0) hx hb dX4_ratioBetween_15 (by decide) ?_
  refine lv_istore (lv' := [(7, .int 0), (5, .long ((valS (σ (48 + 57 * b + 6 * i)) (σ (49 + 57 * b + 6 * i)) a).toInt64)), (3, .long ((valS (σ (48 + 57 * b + 6 * i)) (σ (49 + 57 * b + 6 * i)) z).toInt64)), (0, .ref (ad (47 + 57 * b + 6 * i))), (1, .int a), (2, .int z)]) hx hb dX4_ratioBetween_16 hl (by decide) rfl (fun ls hl => ?_)
  exact lp_X4_ratio hI hb2 hi a z hx hb hr ht hown hlk hml hK hN (kmin (σ (47 + 57 * b + 6 * i) 5) 3 + 1) 0 (by omega) (by omega) _ _ rfl _ _ hP hS ls hl
