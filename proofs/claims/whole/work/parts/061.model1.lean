set_option maxHeartbeats 4000000 in
set_option maxRecDepth 100000 in
theorem c_X9_thrown (l : Launch) (D : va_G) (ca : Nat → ClassId) (ad : Nat → Nat) (hI : Inj 6 ad) (σ : MI) (τ : ML)  : CT l D (TY ca) 6 ad (mxf ca ad) yX9_thrown cX9_thrown 1 (some .int) 0 0 [.ref (ad 0)] σ τ (fun v_ S_ T_ => some (.int (σ 0 0)) = v_ ∧ σ = S_ ∧ τ = T_) := by
  refine CT.of (by decide) (Nat.le_of_ble_eq_true rfl) ?_
  intro p e s m args below meth c hx hb hr ht hown hlk hml hP hK hN hS ls hl
  have hl : lv_has ls 1 [(0, .ref (ad 0))] := hl
  refine lv_aload_n hx hb dX9_thrown_0 rfl (lv_at hl 0 rfl) ?_
  refine fgetx hx hb ht inG9 hown hK hP (k := 0) (by decide) (x := (σ 0)) rfl (sm_obj _ _) rfl 0 (by decide) gw_939 (v := .int ((σ 0) 0)) rfl dX9_thrown_1 ?_
  exact ret_i hx hb hr hlk hP hS dX9_thrown_4 (⟨by first | with_reducible rfl | (simp only [↓reduceIte, Bool.false_eq_true]; done) | (simp only [↓reduceIte, Bool.false_eq_true]; rfl) | rfl, by first | with_reducible rfl | (simp only [↓reduceIte, Bool.false_eq_true]; done) | (simp only [↓reduceIte, Bool.false_eq_true]; rfl) | rfl, rfl⟩)
set_option maxHeartbeats 4000000 in
set_option maxRecDepth 100000 in
theorem c_X9_refuse (l : Launch) (D : va_G) (ca : Nat → ClassId) (ad : Nat → Nat) (hI : Inj 6 ad) (σ : MI) (τ : ML)  : CT l D (TY ca) 6 ad (mxf ca ad) yX9_refuse cX9_refuse 1 (some .int) 0 0 [.ref (ad 0)] σ τ (fun v_ S_ T_ => some (.int ((0 : Int32))) = v_ ∧ (s2 σ 0 0 1) = S_ ∧ τ = T_) := by
  refine CT.of (by decide) (Nat.le_of_ble_eq_true rfl) ?_
  intro p e s m args below meth c hx hb hr ht hown hlk hml hP hK hN hS ls hl
  have hl : lv_has ls 1 [(0, .ref (ad 0))] := hl
  refine lv_aload_n hx hb dX9_refuse_0 rfl (lv_at hl 0 rfl) ?_
  refine lv_iconst (v := 1) hx hb dX9_refuse_1 (by decide) ?_
  refine fputx (ref := "") (w := 1) hx hb ht inG9 tyX9 tyX9_ok nmX9 hown hK hP hI hS (k := 0) (by decide) (sm_obj _ _) rfl 0 (by decide) gw_939 rfl rfl rfl (Nat.le_of_ble_eq_true rfl) (sm_obj _ _) dX9_refuse_2 (fun H locs hP hS => ?_)
  refine lv_iconst (v := 0) hx hb dX9_refuse_5 (by decide) ?_
  exact ret_i hx hb hr hlk hP hS dX9_refuse_6 (⟨by first | with_reducible rfl | (simp only [↓reduceIte, Bool.false_eq_true]; done) | (simp only [↓reduceIte, Bool.false_eq_true]; rfl) | rfl, by first | with_reducible rfl | (simp only [↓reduceIte, Bool.false_eq_true]; done) | (simp only [↓reduceIte, Bool.false_eq_true]; rfl) | rfl, rfl⟩)
set_option maxHeartbeats 4000000 in
set_option maxRecDepth 100000 in
theorem c_X9_isIn (l : Launch) (D : va_G) (ca : Nat → ClassId) (ad : Nat → Nat) (hI : Inj 6 ad) (σ : MI) (τ : ML) (v a b : Int32) : CT l D (TY ca) 6 ad (mxf ca ad) yX9_isIn cX9_isIn 3 (some .boolean) 0 0 [.int v, .int a, .int b] σ τ (fun v_ S_ T_ => some (.int (b2i (mIn v a b))) = v_ ∧ σ = S_ ∧ τ = T_) := by
  refine CT.of (by decide) (Nat.le_of_ble_eq_true rfl) ?_
  intro p e s m args below meth c hx hb hr ht hown hlk hml hP hK hN hS ls hl
  have hl : lv_has ls 3 [(0, .int v), (1, .int a), (2, .int b)] := hl
  refine lv_iload_n hx hb dX9_isIn_0 rfl (lv_at hl 0 rfl) ?_
  refine lv_iload_n hx hb dX9_isIn_1 rfl (lv_at hl 1 rfl) ?_
  refine lv_icmp_lt (tgt := 14) hx hb dX9_isIn_2 (by decide) (fun c1 => ?_) (fun c1 => ?_)
  · have dc1 := c1
    rw [i_lt] at dc1
    refine lv_iconst (v := 0) hx hb dX9_isIn_14 (by decide) ?_
    exact ret_z hx hb hr hlk hP hS dX9_isIn_15 (b := false) rfl (⟨by first | with_reducible rfl | (simp only [mIn, c1, ↓reduceIte, Bool.false_eq_true]; done) | (simp only [mIn, c1, ↓reduceIte, Bool.false_eq_true]; rfl) | rfl, by first | with_reducible rfl | (simp only [mIn, c1, ↓reduceIte, Bool.false_eq_true]; done) | (simp only [mIn, c1, ↓reduceIte, Bool.false_eq_true]; rfl) | rfl, rfl⟩)
  · have dc1 := c1
    rw [i_lt] at dc1
    refine lv_iload_n hx hb dX9_isIn_5 rfl (lv_at hl 0 rfl) ?_
    refine lv_iload_n hx hb dX9_isIn_6 rfl (lv_at hl 2 rfl) ?_
    refine lv_icmp_gt (tgt := 14) hx hb dX9_isIn_7 (by decide) (fun c2 => ?_) (fun c2 => ?_)
    · have dc2 := c2
      rw [i_lt] at dc2
      refine lv_iconst (v := 0) hx hb dX9_isIn_14 (by decide) ?_
      exact ret_z hx hb hr hlk hP hS dX9_isIn_15 (b := false) rfl (⟨by first | with_reducible rfl | (simp only [mIn, c1, c2, ↓reduceIte, Bool.false_eq_true]; done) | (simp only [mIn, c1, c2, ↓reduceIte, Bool.false_eq_true]; rfl) | rfl, by first | with_reducible rfl | (simp only [mIn, c1, c2, ↓reduceIte, Bool.false_eq_true]; done) | (simp only [mIn, c1, c2, ↓reduceIte, Bool.false_eq_true]; rfl) | rfl, rfl⟩)
    · have dc2 := c2
      rw [i_lt] at dc2
      refine lv_iconst (v := 1) hx hb dX9_isIn_10 (by decide) ?_
      refine lv_goto (tgt := 15) hx hb dX9_isIn_11 (by decide) ?_
      exact ret_z hx hb hr hlk hP hS dX9_isIn_15 (b := true) rfl (⟨by first | with_reducible rfl | (simp only [mIn, c1, c2, ↓reduceIte, Bool.false_eq_true]; done) | (simp only [mIn, c1, c2, ↓reduceIte, Bool.false_eq_true]; rfl) | rfl, by first | with_reducible rfl | (simp only [mIn, c1, c2, ↓reduceIte, Bool.false_eq_true]; done) | (simp only [mIn, c1, c2, ↓reduceIte, Bool.false_eq_true]; rfl) | rfl, rfl⟩)
set_option maxHeartbeats 4000000 in
set_option maxRecDepth 100000 in
theorem c_X9_isDigit (l : Launch) (D : va_G) (ca : Nat → ClassId) (ad : Nat → Nat) (hI : Inj 6 ad) (σ : MI) (τ : ML) (v : Int32) : CT l D (TY ca) 6 ad (mxf ca ad) yX9_isDigit cX9_isDigit 1 (some .boolean) 0 0 [.int v] σ τ (fun v_ S_ T_ => some (.int (b2i (mDig v))) = v_ ∧ σ = S_ ∧ τ = T_) := by
  refine CT.of (by decide) (Nat.le_of_ble_eq_true rfl) ?_
  intro p e s m args below meth c hx hb hr ht hown hlk hml hP hK hN hS ls hl
  have hl : lv_has ls 1 [(0, .int v)] := hl
  refine lv_iload_n hx hb dX9_isDigit_0 rfl (lv_at hl 0 rfl) ?_
  refine lv_bipush (v := 48) hx hb dX9_isDigit_1 (by decide) ?_
  refine lv_icmp_lt (tgt := 16) hx hb dX9_isDigit_3 (by decide) (fun c1 => ?_) (fun c1 => ?_)
  · have dc1 := c1
    rw [i_lt] at dc1
    refine lv_iconst (v := 0) hx hb dX9_isDigit_16 (by decide) ?_
    exact ret_z hx hb hr hlk hP hS dX9_isDigit_17 (b := false) rfl (⟨by first | with_reducible rfl | (simp only [mDig, c1, ↓reduceIte, Bool.false_eq_true]; done) | (simp only [mDig, c1, ↓reduceIte, Bool.false_eq_true]; rfl) | rfl, by first | with_reducible rfl | (simp only [mDig, c1, ↓reduceIte, Bool.false_eq_true]; done) | (simp only [mDig, c1, ↓reduceIte, Bool.false_eq_true]; rfl) | rfl, rfl⟩)
  · have dc1 := c1
    rw [i_lt] at dc1
    refine lv_iload_n hx hb dX9_isDigit_6 rfl (lv_at hl 0 rfl) ?_
    refine lv_bipush (v := 57) hx hb dX9_isDigit_7 (by decide) ?_
    refine lv_icmp_gt (tgt := 16) hx hb dX9_isDigit_9 (by decide) (fun c2 => ?_) (fun c2 => ?_)
    · have dc2 := c2
      rw [i_lt] at dc2
      refine lv_iconst (v := 0) hx hb dX9_isDigit_16 (by decide) ?_
      exact ret_z hx hb hr hlk hP hS dX9_isDigit_17 (b := false) rfl (⟨by first | with_reducible rfl | (simp only [mDig, c1, c2, ↓reduceIte, Bool.false_eq_true]; done) | (simp only [mDig, c1, c2, ↓reduceIte, Bool.false_eq_true]; rfl) | rfl, by first | with_reducible rfl | (simp only [mDig, c1, c2, ↓reduceIte, Bool.false_eq_true]; done) | (simp only [mDig, c1, c2, ↓reduceIte, Bool.false_eq_true]; rfl) | rfl, rfl⟩)
    · have dc2 := c2
      rw [i_lt] at dc2
      refine lv_iconst (v := 1) hx hb dX9_isDigit_12 (by decide) ?_
      refine lv_goto (tgt := 17) hx hb dX9_isDigit_13 (by decide) ?_
      exact ret_z hx hb hr hlk hP hS dX9_isDigit_17 (b := true) rfl (⟨by first | with_reducible rfl | (simp only [mDig, c1, c2, ↓reduceIte, Bool.false_eq_true]; done) | (simp only [mDig, c1, c2, ↓reduceIte, Bool.false_eq_true]; rfl) | rfl, by first | with_reducible rfl | (simp only [mDig, c1, c2, ↓reduceIte, Bool.false_eq_true]; done) | (simp only [mDig, c1, c2, ↓reduceIte, Bool.false_eq_true]; rfl) | rfl, rfl⟩)
set_option maxHeartbeats 4000000 in
set_option maxRecDepth 100000 in
theorem c_X9_isLetter (l : Launch) (D : va_G) (ca : Nat → ClassId) (ad : Nat → Nat) (hI : Inj 6 ad) (σ : MI) (τ : ML) (v : Int32) : CT l D (TY ca) 6 ad (mxf ca ad) yX9_isLetter cX9_isLetter 1 (some .boolean) 0 0 [.int v] σ τ (fun v_ S_ T_ => some (.int (b2i (mLet v))) = v_ ∧ σ = S_ ∧ τ = T_) := by
  refine CT.of (by decide) (Nat.le_of_ble_eq_true rfl) ?_
  intro p e s m args below meth c hx hb hr ht hown hlk hml hP hK hN hS ls hl
  have hl : lv_has ls 1 [(0, .int v)] := hl
  refine lv_iload_n hx hb dX9_isLetter_0 rfl (lv_at hl 0 rfl) ?_
  refine lv_bipush (v := 97) hx hb dX9_isLetter_1 (by decide) ?_
  refine lv_icmp_lt (tgt := 16) hx hb dX9_isLetter_3 (by decide) (fun c1 => ?_) (fun c1 => ?_)
  · have dc1 := c1
    rw [i_lt] at dc1
    refine lv_iconst (v := 0) hx hb dX9_isLetter_16 (by decide) ?_
    exact ret_z hx hb hr hlk hP hS dX9_isLetter_17 (b := false) rfl (⟨by first | with_reducible rfl | (simp only [mLet, c1, ↓reduceIte, Bool.false_eq_true]; done) | (simp only [mLet, c1, ↓reduceIte, Bool.false_eq_true]; rfl) | rfl, by first | with_reducible rfl | (simp only [mLet, c1, ↓reduceIte, Bool.false_eq_true]; done) | (simp only [mLet, c1, ↓reduceIte, Bool.false_eq_true]; rfl) | rfl, rfl⟩)
  · have dc1 := c1
    rw [i_lt] at dc1
    refine lv_iload_n hx hb dX9_isLetter_6 rfl (lv_at hl 0 rfl) ?_
    refine lv_bipush (v := 122) hx hb dX9_isLetter_7 (by decide) ?_
    refine lv_icmp_gt (tgt := 16) hx hb dX9_isLetter_9 (by decide) (fun c2 => ?_) (fun c2 => ?_)
    · have dc2 := c2
      rw [i_lt] at dc2
      refine lv_iconst (v := 0) hx hb dX9_isLetter_16 (by decide) ?_
      exact ret_z hx hb hr hlk hP hS dX9_isLetter_17 (b := false) rfl (⟨by first | with_reducible rfl | (simp only [mLet, c1, c2, ↓reduceIte, Bool.false_eq_true]; done) | (simp only [mLet, c1, c2, ↓reduceIte, Bool.false_eq_true]; rfl) | rfl, by first | with_reducible rfl | (simp only [mLet, c1, c2, ↓reduceIte, Bool.false_eq_true]; done) | (simp only [mLet, c1, c2, ↓reduceIte, Bool.false_eq_true]; rfl) | rfl, rfl⟩)
    · have dc2 := c2
      rw [i_lt] at dc2
      refine lv_iconst (v := 1) hx hb dX9_isLetter_12 (by decide) ?_
      refine lv_goto (tgt := 17) hx hb dX9_isLetter_13 (by decide) ?_
      exact ret_z hx hb hr hlk hP hS dX9_isLetter_17 (b := true) rfl (⟨by first | with_reducible rfl | (simp only [mLet, c1, c2, ↓reduceIte, Bool.false_eq_true]; done) | (simp only [mLet, c1, c2, ↓reduceIte, Bool.false_eq_true]; rfl) | rfl, by first | with_reducible rfl | (simp only [mLet, c1, c2, ↓reduceIte, Bool.false_eq_true]; done) | (simp only [mLet, c1, c2, ↓reduceIte, Bool.false_eq_true]; rfl) | rfl, rfl⟩)
set_option maxHeartbeats 4000000 in
set_option maxRecDepth 100000 in
theorem c_X9_four (l : Launch) (D : va_G) (ca : Nat → ClassId) (ad : Nat → Nat) (hI : Inj 6 ad) (σ : MI) (τ : ML) (a b c_ d : Int32) : CT l D (TY ca) 6 ad (mxf ca ad) yX9_four cX9_four 4 (some .long) 0 0 [.int a, .int b, .int c_, .int d] σ τ (fun v_ S_ T_ => some (.long (mFour a b c_ d)) = v_ ∧ σ = S_ ∧ τ = T_) := by
  refine CT.of (by decide) (Nat.le_of_ble_eq_true rfl) ?_
  intro p e s m args below meth c hx hb hr ht hown hlk hml hP hK hN hS ls hl
  have hl : lv_has ls 4 [(0, .int a), (1, .int b), (2, .int c_), (3, .int d)] := hl
  refine lv_ldc2 hx hb hown (ht _ gw_1010) dX9_four_0 ?_
  refine lv_ldc2 hx hb hown (ht _ gw_1010) dX9_four_3 ?_
  refine lv_ldc2 hx hb hown (ht _ gw_1010) dX9_four_6 ?_
  refine lv_iload_n hx hb dX9_four_9 rfl (lv_at hl 0 rfl) ?_
  refine lv_i2l (v := a.toInt64) hx hb dX9_four_10 rfl ?_
  refine lv_ldc2 hx hb hown (ht _ gw_1011) dX9_four_11 ?_
  refine lv_lsub hx hb dX9_four_14 ?_
  refine lv_lmul hx hb dX9_four_15 ?_
  refine lv_iload_n hx hb dX9_four_16 rfl (lv_at hl 1 rfl) ?_
  refine lv_i2l (v := b.toInt64) hx hb dX9_four_17 rfl ?_
  refine lv_ladd hx hb dX9_four_18 ?_
  refine lv_ldc2 hx hb hown (ht _ gw_1011) dX9_four_19 ?_
  refine lv_lsub hx hb dX9_four_22 ?_
  refine lv_lmul hx hb dX9_four_23 ?_
  refine lv_iload_n hx hb dX9_four_24 rfl (lv_at hl 2 rfl) ?_
  refine lv_i2l (v := c_.toInt64) hx hb dX9_four_25 rfl ?_
  refine lv_ladd hx hb dX9_four_26 ?_
  refine lv_ldc2 hx hb hown (ht _ gw_1011) dX9_four_27 ?_
  refine lv_lsub hx hb dX9_four_30 ?_
  refine lv_lmul hx hb dX9_four_31 ?_
  refine lv_iload_n hx hb dX9_four_32 rfl (lv_at hl 3 rfl) ?_
  refine lv_i2l (v := d.toInt64) hx hb dX9_four_33 rfl ?_
  refine lv_ladd hx hb dX9_four_34 ?_
  refine lv_ldc2 hx hb hown (ht _ gw_1011) dX9_four_35 ?_
  refine lv_lsub hx hb dX9_four_38 ?_
  exact ret_l hx hb hr hlk hP hS dX9_four_39 (⟨by first | with_reducible rfl | (simp only [mFour, ↓reduceIte, Bool.false_eq_true]; done) | (simp only [mFour, ↓reduceIte, Bool.false_eq_true]; rfl) | rfl, by first | with_reducible rfl | (simp only [mFour, ↓reduceIte, Bool.false_eq_true]; done) | (simp only [mFour, ↓reduceIte, Bool.false_eq_true]; rfl) | rfl, rfl⟩)
set_option maxHeartbeats 4000000 in
set_option maxRecDepth 100000 in
theorem c_X9_wordOf (l : Launch) (D : va_G) (ca : Nat → ClassId) (ad : Nat → Nat) (hI : Inj 6 ad) (σ : MI) (τ : ML) (w : Int32) : CT l D (TY ca) 6 ad (mxf ca ad) yX9_wordOf cX9_wordOf 1 (some .long) 1 23 [.int w] σ τ (fun v_ S_ T_ => some (.long (mWord w)) = v_ ∧ σ = S_ ∧ τ = T_) := by
  refine CT.of (by decide) (Nat.le_of_ble_eq_true rfl) ?_
  intro p e s m args below meth c hx hb hr ht hown hlk hml hP hK hN hS ls hl
  have hl : lv_has ls 1 [(0, .int w)] := hl
  refine lv_iload_n hx hb dX9_wordOf_0 rfl (lv_at hl 0 rfl) ?_
  rcases tab_cases w 6 (by decide) with c1 | ⟨k_, hk_, c1⟩
  · refine lv_tableOut (tgt := 148) hx hb dX9_wordOf_1 (by omega) (by decide) ?_
    refine lv_ldc2 hx hb hown (ht _ gw_1010) dX9_wordOf_148 ?_
    refine lv_bipush (v := 115) hx hb dX9_wordOf_151 (by decide) ?_
    refine lv_bipush (v := 104) hx hb dX9_wordOf_153 (by decide) ?_
    refine lv_bipush (v := 97) hx hb dX9_wordOf_155 (by decide) ?_
    refine lv_bipush (v := 114) hx hb dX9_wordOf_157 (by decide) ?_
    refine calls (y := yX9_four) ⟨hx, hb, hml, hown, ht⟩ hK hN hP hS (c_X9_four l D ca ad hI σ τ (115 : Int32) (104 : Int32) (97 : Int32) (114 : Int32)) ok_X9_four gw_1023 ⟨by decide, by decide⟩ rfl hl.1 rfl (Nat.le_of_ble_eq_true rfl) ⟨by decide, by decide⟩ dX9_wordOf_159 (fun v_ S_ T_ H locs hp2 hP hS => ?_)
    obtain ⟨rfl, rfl, rfl⟩ := hp2
    try dsimp only [Option.toList, List.cons_append, List.nil_append]
    refine lv_lmul hx hb dX9_wordOf_162 ?_
    refine lv_ldc2 hx hb hown (ht _ gw_1033) dX9_wordOf_163 ?_
    refine lv_ladd hx hb dX9_wordOf_166 ?_
    exact ret_l hx hb hr hlk hP hS dX9_wordOf_167 (⟨by first | with_reducible rfl | (simp only [mWord, swt_out c1, ↓reduceIte, Bool.false_eq_true]; done) | (simp only [mWord, swt_out c1, ↓reduceIte, Bool.false_eq_true]; rfl) | rfl, by first | with_reducible rfl | (simp only [mWord, swt_out c1, ↓reduceIte, Bool.false_eq_true]; done) | (simp only [mWord, swt_out c1, ↓reduceIte, Bool.false_eq_true]; rfl) | rfl, rfl⟩)
  · rcases (by omega : k_ = 0 ∨ k_ = 1 ∨ k_ = 2 ∨ k_ = 3 ∨ k_ = 4 ∨ k_ = 5) with rfl | rfl | rfl | rfl | rfl | rfl
    · refine lv_tableIn (tgt := 40) hx hb dX9_wordOf_1 (by rw [c1]; decide) (by rw [c1]; decide) (by rw [c1]; rfl) (by decide) ?_
      refine lv_ldc2 hx hb hown (ht _ gw_1010) dX9_wordOf_40 ?_
      refine lv_bipush (v := 109) hx hb dX9_wordOf_43 (by decide) ?_
      refine lv_bipush (v := 111) hx hb dX9_wordOf_45 (by decide) ?_
      refine lv_bipush (v := 110) hx hb dX9_wordOf_47 (by decide) ?_
      refine lv_bipush (v := 116) hx hb dX9_wordOf_49 (by decide) ?_
      refine calls (y := yX9_four) ⟨hx, hb, hml, hown, ht⟩ hK hN hP hS (c_X9_four l D ca ad hI σ τ (109 : Int32) (111 : Int32) (110 : Int32) (116 : Int32)) ok_X9_four gw_1023 ⟨by decide, by decide⟩ rfl hl.1 rfl (Nat.le_of_ble_eq_true rfl) ⟨by decide, by decide⟩ dX9_wordOf_51 (fun v_ S_ T_ H locs hp3 hP hS => ?_)
      obtain ⟨rfl, rfl, rfl⟩ := hp3
      try dsimp only [Option.toList, List.cons_append, List.nil_append]
      refine lv_lmul hx hb dX9_wordOf_54 ?_
      refine lv_ldc2 hx hb hown (ht _ gw_1026) dX9_wordOf_55 ?_
      refine lv_ladd hx hb dX9_wordOf_58 ?_
      exact ret_l hx hb hr hlk hP hS dX9_wordOf_59 (⟨by first | with_reducible rfl | (simp only [mWord, c1, ↓reduceIte, Bool.false_eq_true]; done) | (simp only [mWord, c1, ↓reduceIte, Bool.false_eq_true]; rfl) | rfl, by first | with_reducible rfl | (simp only [mWord, c1, ↓reduceIte, Bool.false_eq_true]; done) | (simp only [mWord, c1, ↓reduceIte, Bool.false_eq_true]; rfl) | rfl, rfl⟩)
    · refine lv_tableIn (tgt := 60) hx hb dX9_wordOf_1 (by rw [c1]; decide) (by rw [c1]; decide) (by rw [c1]; rfl) (by decide) ?_
      refine lv_ldc2 hx hb hown (ht _ gw_1010) dX9_wordOf_60 ?_
      refine lv_bipush (v := 105) hx hb dX9_wordOf_63 (by decide) ?_
      refine lv_bipush (v := 110) hx hb dX9_wordOf_65 (by decide) ?_
      refine lv_bipush (v := 100) hx hb dX9_wordOf_67 (by decide) ?_
      refine lv_bipush (v := 101) hx hb dX9_wordOf_69 (by decide) ?_
      refine calls (y := yX9_four) ⟨hx, hb, hml, hown, ht⟩ hK hN hP hS (c_X9_four l D ca ad hI σ τ (105 : Int32) (110 : Int32) (100 : Int32) (101 : Int32)) ok_X9_four gw_1023 ⟨by decide, by decide⟩ rfl hl.1 rfl (Nat.le_of_ble_eq_true rfl) ⟨by decide, by decide⟩ dX9_wordOf_71 (fun v_ S_ T_ H locs hp4 hP hS => ?_)
      obtain ⟨rfl, rfl, rfl⟩ := hp4
      try dsimp only [Option.toList, List.cons_append, List.nil_append]
      refine lv_lmul hx hb dX9_wordOf_74 ?_
      refine lv_ldc2 hx hb hown (ht _ gw_1027) dX9_wordOf_75 ?_
      refine lv_ladd hx hb dX9_wordOf_78 ?_
      exact ret_l hx hb hr hlk hP hS dX9_wordOf_79 (⟨by first | with_reducible rfl | (simp only [mWord, c1, ↓reduceIte, Bool.false_eq_true]; done) | (simp only [mWord, c1, ↓reduceIte, Bool.false_eq_true]; rfl) | rfl, by first | with_reducible rfl | (simp only [mWord, c1, ↓reduceIte, Bool.false_eq_true]; done) | (simp only [mWord, c1, ↓reduceIte, Bool.false_eq_true]; rfl) | rfl, rfl⟩)
    · refine lv_tableIn (tgt := 80) hx hb dX9_wordOf_1 (by rw [c1]; decide) (by rw [c1]; decide) (by rw [c1]; rfl) (by decide) ?_
      refine lv_ldc2 hx hb hown (ht _ gw_1028) dX9_wordOf_80 ?_
      refine lv_bipush (v := 99) hx hb dX9_wordOf_83 (by decide) ?_
      refine lv_bipush (v := 111) hx hb dX9_wordOf_85 (by decide) ?_
      refine lv_bipush (v := 110) hx hb dX9_wordOf_87 (by decide) ?_
      refine lv_bipush (v := 116) hx hb dX9_wordOf_89 (by decide) ?_
      refine calls (y := yX9_four) ⟨hx, hb, hml, hown, ht⟩ hK hN hP hS (c_X9_four l D ca ad hI σ τ (99 : Int32) (111 : Int32) (110 : Int32) (116 : Int32)) ok_X9_four gw_1023 ⟨by decide, by decide⟩ rfl hl.1 rfl (Nat.le_of_ble_eq_true rfl) ⟨by decide, by decide⟩ dX9_wordOf_91 (fun v_ S_ T_ H locs hp5 hP hS => ?_)
      obtain ⟨rfl, rfl, rfl⟩ := hp5
      try dsimp only [Option.toList, List.cons_append, List.nil_append]
      refine lv_lmul hx hb dX9_wordOf_94 ?_
      refine lv_bipush (v := 114) hx hb dX9_wordOf_95 (by decide) ?_
      refine lv_bipush (v := 97) hx hb dX9_wordOf_97 (by decide) ?_
      refine lv_bipush (v := 99) hx hb dX9_wordOf_99 (by decide) ?_
      refine lv_bipush (v := 116) hx hb dX9_wordOf_101 (by decide) ?_
      refine calls (y := yX9_four) ⟨hx, hb, hml, hown, ht⟩ hK hN hP hS (c_X9_four l D ca ad hI σ τ (114 : Int32) (97 : Int32) (99 : Int32) (116 : Int32)) ok_X9_four gw_1023 ⟨by decide, by decide⟩ rfl hl.1 rfl (Nat.le_of_ble_eq_true rfl) ⟨by decide, by decide⟩ dX9_wordOf_103 (fun v_ S_ T_ H locs hp6 hP hS => ?_)
      obtain ⟨rfl, rfl, rfl⟩ := hp6
      try dsimp only [Option.toList, List.cons_append, List.nil_append]
      refine lv_ladd hx hb dX9_wordOf_106 ?_
      exact ret_l hx hb hr hlk hP hS dX9_wordOf_107 (⟨by first | with_reducible rfl | (simp only [mWord, c1, ↓reduceIte, Bool.false_eq_true]; done) | (simp only [mWord, c1, ↓reduceIte, Bool.false_eq_true]; rfl) | rfl, by first | with_reducible rfl | (simp only [mWord, c1, ↓reduceIte, Bool.false_eq_true]; done) | (simp only [mWord, c1, ↓reduceIte, Bool.false_eq_true]; rfl) | rfl, rfl⟩)
    · refine lv_tableIn (tgt := 108) hx hb dX9_wordOf_1 (by rw [c1]; decide) (by rw [c1]; decide) (by rw [c1]; rfl) (by decide) ?_
      refine lv_bipush (v := 98) hx hb dX9_wordOf_108 (by decide) ?_
      refine lv_bipush (v := 97) hx hb dX9_wordOf_110 (by decide) ?_
      refine lv_bipush (v := 115) hx hb dX9_wordOf_112 (by decide) ?_
      refine lv_bipush (v := 101) hx hb dX9_wordOf_114 (by decide) ?_
      refine calls (y := yX9_four) ⟨hx, hb, hml, hown, ht⟩ hK hN hP hS (c_X9_four l D ca ad hI σ τ (98 : Int32) (97 : Int32) (115 : Int32) (101 : Int32)) ok_X9_four gw_1023 ⟨by decide, by decide⟩ rfl hl.1 rfl (Nat.le_of_ble_eq_true rfl) ⟨by decide, by decide⟩ dX9_wordOf_116 (fun v_ S_ T_ H locs hp7 hP hS => ?_)
      obtain ⟨rfl, rfl, rfl⟩ := hp7
      try dsimp only [Option.toList, List.cons_append, List.nil_append]
      exact ret_l hx hb hr hlk hP hS dX9_wordOf_119 (⟨by first | with_reducible rfl | (simp only [mWord, c1, ↓reduceIte, Bool.false_eq_true]; done) | (simp only [mWord, c1, ↓reduceIte, Bool.false_eq_true]; rfl) | rfl, by first | with_reducible rfl | (simp only [mWord, c1, ↓reduceIte, Bool.false_eq_true]; done) | (simp only [mWord, c1, ↓reduceIte, Bool.false_eq_true]; rfl) | rfl, rfl⟩)
    · refine lv_tableIn (tgt := 120) hx hb dX9_wordOf_1 (by rw [c1]; decide) (by rw [c1]; decide) (by rw [c1]; rfl) (by decide) ?_
      refine lv_ldc2 hx hb hown (ht _ gw_1029) dX9_wordOf_120 ?_
      exact ret_l hx hb hr hlk hP hS dX9_wordOf_123 (⟨by first | with_reducible rfl | (simp only [mWord, c1, ↓reduceIte, Bool.false_eq_true]; done) | (simp only [mWord, c1, ↓reduceIte, Bool.false_eq_true]; rfl) | rfl, by first | with_reducible rfl | (simp only [mWord, c1, ↓reduceIte, Bool.false_eq_true]; done) | (simp only [mWord, c1, ↓reduceIte, Bool.false_eq_true]; rfl) | rfl, rfl⟩)
    · refine lv_tableIn (tgt := 124) hx hb dX9_wordOf_1 (by rw [c1]; decide) (by rw [c1]; decide) (by rw [c1]; rfl) (by decide) ?_
      refine lv_ldc2 hx hb hown (ht _ gw_1030) dX9_wordOf_124 ?_
      refine lv_bipush (v := 98) hx hb dX9_wordOf_127 (by decide) ?_
      refine lv_bipush (v := 101) hx hb dX9_wordOf_129 (by decide) ?_
      refine lv_bipush (v := 121) hx hb dX9_wordOf_131 (by decide) ?_
      refine lv_bipush (v := 111) hx hb dX9_wordOf_133 (by decide) ?_
      refine calls (y := yX9_four) ⟨hx, hb, hml, hown, ht⟩ hK hN hP hS (c_X9_four l D ca ad hI σ τ (98 : Int32) (101 : Int32) (121 : Int32) (111 : Int32)) ok_X9_four gw_1023 ⟨by decide, by decide⟩ rfl hl.1 rfl (Nat.le_of_ble_eq_true rfl) ⟨by decide, by decide⟩ dX9_wordOf_135 (fun v_ S_ T_ H locs hp8 hP hS => ?_)
      obtain ⟨rfl, rfl, rfl⟩ := hp8
      try dsimp only [Option.toList, List.cons_append, List.nil_append]
      refine lv_lmul hx hb dX9_wordOf_138 ?_
      refine lv_ldc2 hx hb hown (ht _ gw_1031) dX9_wordOf_139 ?_
      refine lv_ladd hx hb dX9_wordOf_142 ?_
      refine lv_ldc2 hx hb hown (ht _ gw_1032) dX9_wordOf_143 ?_
      refine lv_ladd hx hb dX9_wordOf_146 ?_
      exact ret_l hx hb hr hlk hP hS dX9_wordOf_147 (⟨by first | with_reducible rfl | (simp only [mWord, c1, ↓reduceIte, Bool.false_eq_true]; done) | (simp only [mWord, c1, ↓reduceIte, Bool.false_eq_true]; rfl) | rfl, by first | with_reducible rfl | (simp only [mWord, c1, ↓reduceIte, Bool.false_eq_true]; done) | (simp only [mWord, c1, ↓reduceIte, Bool.false_eq_true]; rfl) | rfl, rfl⟩)
set_option maxHeartbeats 4000000 in
set_option maxRecDepth 100000 in
theorem c_X9_is (l : Launch) (D : va_G) (ca : Nat → ClassId) (ad : Nat → Nat) (hI : Inj 6 ad) (σ : MI) (τ : ML) (w : Int32) : CT l D (TY ca) 6 ad (mxf ca ad) yX9_is cX9_is 2 (some .boolean) 2 43 [.ref (ad 0), .int w] σ τ (fun v_ S_ T_ => some (.int (b2i (mIs σ τ w))) = v_ ∧ σ = S_ ∧ τ = T_) := by
  refine CT.of (by decide) (Nat.le_of_ble_eq_true rfl) ?_
  intro p e s m args below meth c hx hb hr ht hown hlk hml hP hK hN hS ls hl
  have hl : lv_has ls 2 [(0, .ref (ad 0)), (1, .int w)] := hl
  refine lv_aload_n hx hb dX9_is_0 rfl (lv_at hl 0 rfl) ?_
  refine fgetx hx hb ht inG9 hown hK hP (k := 0) (by decide) (x := (σ 0)) rfl (sm_obj _ _) rfl 6 (by decide) gw_945 (v := .int ((σ 0) 6)) rfl dX9_is_1 ?_
  refine lv_iconst (v := 2) hx hb dX9_is_4 (by decide) ?_
  refine lv_icmp_ne (tgt := 24) hx hb dX9_is_5 (by decide) (fun c1 => ?_) (fun c1 => ?_)
  · have dc1 := c1
    rw [i_eq] at dc1
    refine lv_iconst (v := 0) hx hb dX9_is_24 (by decide) ?_
    exact ret_z hx hb hr hlk hP hS dX9_is_25 (b := false) rfl (⟨by first | with_reducible rfl | (simp only [mIs, c1, ↓reduceIte, Bool.false_eq_true]; done) | (simp only [mIs, c1, ↓reduceIte, Bool.false_eq_true]; rfl) | rfl, by first | with_reducible rfl | (simp only [mIs, c1, ↓reduceIte, Bool.false_eq_true]; done) | (simp only [mIs, c1, ↓reduceIte, Bool.false_eq_true]; rfl) | rfl, rfl⟩)
  · have dc1 := c1
    rw [i_eq] at dc1
    refine lv_aload_n hx hb dX9_is_8 rfl (lv_at hl 0 rfl) ?_
    refine fgetx hx hb ht inG9 hown hK hP (k := 0) (by decide) (x := (σ 0)) rfl (sm_obj _ _) rfl 11 (by decide) gw_950 (v := .long (τ 0 11)) rfl dX9_is_9 ?_
    refine lv_iload_n hx hb dX9_is_12 rfl (lv_at hl 1 rfl) ?_
    refine calls (y := yX9_wordOf) ⟨hx, hb, hml, hown, ht⟩ hK hN hP hS (c_X9_wordOf l D ca ad hI σ τ w) ok_X9_wordOf gw_1020 ⟨by decide, by decide⟩ rfl hl.1 rfl (Nat.le_of_ble_eq_true rfl) ⟨by decide, by decide⟩ dX9_is_13 (fun v_ S_ T_ H locs hp2 hP hS => ?_)
    obtain ⟨rfl, rfl, rfl⟩ := hp2
    try dsimp only [Option.toList, List.cons_append, List.nil_append]
    refine W.lcmp hx hb dX9_is_16 ?_
    refine lv_if_ne (tgt := 24) hx hb dX9_is_17 (by decide) (fun c3 => ?_) (fun c3 => ?_)
    · rw [lgc_ne] at c3
      refine lv_iconst (v := 0) hx hb dX9_is_24 (by decide) ?_
      exact ret_z hx hb hr hlk hP hS dX9_is_25 (b := false) rfl (⟨by first | with_reducible rfl | (simp only [mIs, c1, c3, ↓reduceIte, Bool.false_eq_true]; done) | (simp only [mIs, c1, c3, ↓reduceIte, Bool.false_eq_true]; rfl) | rfl, by first | with_reducible rfl | (simp only [mIs, c1, c3, ↓reduceIte, Bool.false_eq_true]; done) | (simp only [mIs, c1, c3, ↓reduceIte, Bool.false_eq_true]; rfl) | rfl, rfl⟩)
    · rw [lgc_ne] at c3
      refine lv_iconst (v := 1) hx hb dX9_is_20 (by decide) ?_
      refine lv_goto (tgt := 25) hx hb dX9_is_21 (by decide) ?_
      exact ret_z hx hb hr hlk hP hS dX9_is_25 (b := true) rfl (⟨by first | with_reducible rfl | (simp only [mIs, c1, c3, ↓reduceIte, Bool.false_eq_true]; done) | (simp only [mIs, c1, c3, ↓reduceIte, Bool.false_eq_true]; rfl) | rfl, by first | with_reducible rfl | (simp only [mIs, c1, c3, ↓reduceIte, Bool.false_eq_true]; done) | (simp only [mIs, c1, c3, ↓reduceIte, Bool.false_eq_true]; rfl) | rfl, rfl⟩)
set_option maxHeartbeats 4000000 in
set_option maxRecDepth 100000 in
theorem c_X9_isSign (l : Launch) (D : va_G) (ca : Nat → ClassId) (ad : Nat → Nat) (hI : Inj 6 ad) (σ : MI) (τ : ML) (w : Int32) : CT l D (TY ca) 6 ad (mxf ca ad) yX9_isSign cX9_isSign 2 (some .boolean) 0 0 [.ref (ad 0), .int w] σ τ (fun v_ S_ T_ => some (.int (b2i (mSig σ w))) = v_ ∧ σ = S_ ∧ τ = T_) := by
  refine CT.of (by decide) (Nat.le_of_ble_eq_true rfl) ?_
  intro p e s m args below meth c hx hb hr ht hown hlk hml hP hK hN hS ls hl
  have hl : lv_has ls 2 [(0, .ref (ad 0)), (1, .int w)] := hl
  refine lv_aload_n hx hb dX9_isSign_0 rfl (lv_at hl 0 rfl) ?_
  refine fgetx hx hb ht inG9 hown hK hP (k := 0) (by decide) (x := (σ 0)) rfl (sm_obj _ _) rfl 6 (by decide) gw_945 (v := .int ((σ 0) 6)) rfl dX9_isSign_1 ?_
  refine lv_iconst (v := 4) hx hb dX9_isSign_4 (by decide) ?_
  refine lv_icmp_ne (tgt := 20) hx hb dX9_isSign_5 (by decide) (fun c1 => ?_) (fun c1 => ?_)
  · have dc1 := c1
    rw [i_eq] at dc1
    refine lv_iconst (v := 0) hx hb dX9_isSign_20 (by decide) ?_
    exact ret_z hx hb hr hlk hP hS dX9_isSign_21 (b := false) rfl (⟨by first | with_reducible rfl | (simp only [mSig, c1, ↓reduceIte, Bool.false_eq_true]; done) | (simp only [mSig, c1, ↓reduceIte, Bool.false_eq_true]; rfl) | rfl, by first | with_reducible rfl | (simp only [mSig, c1, ↓reduceIte, Bool.false_eq_true]; done) | (simp only [mSig, c1, ↓reduceIte, Bool.false_eq_true]; rfl) | rfl, rfl⟩)
  · have dc1 := c1
    rw [i_eq] at dc1
    refine lv_aload_n hx hb dX9_isSign_8 rfl (lv_at hl 0 rfl) ?_
    refine fgetx hx hb ht inG9 hown hK hP (k := 0) (by decide) (x := (σ 0)) rfl (sm_obj _ _) rfl 8 (by decide) gw_947 (v := .int ((σ 0) 8)) rfl dX9_isSign_9 ?_
    refine lv_iload_n hx hb dX9_isSign_12 rfl (lv_at hl 1 rfl) ?_
    refine lv_icmp_ne (tgt := 20) hx hb dX9_isSign_13 (by decide) (fun c2 => ?_) (fun c2 => ?_)
    · have dc2 := c2
      rw [i_eq] at dc2
      refine lv_iconst (v := 0) hx hb dX9_isSign_20 (by decide) ?_
      exact ret_z hx hb hr hlk hP hS dX9_isSign_21 (b := false) rfl (⟨by first | with_reducible rfl | (simp only [mSig, c1, c2, ↓reduceIte, Bool.false_eq_true]; done) | (simp only [mSig, c1, c2, ↓reduceIte, Bool.false_eq_true]; rfl) | rfl, by first | with_reducible rfl | (simp only [mSig, c1, c2, ↓reduceIte, Bool.false_eq_true]; done) | (simp only [mSig, c1, c2, ↓reduceIte, Bool.false_eq_true]; rfl) | rfl, rfl⟩)
    · have dc2 := c2
      rw [i_eq] at dc2
      refine lv_iconst (v := 1) hx hb dX9_isSign_16 (by decide) ?_
      refine lv_goto (tgt := 21) hx hb dX9_isSign_17 (by decide) ?_
      exact ret_z hx hb hr hlk hP hS dX9_isSign_21 (b := true) rfl (⟨by first | with_reducible rfl | (simp only [mSig, c1, c2, ↓reduceIte, Bool.false_eq_true]; done) | (simp only [mSig, c1, c2, ↓reduceIte, Bool.false_eq_true]; rfl) | rfl, by first | with_reducible rfl | (simp only [mSig, c1, c2, ↓reduceIte, Bool.false_eq_true]; done) | (simp only [mSig, c1, c2, ↓reduceIte, Bool.false_eq_true]; rfl) | rfl, rfl⟩)
set_option maxHeartbeats 4000000 in
set_option maxRecDepth 100000 in
theorem c_X9_bad (l : Launch) (D : va_G) (ca : Nat → ClassId) (ad : Nat → Nat) (hI : Inj 6 ad) (σ : MI) (τ : ML) (w : Int32) : CT l D (TY ca) 6 ad (mxf ca ad) yX9_bad cX9_bad 2 (some .boolean) 0 0 [.ref (ad 0), .int w] σ τ (fun v_ S_ T_ => some (.int (b2i (false))) = v_ ∧ (mBad σ w) = S_ ∧ τ = T_) := by
  refine CT.of (by decide) (Nat.le_of_ble_eq_true rfl) ?_
  intro p e s m args below meth c hx hb hr ht hown hlk hml hP hK hN hS ls hl
  have hl : lv_has ls 2 [(0, .ref (ad 0)), (1, .int w)] := hl
  refine lv_aload_n hx hb dX9_bad_0 rfl (lv_at hl 0 rfl) ?_
  refine lv_aload_n hx hb dX9_bad_1 rfl (lv_at hl 0 rfl) ?_
  refine fgetx hx hb ht inG9 hown hK hP (k := 0) (by decide) (x := (σ 0)) rfl (sm_obj _ _) rfl 6 (by decide) gw_945 (v := .int ((σ 0) 6)) rfl dX9_bad_2 ?_
  refine lv_iconst (v := 1) hx hb dX9_bad_5 (by decide) ?_
  refine lv_icmp_ne (tgt := 13) hx hb dX9_bad_6 (by decide) (fun c1 => ?_) (fun c1 => ?_)
  · have dc1 := c1
    rw [i_eq] at dc1
    refine lv_iload_n hx hb dX9_bad_13 rfl (lv_at hl 1 rfl) ?_
    refine fputx (ref := "") (w := w) hx hb ht inG9 tyX9 tyX9_ok nmX9 hown hK hP hI hS (k := 0) (by decide) (sm_obj _ _) rfl 9 (by decide) gw_948 rfl rfl rfl (Nat.le_of_ble_eq_true rfl) (sm_obj _ _) dX9_bad_14 (fun H locs hP hS => ?_)
    refine lv_aload_n hx hb dX9_bad_17 rfl (lv_at hl 0 rfl) ?_
    refine lv_aload_n hx hb dX9_bad_18 rfl (lv_at hl 0 rfl) ?_
    refine fgetx hx hb ht inG9 hown hK hP (k := 0) (by decide) (x := (upd (σ 0) 9 w)) (s2_k _ _ _ _) (sm_obj _ _) rfl 5 (by decide) gw_944 (v := .int ((σ 0) 5)) rfl dX9_bad_19 ?_
    refine fputx (ref := "") (w := (σ 0) 5) hx hb ht inG9 tyX9 tyX9_ok nmX9 hown hK hP hI hS (k := 0) (by decide) (sm_obj _ _) rfl 10 (by decide) gw_949 rfl rfl rfl (Nat.le_of_ble_eq_true rfl) (sm_obj _ _) dX9_bad_22 (fun H locs hP hS => ?_)
    refine lv_iconst (v := 0) hx hb dX9_bad_25 (by decide) ?_
    exact ret_z hx hb hr hlk hP hS dX9_bad_26 (b := false) rfl (⟨by first | with_reducible rfl | (simp only [mBad, c1, ↓reduceIte, Bool.false_eq_true]; done) | (simp only [mBad, c1, ↓reduceIte, Bool.false_eq_true]; rfl) | rfl, by first | with_reducible rfl | (simp only [mBad, c1, ↓reduceIte, Bool.false_eq_true]; done) | (simp only [mBad, c1, ↓reduceIte, Bool.false_eq_true]; rfl) | rfl, rfl⟩)
  · have dc1 := c1
    rw [i_eq] at dc1
    refine lv_iconst (v := 1) hx hb dX9_bad_9 (by decide) ?_
    refine lv_goto (tgt := 14) hx hb dX9_bad_10 (by decide) ?_
    refine fputx (ref := "") (w := 1) hx hb ht inG9 tyX9 tyX9_ok nmX9 hown hK hP hI hS (k := 0) (by decide) (sm_obj _ _) rfl 9 (by decide) gw_948 rfl rfl rfl (Nat.le_of_ble_eq_true rfl) (sm_obj _ _) dX9_bad_14 (fun H locs hP hS => ?_)
    refine lv_aload_n hx hb dX9_bad_17 rfl (lv_at hl 0 rfl) ?_
    refine lv_aload_n hx hb dX9_bad_18 rfl (lv_at hl 0 rfl) ?_
    refine fgetx hx hb ht inG9 hown hK hP (k := 0) (by decide) (x := (upd (σ 0) 9 1)) (s2_k _ _ _ _) (sm_obj _ _) rfl 5 (by decide) gw_944 (v := .int ((σ 0) 5)) rfl dX9_bad_19 ?_
    refine fputx (ref := "") (w := (σ 0) 5) hx hb ht inG9 tyX9 tyX9_ok nmX9 hown hK hP hI hS (k := 0) (by decide) (sm_obj _ _) rfl 10 (by decide) gw_949 rfl rfl rfl (Nat.le_of_ble_eq_true rfl) (sm_obj _ _) dX9_bad_22 (fun H locs hP hS => ?_)
    refine lv_iconst (v := 0) hx hb dX9_bad_25 (by decide) ?_
    exact ret_z hx hb hr hlk hP hS dX9_bad_26 (b := false) rfl (⟨by first | with_reducible rfl | (simp only [mBad, c1, ↓reduceIte, Bool.false_eq_true]; done) | (simp only [mBad, c1, ↓reduceIte, Bool.false_eq_true]; rfl) | rfl, by first | with_reducible rfl | (simp only [mBad, c1, ↓reduceIte, Bool.false_eq_true]; done) | (simp only [mBad, c1, ↓reduceIte, Bool.false_eq_true]; rfl) | rfl, rfl⟩)
set_option maxHeartbeats 4000000 in
set_option maxRecDepth 100000 in
theorem c_X9_month (l : Launch) (D : va_G) (ca : Nat → ClassId) (ad : Nat → Nat) (hI : Inj 6 ad) (σ : MI) (τ : ML)  : CT l D (TY ca) 6 ad (mxf ca ad) yX9_month cX9_month 1 (some .int) 0 0 [.ref (ad 0)] σ τ (fun v_ S_ T_ => some (.int (σ 2 0)) = v_ ∧ σ = S_ ∧ τ = T_) := by
  refine CT.of (by decide) (Nat.le_of_ble_eq_true rfl) ?_
  intro p e s m args below meth c hx hb hr ht hown hlk hml hP hK hN hS ls hl
  have hl : lv_has ls 1 [(0, .ref (ad 0))] := hl
  refine lv_aload_n hx hb dX9_month_0 rfl (lv_at hl 0 rfl) ?_
  refine fgetx hx hb ht inG9 hown hK hP (k := 0) (by decide) (x := (σ 0)) rfl (sm_obj _ _) rfl 12 (by decide) gw_951 (v := .ref (ad 2)) rfl dX9_month_1 ?_
  refine lv_iconst (v := 0) hx hb dX9_month_4 (by decide) ?_
  refine aldj hx hb hK hP (k := 2) (by decide) (x := (σ 2)) rfl 0 (sm_now _ _) rfl (by rw [vp_in_iff]; decide) (j := 0) rfl dX9_month_5 ?_
  exact ret_i hx hb hr hlk hP hS dX9_month_6 (⟨by first | with_reducible rfl | (simp only [↓reduceIte, Bool.false_eq_true]; done) | (simp only [↓reduceIte, Bool.false_eq_true]; rfl) | rfl, by first | with_reducible rfl | (simp only [↓reduceIte, Bool.false_eq_true]; done) | (simp only [↓reduceIte, Bool.false_eq_true]; rfl) | rfl, rfl⟩)
set_option maxHeartbeats 4000000 in
set_option maxRecDepth 100000 in
theorem c_X9_fault (l : Launch) (D : va_G) (ca : Nat → ClassId) (ad : Nat → Nat) (hI : Inj 6 ad) (σ : MI) (τ : ML)  : CT l D (TY ca) 6 ad (mxf ca ad) yX9_fault cX9_fault 1 (some .int) 0 0 [.ref (ad 0)] σ τ (fun v_ S_ T_ => some (.int (σ 0 9)) = v_ ∧ (s2 σ 0 0 0) = S_ ∧ τ = T_) := by
  refine CT.of (by decide) (Nat.le_of_ble_eq_true rfl) ?_
  intro p e s m args below meth c hx hb hr ht hown hlk hml hP hK hN hS ls hl
  have hl : lv_has ls 1 [(0, .ref (ad 0))] := hl
  refine lv_aload_n hx hb dX9_fault_0 rfl (lv_at hl 0 rfl) ?_
  refine lv_iconst (v := 0) hx hb dX9_fault_1 (by decide) ?_
  refine fputx (ref := "") (w := 0) hx hb ht inG9 tyX9 tyX9_ok nmX9 hown hK hP hI hS (k := 0) (by decide) (sm_obj _ _) rfl 0 (by decide) gw_939 rfl rfl rfl (Nat.le_of_ble_eq_true rfl) (sm_obj _ _) dX9_fault_2 (fun H locs hP hS => ?_)
  refine lv_aload_n hx hb dX9_fault_5 rfl (lv_at hl 0 rfl) ?_
  refine fgetx hx hb ht inG9 hown hK hP (k := 0) (by decide) (x := (upd (σ 0) 0 0)) (s2_k _ _ _ _) (sm_obj _ _) rfl 9 (by decide) gw_948 (v := .int ((σ 0) 9)) rfl dX9_fault_6 ?_
  exact ret_i hx hb hr hlk hP hS dX9_fault_9 (⟨by first | with_reducible rfl | (simp only [↓reduceIte, Bool.false_eq_true]; done) | (simp only [↓reduceIte, Bool.false_eq_true]; rfl) | rfl, by first | with_reducible rfl | (simp only [↓reduceIte, Bool.false_eq_true]; done) | (simp only [↓reduceIte, Bool.false_eq_true]; rfl) | rfl, rfl⟩)
set_option maxHeartbeats 4000000 in
set_option maxRecDepth 100000 in
theorem c_X9_isIndex (l : Launch) (D : va_G) (ca : Nat → ClassId) (ad : Nat → Nat) (hI : Inj 6 ad) (σ : MI) (τ : ML) (x : Int32) : CT l D (TY ca) 6 ad (mxf ca ad) yX9_isIndex cX9_isIndex 2 (some .boolean) 1 22 [.ref (ad 0), .int x] σ τ (fun v_ S_ T_ => some (.int (b2i (mIn x 0 (σ 2 1 - 1)))) = v_ ∧ σ = S_ ∧ τ = T_) := by
  refine CT.of (by decide) (Nat.le_of_ble_eq_true rfl) ?_
  intro p e s m args below meth c hx hb hr ht hown hlk hml hP hK hN hS ls hl
  have hl : lv_has ls 2 [(0, .ref (ad 0)), (1, .int x)] := hl
  refine lv_iload_n hx hb dX9_isIndex_0 rfl (lv_at hl 1 rfl) ?_
  refine lv_iconst (v := 0) hx hb dX9_isIndex_1 (by decide) ?_
  refine lv_aload_n hx hb dX9_isIndex_2 rfl (lv_at hl 0 rfl) ?_
  refine fgetx hx hb ht inG9 hown hK hP (k := 0) (by decide) (x := (σ 0)) rfl (sm_obj _ _) rfl 12 (by decide) gw_951 (v := .ref (ad 2)) rfl dX9_isIndex_3 ?_
  refine lv_iconst (v := 1) hx hb dX9_isIndex_6 (by decide) ?_
  refine aldj hx hb hK hP (k := 2) (by decide) (x := (σ 2)) rfl 0 (sm_now _ _) rfl (by rw [vp_in_iff]; decide) (j := 1) rfl dX9_isIndex_7 ?_
  refine lv_iconst (v := 1) hx hb dX9_isIndex_8 (by decide) ?_
  refine lv_isub hx hb dX9_isIndex_9 ?_
  refine calls (y := yX9_isIn) ⟨hx, hb, hml, hown, ht⟩ hK hN hP hS (c_X9_isIn l D ca ad hI σ τ x (0 : Int32) (((σ 2) 1) - 1)) ok_X9_isIn gw_1042 ⟨by decide, by decide⟩ rfl hl.1 rfl (Nat.le_of_ble_eq_true rfl) ⟨by decide, by decide⟩ dX9_isIndex_10 (fun v_ S_ T_ H locs hp1 hP hS => ?_)
  obtain ⟨rfl, rfl, rfl⟩ := hp1
  try dsimp only [Option.toList, List.cons_append, List.nil_append]
  exact ret_z hx hb hr hlk hP hS dX9_isIndex_13 (b := (mIn x (0 : Int32) (((σ 2) 1) - 1))) rfl (⟨by first | with_reducible rfl | (simp only [↓reduceIte, Bool.false_eq_true]; done) | (simp only [↓reduceIte, Bool.false_eq_true]; rfl) | rfl, by first | with_reducible rfl | (simp only [↓reduceIte, Bool.false_eq_true]; done) | (simp only [↓reduceIte, Bool.false_eq_true]; rfl) | rfl, rfl⟩)
set_option maxHeartbeats 4000000 in
set_option maxRecDepth 100000 in
theorem c_X9_isContract (l : Launch) (D : va_G) (ca : Nat → ClassId) (ad : Nat → Nat) (hI : Inj 6 ad) (σ : MI) (τ : ML) (x : Int32) : CT l D (TY ca) 6 ad (mxf ca ad) yX9_isContract cX9_isContract 2 (some .boolean) 1 22 [.ref (ad 0), .int x] σ τ (fun v_ S_ T_ => some (.int (b2i (mIn x 0 (σ 2 494 - 1)))) = v_ ∧ σ = S_ ∧ τ = T_) := by
  refine CT.of (by decide) (Nat.le_of_ble_eq_true rfl) ?_
  intro p e s m args below meth c hx hb hr ht hown hlk hml hP hK hN hS ls hl
  have hl : lv_has ls 2 [(0, .ref (ad 0)), (1, .int x)] := hl
  refine lv_iload_n hx hb dX9_isContract_0 rfl (lv_at hl 1 rfl) ?_
  refine lv_iconst (v := 0) hx hb dX9_isContract_1 (by decide) ?_
  refine lv_aload_n hx hb dX9_isContract_2 rfl (lv_at hl 0 rfl) ?_
  refine fgetx hx hb ht inG9 hown hK hP (k := 0) (by decide) (x := (σ 0)) rfl (sm_obj _ _) rfl 12 (by decide) gw_951 (v := .ref (ad 2)) rfl dX9_isContract_3 ?_
  refine lv_sipush (v := 494) hx hb dX9_isContract_6 (by decide) ?_
  refine aldj hx hb hK hP (k := 2) (by decide) (x := (σ 2)) rfl 0 (sm_now _ _) rfl (by rw [vp_in_iff]; decide) (j := 494) rfl dX9_isContract_9 ?_
  refine lv_iconst (v := 1) hx hb dX9_isContract_10 (by decide) ?_
  refine lv_isub hx hb dX9_isContract_11 ?_
  refine calls (y := yX9_isIn) ⟨hx, hb, hml, hown, ht⟩ hK hN hP hS (c_X9_isIn l D ca ad hI σ τ x (0 : Int32) (((σ 2) 494) - 1)) ok_X9_isIn gw_1042 ⟨by decide, by decide⟩ rfl hl.1 rfl (Nat.le_of_ble_eq_true rfl) ⟨by decide, by decide⟩ dX9_isContract_12 (fun v_ S_ T_ H locs hp1 hP hS => ?_)
  obtain ⟨rfl, rfl, rfl⟩ := hp1
  try dsimp only [Option.toList, List.cons_append, List.nil_append]
  exact ret_z hx hb hr hlk hP hS dX9_isContract_15 (b := (mIn x (0 : Int32) (((σ 2) 494) - 1))) rfl (⟨by first | with_reducible rfl | (simp only [↓reduceIte, Bool.false_eq_true]; done) | (simp only [↓reduceIte, Bool.false_eq_true]; rfl) | rfl, by first | with_reducible rfl | (simp only [↓reduceIte, Bool.false_eq_true]; done) | (simp only [↓reduceIte, Bool.false_eq_true]; rfl) | rfl, rfl⟩)
set_option maxHeartbeats 4000000 in
set_option maxRecDepth 100000 in
theorem c_X9_isDelivery (l : Launch) (D : va_G) (ca : Nat → ClassId) (ad : Nat → Nat) (hI : Inj 6 ad) (σ : MI) (τ : ML) (x : Int32) : CT l D (TY ca) 6 ad (mxf ca ad) yX9_isDelivery cX9_isDelivery 2 (some .boolean) 1 22 [.ref (ad 0), .int x] σ τ (fun v_ S_ T_ => some (.int (b2i (mIn x 0 (σ 2 609 - 1)))) = v_ ∧ σ = S_ ∧ τ = T_) := by
  refine CT.of (by decide) (Nat.le_of_ble_eq_true rfl) ?_
  intro p e s m args below meth c hx hb hr ht hown hlk hml hP hK hN hS ls hl
  have hl : lv_has ls 2 [(0, .ref (ad 0)), (1, .int x)] := hl
  refine lv_iload_n hx hb dX9_isDelivery_0 rfl (lv_at hl 1 rfl) ?_
  refine lv_iconst (v := 0) hx hb dX9_isDelivery_1 (by decide) ?_
  refine lv_aload_n hx hb dX9_isDelivery_2 rfl (lv_at hl 0 rfl) ?_
  refine fgetx hx hb ht inG9 hown hK hP (k := 0) (by decide) (x := (σ 0)) rfl (sm_obj _ _) rfl 12 (by decide) gw_951 (v := .ref (ad 2)) rfl dX9_isDelivery_3 ?_
  refine lv_sipush (v := 609) hx hb dX9_isDelivery_6 (by decide) ?_
  refine aldj hx hb hK hP (k := 2) (by decide) (x := (σ 2)) rfl 0 (sm_now _ _) rfl (by rw [vp_in_iff]; decide) (j := 609) rfl dX9_isDelivery_9 ?_
  refine lv_iconst (v := 1) hx hb dX9_isDelivery_10 (by decide) ?_
  refine lv_isub hx hb dX9_isDelivery_11 ?_
  refine calls (y := yX9_isIn) ⟨hx, hb, hml, hown, ht⟩ hK hN hP hS (c_X9_isIn l D ca ad hI σ τ x (0 : Int32) (((σ 2) 609) - 1)) ok_X9_isIn gw_1042 ⟨by decide, by decide⟩ rfl hl.1 rfl (Nat.le_of_ble_eq_true rfl) ⟨by decide, by decide⟩ dX9_isDelivery_12 (fun v_ S_ T_ H locs hp1 hP hS => ?_)
  obtain ⟨rfl, rfl, rfl⟩ := hp1
  try dsimp only [Option.toList, List.cons_append, List.nil_append]
  exact ret_z hx hb hr hlk hP hS dX9_isDelivery_15 (b := (mIn x (0 : Int32) (((σ 2) 609) - 1))) rfl (⟨by first | with_reducible rfl | (simp only [↓reduceIte, Bool.false_eq_true]; done) | (simp only [↓reduceIte, Bool.false_eq_true]; rfl) | rfl, by first | with_reducible rfl | (simp only [↓reduceIte, Bool.false_eq_true]; done) | (simp only [↓reduceIte, Bool.false_eq_true]; rfl) | rfl, rfl⟩)
set_option maxHeartbeats 4000000 in
set_option maxRecDepth 100000 in
theorem c_X9_isMonth (l : Launch) (D : va_G) (ca : Nat → ClassId) (ad : Nat → Nat) (hI : Inj 6 ad) (σ : MI) (τ : ML) (x : Int32) : CT l D (TY ca) 6 ad (mxf ca ad) yX9_isMonth cX9_isMonth 1 (some .boolean) 1 22 [.int x] σ τ (fun v_ S_ T_ => some (.int (b2i (mIn x 0 35))) = v_ ∧ σ = S_ ∧ τ = T_) := by
  refine CT.of (by decide) (Nat.le_of_ble_eq_true rfl) ?_
  intro p e s m args below meth c hx hb hr ht hown hlk hml hP hK hN hS ls hl
  have hl : lv_has ls 1 [(0, .int x)] := hl
  refine lv_iload_n hx hb dX9_isMonth_0 rfl (lv_at hl 0 rfl) ?_
  refine lv_iconst (v := 0) hx hb dX9_isMonth_1 (by decide) ?_
  refine lv_bipush (v := 35) hx hb dX9_isMonth_2 (by decide) ?_
  refine calls (y := yX9_isIn) ⟨hx, hb, hml, hown, ht⟩ hK hN hP hS (c_X9_isIn l D ca ad hI σ τ x (0 : Int32) (35 : Int32)) ok_X9_isIn gw_1042 ⟨by decide, by decide⟩ rfl hl.1 rfl (Nat.le_of_ble_eq_true rfl) ⟨by decide, by decide⟩ dX9_isMonth_4 (fun v_ S_ T_ H locs hp1 hP hS => ?_)
  obtain ⟨rfl, rfl, rfl⟩ := hp1
  try dsimp only [Option.toList, List.cons_append, List.nil_append]
  exact ret_z hx hb hr hlk hP hS dX9_isMonth_7 (b := (mIn x (0 : Int32) (35 : Int32))) rfl (⟨by first | with_reducible rfl | (simp only [↓reduceIte, Bool.false_eq_true]; done) | (simp only [↓reduceIte, Bool.false_eq_true]; rfl) | rfl, by first | with_reducible rfl | (simp only [↓reduceIte, Bool.false_eq_true]; done) | (simp only [↓reduceIte, Bool.false_eq_true]; rfl) | rfl, rfl⟩)
set_option maxHeartbeats 4000000 in
set_option maxRecDepth 100000 in
theorem c_X9_end (l : Launch) (D : va_G) (ca : Nat → ClassId) (ad : Nat → Nat) (hI : Inj 6 ad) (σ : MI) (τ : ML) (n : Int32) : CT l D (TY ca) 6 ad (mxf ca ad) yX9_end cX9_end 2 (some .boolean) 0 0 [.ref (ad 0), .int n] σ τ (fun v_ S_ T_ => some (.int (b2i (if n < 0 then false else if n ≤ σ 0 2 then true else false))) = v_ ∧ (if n < 0 then s2 σ 0 0 0 else if n ≤ σ 0 2 then s2 (s2 σ 0 0 0) 0 2 n else s2 σ 0 0 0) = S_ ∧ τ = T_) := by
  refine CT.of (by decide) (Nat.le_of_ble_eq_true rfl) ?_
  intro p e s m args below meth c hx hb hr ht hown hlk hml hP hK hN hS ls hl
  have hl : lv_has ls 2 [(0, .ref (ad 0)), (1, .int n)] := hl
  refine lv_aload_n hx hb dX9_end_0 rfl (lv_at hl 0 rfl) ?_
  refine lv_iconst (v := 0) hx hb dX9_end_1 (by decide) ?_
  refine fputx (ref := "") (w := 0) hx hb ht inG9 tyX9 tyX9_ok nmX9 hown hK hP hI hS (k := 0) (by decide) (sm_obj _ _) rfl 0 (by decide) gw_939 rfl rfl rfl (Nat.le_of_ble_eq_true rfl) (sm_obj _ _) dX9_end_2 (fun H locs hP hS => ?_)
  refine lv_iload_n hx hb dX9_end_5 rfl (lv_at hl 1 rfl) ?_
  refine lv_if_lt (tgt := 17) hx hb dX9_end_6 (by decide) (fun c1 => ?_) (fun c1 => ?_)
  · have dc1 := c1
    rw [i_lt] at dc1
    refine lv_iconst (v := 0) hx hb dX9_end_17 (by decide) ?_
    exact ret_z hx hb hr hlk hP hS dX9_end_18 (b := false) rfl (⟨by first | with_reducible rfl | (simp only [c1, ↓reduceIte, Bool.false_eq_true]; done) | (simp only [c1, ↓reduceIte, Bool.false_eq_true]; rfl) | rfl, by first | with_reducible rfl | (simp only [c1, ↓reduceIte, Bool.false_eq_true]; done) | (simp only [c1, ↓reduceIte, Bool.false_eq_true]; rfl) | rfl, rfl⟩)
  · have dc1 := c1
    rw [i_lt] at dc1
    refine lv_iload_n hx hb dX9_end_9 rfl (lv_at hl 1 rfl) ?_
    refine lv_aload_n hx hb dX9_end_10 rfl (lv_at hl 0 rfl) ?_
    refine fgetx hx hb ht inG9 hown hK hP (k := 0) (by decide) (x := (upd (σ 0) 0 0)) (s2_k _ _ _ _) (sm_obj _ _) rfl 2 (by decide) gw_941 (v := .int ((σ 0) 2)) rfl dX9_end_11 ?_
    refine lv_icmp_le (tgt := 19) hx hb dX9_end_14 (by decide) (fun c2 => ?_) (fun c2 => ?_)
    · have dc2 := c2
      rw [i_le] at dc2
      refine lv_aload_n hx hb dX9_end_19 rfl (lv_at hl 0 rfl) ?_
      refine lv_iload_n hx hb dX9_end_20 rfl (lv_at hl 1 rfl) ?_
      refine fputx (ref := "") (w := n) hx hb ht inG9 tyX9 tyX9_ok nmX9 hown hK hP hI hS (k := 0) (by decide) (sm_obj _ _) rfl 2 (by decide) gw_941 rfl rfl rfl (Nat.le_of_ble_eq_true rfl) (sm_obj _ _) dX9_end_21 (fun H locs hP hS => ?_)
      refine lv_iconst (v := 1) hx hb dX9_end_24 (by decide) ?_
      exact ret_z hx hb hr hlk hP hS dX9_end_25 (b := true) rfl (⟨by first | with_reducible rfl | (simp only [c1, c2, ↓reduceIte, Bool.false_eq_true]; done) | (simp only [c1, c2, ↓reduceIte, Bool.false_eq_true]; rfl) | rfl, by first | with_reducible rfl | (simp only [c1, c2, ↓reduceIte, Bool.false_eq_true]; done) | (simp only [c1, c2, ↓reduceIte, Bool.false_eq_true]; rfl) | rfl, rfl⟩)
    · have dc2 := c2
      rw [i_le] at dc2
      refine lv_iconst (v := 0) hx hb dX9_end_17 (by decide) ?_
      exact ret_z hx hb hr hlk hP hS dX9_end_18 (b := false) rfl (⟨by first | with_reducible rfl | (simp only [c1, c2, ↓reduceIte, Bool.false_eq_true]; done) | (simp only [c1, c2, ↓reduceIte, Bool.false_eq_true]; rfl) | rfl, by first | with_reducible rfl | (simp only [c1, c2, ↓reduceIte, Bool.false_eq_true]; done) | (simp only [c1, c2, ↓reduceIte, Bool.false_eq_true]; rfl) | rfl, rfl⟩)
set_option maxHeartbeats 4000000 in
set_option maxRecDepth 100000 in
theorem c_X9_sureOf (l : Launch) (D : va_G) (ca : Nat → ClassId) (ad : Nat → Nat) (hI : Inj 6 ad) (σ : MI) (τ : ML) (i_ m_ : Int32) {a c_ : Nat} (ea : i_.toNatClampNeg = a) (va : vp_in i_ 6) (ec : m_.toNatClampNeg = c_) (vc : vp_in m_ 36) : CT l D (TY ca) 6 ad (mxf ca ad) yX9_sureOf cX9_sureOf 3 (some .int) 0 0 [.ref (ad 0), .int i_, .int m_] σ τ (fun v_ S_ T_ => some (.int (σ 2 (218 + 36 * a + c_))) = v_ ∧ σ = S_ ∧ τ = T_) := by
  refine CT.of (by decide) (Nat.le_of_ble_eq_true rfl) ?_
  intro p e s m args below meth c hx hb hr ht hown hlk hml hP hK hN hS ls hl
  have hl : lv_has ls 3 [(0, .ref (ad 0)), (1, .int i_), (2, .int m_)] := hl
  refine lv_aload_n hx hb dX9_sureOf_0 rfl (lv_at hl 0 rfl) ?_
  refine fgetx hx hb ht inG9 hown hK hP (k := 0) (by decide) (x := (σ 0)) rfl (sm_obj _ _) rfl 12 (by decide) gw_951 (v := .ref (ad 2)) rfl dX9_sureOf_1 ?_
  refine lv_sipush (v := 218) hx hb dX9_sureOf_4 (by decide) ?_
  refine lv_bipush (v := 36) hx hb dX9_sureOf_7 (by decide) ?_
  refine lv_iload_n hx hb dX9_sureOf_9 rfl (lv_at hl 1 rfl) ?_
  refine lv_imul hx hb dX9_sureOf_10 ?_
  refine lv_iadd hx hb dX9_sureOf_11 ?_
  refine lv_iload_n hx hb dX9_sureOf_12 rfl (lv_at hl 2 rfl) ?_
  refine lv_iadd hx hb dX9_sureOf_13 ?_
  refine aldj hx hb hK hP (k := 2) (by decide) (x := (σ 2)) rfl 0 (sm_now _ _) rfl (ix2v 218 36 880 rfl rfl ea va ec vc (by have := vpa va ea; have := vpa vc ec; omega) (by decide)) (j := 218 + 36 * a + c_) (ix2c 218 36 880 rfl rfl ea va ec vc (by have := vpa va ea; have := vpa vc ec; omega) (by decide)) dX9_sureOf_14 ?_
  exact ret_i hx hb hr hlk hP hS dX9_sureOf_15 (⟨by first | with_reducible rfl | (simp only [↓reduceIte, Bool.false_eq_true]; done) | (simp only [↓reduceIte, Bool.false_eq_true]; rfl) | rfl, by first | with_reducible rfl | (simp only [↓reduceIte, Bool.false_eq_true]; done) | (simp only [↓reduceIte, Bool.false_eq_true]; rfl) | rfl, rfl⟩)
set_option maxHeartbeats 4000000 in
set_option maxRecDepth 100000 in
theorem c_X9_valueOf (l : Launch) (D : va_G) (ca : Nat → ClassId) (ad : Nat → Nat) (hI : Inj 6 ad) (σ : MI) (τ : ML) (i_ m_ : Int32) {a c_ : Nat} (ea : i_.toNatClampNeg = a) (va : vp_in i_ 6) (ec : m_.toNatClampNeg = c_) (vc : vp_in m_ 36) : CT l D (TY ca) 6 ad (mxf ca ad) yX9_valueOf cX9_valueOf 3 (some .int) 0 0 [.ref (ad 0), .int i_, .int m_] σ τ (fun v_ S_ T_ => some (.int (σ 2 (2 + 36 * a + c_))) = v_ ∧ σ = S_ ∧ τ = T_) := by
  refine CT.of (by decide) (Nat.le_of_ble_eq_true rfl) ?_
  intro p e s m args below meth c hx hb hr ht hown hlk hml hP hK hN hS ls hl
  have hl : lv_has ls 3 [(0, .ref (ad 0)), (1, .int i_), (2, .int m_)] := hl
  refine lv_aload_n hx hb dX9_valueOf_0 rfl (lv_at hl 0 rfl) ?_
  refine fgetx hx hb ht inG9 hown hK hP (k := 0) (by decide) (x := (σ 0)) rfl (sm_obj _ _) rfl 12 (by decide) gw_951 (v := .ref (ad 2)) rfl dX9_valueOf_1 ?_
  refine lv_iconst (v := 2) hx hb dX9_valueOf_4 (by decide) ?_
  refine lv_bipush (v := 36) hx hb dX9_valueOf_5 (by decide) ?_
  refine lv_iload_n hx hb dX9_valueOf_7 rfl (lv_at hl 1 rfl) ?_
  refine lv_imul hx hb dX9_valueOf_8 ?_
  refine lv_iadd hx hb dX9_valueOf_9 ?_
  refine lv_iload_n hx hb dX9_valueOf_10 rfl (lv_at hl 2 rfl) ?_
  refine lv_iadd hx hb dX9_valueOf_11 ?_
  refine aldj hx hb hK hP (k := 2) (by decide) (x := (σ 2)) rfl 0 (sm_now _ _) rfl (ix2v 2 36 880 rfl rfl ea va ec vc (by have := vpa va ea; have := vpa vc ec; omega) (by decide)) (j := 2 + 36 * a + c_) (ix2c 2 36 880 rfl rfl ea va ec vc (by have := vpa va ea; have := vpa vc ec; omega) (by decide)) dX9_valueOf_12 ?_
  exact ret_i hx hb hr hlk hP hS dX9_valueOf_13 (⟨by first | with_reducible rfl | (simp only [↓reduceIte, Bool.false_eq_true]; done) | (simp only [↓reduceIte, Bool.false_eq_true]; rfl) | rfl, by first | with_reducible rfl | (simp only [↓reduceIte, Bool.false_eq_true]; done) | (simp only [↓reduceIte, Bool.false_eq_true]; rfl) | rfl, rfl⟩)
set_option maxHeartbeats 4000000 in
set_option maxRecDepth 100000 in
theorem c_X9_toldBy (l : Launch) (D : va_G) (ca : Nat → ClassId) (ad : Nat → Nat) (hI : Inj 6 ad) (σ : MI) (τ : ML) (i_ m_ : Int32) {a c_ : Nat} (ea : i_.toNatClampNeg = a) (va : vp_in i_ 6) (ec : m_.toNatClampNeg = c_) (vc : vp_in m_ 19) : CT l D (TY ca) 6 ad (mxf ca ad) yX9_toldBy cX9_toldBy 3 (some .int) 0 0 [.ref (ad 0), .int i_, .int m_] σ τ (fun v_ S_ T_ => some (.int (σ 2 (495 + 19 * a + c_))) = v_ ∧ σ = S_ ∧ τ = T_) := by
  refine CT.of (by decide) (Nat.le_of_ble_eq_true rfl) ?_
  intro p e s m args below meth c hx hb hr ht hown hlk hml hP hK hN hS ls hl
  have hl : lv_has ls 3 [(0, .ref (ad 0)), (1, .int i_), (2, .int m_)] := hl
  refine lv_aload_n hx hb dX9_toldBy_0 rfl (lv_at hl 0 rfl) ?_
  refine fgetx hx hb ht inG9 hown hK hP (k := 0) (by decide) (x := (σ 0)) rfl (sm_obj _ _) rfl 12 (by decide) gw_951 (v := .ref (ad 2)) rfl dX9_toldBy_1 ?_
  refine lv_sipush (v := 495) hx hb dX9_toldBy_4 (by decide) ?_
  refine lv_bipush (v := 19) hx hb dX9_toldBy_7 (by decide) ?_
  refine lv_iload_n hx hb dX9_toldBy_9 rfl (lv_at hl 1 rfl) ?_
  refine lv_imul hx hb dX9_toldBy_10 ?_
  refine lv_iadd hx hb dX9_toldBy_11 ?_
  refine lv_iload_n hx hb dX9_toldBy_12 rfl (lv_at hl 2 rfl) ?_
  refine lv_iadd hx hb dX9_toldBy_13 ?_
  refine aldj hx hb hK hP (k := 2) (by decide) (x := (σ 2)) rfl 0 (sm_now _ _) rfl (ix2v 495 19 880 rfl rfl ea va ec vc (by have := vpa va ea; have := vpa vc ec; omega) (by decide)) (j := 495 + 19 * a + c_) (ix2c 495 19 880 rfl rfl ea va ec vc (by have := vpa va ea; have := vpa vc ec; omega) (by decide)) dX9_toldBy_14 ?_
  exact ret_i hx hb hr hlk hP hS dX9_toldBy_15 (⟨by first | with_reducible rfl | (simp only [↓reduceIte, Bool.false_eq_true]; done) | (simp only [↓reduceIte, Bool.false_eq_true]; rfl) | rfl, by first | with_reducible rfl | (simp only [↓reduceIte, Bool.false_eq_true]; done) | (simp only [↓reduceIte, Bool.false_eq_true]; rfl) | rfl, rfl⟩)
set_option maxHeartbeats 4000000 in
set_option maxRecDepth 100000 in
theorem c_X9_its (l : Launch) (D : va_G) (ca : Nat → ClassId) (ad : Nat → Nat) (hI : Inj 6 ad) (σ : MI) (τ : ML) (i_ m_ : Int32) {a c_ : Nat} (ea : i_.toNatClampNeg = a) (va : vp_in i_ 30) (ec : m_.toNatClampNeg = c_) (vc : vp_in m_ 9) : CT l D (TY ca) 6 ad (mxf ca ad) yX9_its cX9_its 3 (some .int) 0 0 [.ref (ad 0), .int i_, .int m_] σ τ (fun v_ S_ T_ => some (.int (σ 2 (610 + 9 * a + c_))) = v_ ∧ σ = S_ ∧ τ = T_) := by
  refine CT.of (by decide) (Nat.le_of_ble_eq_true rfl) ?_
  intro p e s m args below meth c hx hb hr ht hown hlk hml hP hK hN hS ls hl
  have hl : lv_has ls 3 [(0, .ref (ad 0)), (1, .int i_), (2, .int m_)] := hl
  refine lv_aload_n hx hb dX9_its_0 rfl (lv_at hl 0 rfl) ?_
  refine fgetx hx hb ht inG9 hown hK hP (k := 0) (by decide) (x := (σ 0)) rfl (sm_obj _ _) rfl 12 (by decide) gw_951 (v := .ref (ad 2)) rfl dX9_its_1 ?_
  refine lv_sipush (v := 610) hx hb dX9_its_4 (by decide) ?_
  refine lv_bipush (v := 9) hx hb dX9_its_7 (by decide) ?_
  refine lv_iload_n hx hb dX9_its_9 rfl (lv_at hl 1 rfl) ?_
  refine lv_imul hx hb dX9_its_10 ?_
  refine lv_iadd hx hb dX9_its_11 ?_
  refine lv_iload_n hx hb dX9_its_12 rfl (lv_at hl 2 rfl) ?_
  refine lv_iadd hx hb dX9_its_13 ?_
  refine aldj hx hb hK hP (k := 2) (by decide) (x := (σ 2)) rfl 0 (sm_now _ _) rfl (ix2v 610 9 880 rfl rfl ea va ec vc (by have := vpa va ea; have := vpa vc ec; omega) (by decide)) (j := 610 + 9 * a + c_) (ix2c 610 9 880 rfl rfl ea va ec vc (by have := vpa va ea; have := vpa vc ec; omega) (by decide)) dX9_its_14 ?_
  exact ret_i hx hb hr hlk hP hS dX9_its_15 (⟨by first | with_reducible rfl | (simp only [↓reduceIte, Bool.false_eq_true]; done) | (simp only [↓reduceIte, Bool.false_eq_true]; rfl) | rfl, by first | with_reducible rfl | (simp only [↓reduceIte, Bool.false_eq_true]; done) | (simp only [↓reduceIte, Bool.false_eq_true]; rfl) | rfl, rfl⟩)
set_option maxHeartbeats 4000000 in
set_option maxRecDepth 100000 in
theorem c_X9_baseOf (l : Launch) (D : va_G) (ca : Nat → ClassId) (ad : Nat → Nat) (hI : Inj 6 ad) (σ : MI) (τ : ML) (i_ k_ w_ : Int32) {a c_ e_ : Nat} (ea : i_.toNatClampNeg = a) (va : vp_in i_ 6) (ec : k_.toNatClampNeg = c_) (vc : vp_in k_ 3) (ee : w_.toNatClampNeg = e_) (ve : vp_in w_ 3) : CT l D (TY ca) 6 ad (mxf ca ad) yX9_baseOf cX9_baseOf 4 (some .int) 0 0 [.ref (ad 0), .int i_, .int k_, .int w_] σ τ (fun v_ S_ T_ => some (.int (σ 2 (434 + 10 * a + 1 + 3 * c_ + e_))) = v_ ∧ σ = S_ ∧ τ = T_) := by
  refine CT.of (by decide) (Nat.le_of_ble_eq_true rfl) ?_
  intro p e s m args below meth c hx hb hr ht hown hlk hml hP hK hN hS ls hl
  have hl : lv_has ls 4 [(0, .ref (ad 0)), (1, .int i_), (2, .int k_), (3, .int w_)] := hl
  refine lv_aload_n hx hb dX9_baseOf_0 rfl (lv_at hl 0 rfl) ?_
  refine fgetx hx hb ht inG9 hown hK hP (k := 0) (by decide) (x := (σ 0)) rfl (sm_obj _ _) rfl 12 (by decide) gw_951 (v := .ref (ad 2)) rfl dX9_baseOf_1 ?_
  refine lv_sipush (v := 434) hx hb dX9_baseOf_4 (by decide) ?_
  refine lv_bipush (v := 10) hx hb dX9_baseOf_7 (by decide) ?_
  refine lv_iload_n hx hb dX9_baseOf_9 rfl (lv_at hl 1 rfl) ?_
  refine lv_imul hx hb dX9_baseOf_10 ?_
  refine lv_iadd hx hb dX9_baseOf_11 ?_
  refine lv_iconst (v := 1) hx hb dX9_baseOf_12 (by decide) ?_
  refine lv_iadd hx hb dX9_baseOf_13 ?_
  refine lv_iconst (v := 3) hx hb dX9_baseOf_14 (by decide) ?_
  refine lv_iload_n hx hb dX9_baseOf_15 rfl (lv_at hl 2 rfl) ?_
  refine lv_imul hx hb dX9_baseOf_16 ?_
  refine lv_iadd hx hb dX9_baseOf_17 ?_
  refine lv_iload_n hx hb dX9_baseOf_18 rfl (lv_at hl 3 rfl) ?_
  refine lv_iadd hx hb dX9_baseOf_19 ?_
  refine aldj hx hb hK hP (k := 2) (by decide) (x := (σ 2)) rfl 0 (sm_now _ _) rfl (by rw [ix4 ea va ec vc ee ve]; exact vp_in_nI (by have := vpa va ea; have := vpa vc ec; have := vpa ve ee; omega) (by decide)) (j := 434 + 10 * a + 1 + 3 * c_ + e_) (by rw [ix4 ea va ec vc ee ve]; exact nI_clamp (by have := vpa va ea; have := vpa vc ec; have := vpa ve ee; omega)) dX9_baseOf_20 ?_
  exact ret_i hx hb hr hlk hP hS dX9_baseOf_21 (⟨by first | with_reducible rfl | (simp only [↓reduceIte, Bool.false_eq_true]; done) | (simp only [↓reduceIte, Bool.false_eq_true]; rfl) | rfl, by first | with_reducible rfl | (simp only [↓reduceIte, Bool.false_eq_true]; done) | (simp only [↓reduceIte, Bool.false_eq_true]; rfl) | rfl, rfl⟩)
set_option maxHeartbeats 4000000 in
set_option maxRecDepth 100000 in
theorem c_X9_billed (l : Launch) (D : va_G) (ca : Nat → ClassId) (ad : Nat → Nat) (hI : Inj 6 ad) (σ : MI) (τ : ML) (x : Int32) {a : Nat} (ea : x.toNatClampNeg = a) (va : vp_in x 30) : CT l D (TY ca) 6 ad (mxf ca ad) yX9_billed cX9_billed 2 (some .long) 1 22 [.ref (ad 0), .int x] σ τ (fun v_ S_ T_ => some (.long ((σ 2 (610 + 9 * a + 3)).toInt64 * (σ 2 (610 + 9 * a + 5)).toInt64)) = v_ ∧ σ = S_ ∧ τ = T_) := by
  refine CT.of (by decide) (Nat.le_of_ble_eq_true rfl) ?_
  intro p e s m args below meth c hx hb hr ht hown hlk hml hP hK hN hS ls hl
  have hl : lv_has ls 2 [(0, .ref (ad 0)), (1, .int x)] := hl
  refine lv_aload_n hx hb dX9_billed_0 rfl (lv_at hl 0 rfl) ?_
  refine lv_iload_n hx hb dX9_billed_1 rfl (lv_at hl 1 rfl) ?_
  refine lv_iconst (v := 3) hx hb dX9_billed_2 (by decide) ?_
  refine callv (y := yX9_its) ⟨hx, hb, hml, hown, ht⟩ hK hN hP hS (k := 0) (c_X9_its l D ca ad hI σ τ x (3 : Int32) ea va (show Int32.toNatClampNeg 3 = 3 from rfl) (by rw [vp_in_iff]; decide)) (by decide) (sm_obj _ _) rfl ok_X9_its gw_1097 ⟨by decide, by decide⟩ rfl hl.1 rfl (Nat.le_of_ble_eq_true rfl) ⟨by decide, by decide⟩ dX9_billed_3 (fun v_ S_ T_ H locs hp1 hP hS => ?_)
  obtain ⟨rfl, rfl, rfl⟩ := hp1
  try dsimp only [Option.toList, List.cons_append, List.nil_append]
  refine lv_i2l (v := (σ 2 (610 + 9 * a + 3)).toInt64) hx hb dX9_billed_6 rfl ?_
  refine lv_aload_n hx hb dX9_billed_7 rfl (lv_at hl 0 rfl) ?_
  refine lv_iload_n hx hb dX9_billed_8 rfl (lv_at hl 1 rfl) ?_
  refine lv_iconst (v := 5) hx hb dX9_billed_9 (by decide) ?_
  refine callv (y := yX9_its) ⟨hx, hb, hml, hown, ht⟩ hK hN hP hS (k := 0) (c_X9_its l D ca ad hI σ τ x (5 : Int32) ea va (show Int32.toNatClampNeg 5 = 5 from rfl) (by rw [vp_in_iff]; decide)) (by decide) (sm_obj _ _) rfl ok_X9_its gw_1097 ⟨by decide, by decide⟩ rfl hl.1 rfl (Nat.le_of_ble_eq_true rfl) ⟨by decide, by decide⟩ dX9_billed_10 (fun v_ S_ T_ H locs hp2 hP hS => ?_)
  obtain ⟨rfl, rfl, rfl⟩ := hp2
  try dsimp only [Option.toList, List.cons_append, List.nil_append]
  refine lv_i2l (v := (σ 2 (610 + 9 * a + 5)).toInt64) hx hb dX9_billed_13 rfl ?_
  refine lv_lmul hx hb dX9_billed_14 ?_
  exact ret_l hx hb hr hlk hP hS dX9_billed_15 (⟨by first | with_reducible rfl | (simp only [↓reduceIte, Bool.false_eq_true]; done) | (simp only [↓reduceIte, Bool.false_eq_true]; rfl) | rfl, by first | with_reducible rfl | (simp only [↓reduceIte, Bool.false_eq_true]; done) | (simp only [↓reduceIte, Bool.false_eq_true]; rfl) | rfl, rfl⟩)
set_option maxHeartbeats 4000000 in
set_option maxRecDepth 100000 in
theorem lp_X9_known {l : Launch} {D : va_G} {ca : Nat → ClassId} {ad : Nat → Nat} (hI : Inj 6 ad) {σ : MI} {τ : ML} (i_ m_ : Int32) {a : Nat} (ea : i_.toNatClampNeg = a) (va : vp_in i_ 6) {n_ : Nat} (en : m_.toInt = (n_ : Int) - 1) (hn36 : n_ ≤ 36) {p : Program} {e : Env} {s : State} {m : MethodId} {args : Array Value} {below : List Frame} {meth : Method} {c : Code} (hx : p.tables.exec = Jvm.exec) (hb : c.code = cX9_knownAt) (hr : meth.sig.returnType = (some .int)) (ht : ∀ w ∈ GG, w.before args s = true) (hown : s.vm.findClass yX9_knownAt.cls = some m.cls) (hlk : meth.locks = false) (hml : c.maxLocals = 4) (hK : va_K D vwCl (TY ca) s) (hN : NW s) : ∀ (n : Nat) (q : Nat) (x : Int32) (ex : x.toInt = (q : Int) - 1) (hq : q ≤ 36) (hn : q < n) (hR : mKn (σ 2) a q = mKn (σ 2) a n_) (H : Heap) (locs : List Loc) (hP : PW D 6 ad (mxf ca ad) σ τ H) (hS : va_S (AA 6 ad) s.heap H locs) (ls : Array Slot) (hl : lv_has ls 4 [(3, .int x), (0, .ref (ad 0)), (1, .int i_), (2, .int m_)]), W p l e { frames := 1, cells := 0, slots := 0, locals := 22 } s m args below meth c H locs 0 0 (MQ below (QD D 6 ad (mxf ca ad) (fun v_ S_ T_ => some (.int (mKn (σ 2) a n_)) = v_ ∧ σ = S_ ∧ τ = T_)) args s 0 0 (AA 6 ad)) (F0 m 2 ls []) := by
  intro n
  induction n with
  | zero => intro q x ex hq hn hR H locs hP hS ls hl; exfalso; omega
  | succ n ih =>
    intro q x ex hq hn hR H locs hP hS ls hl
    have e0 : (0 : Int32).toInt = 0 := rfl
    have e1 : (-1 : Int32).toInt = -1 := rfl
    refine lv_iload_n hx hb dX9_knownAt_2 rfl (lv_at hl 0 rfl) ?_
    refine lv_if_lt (tgt := 21) hx hb dX9_knownAt_3 (by decide) (fun c1 => ?_) (fun c1 => ?_)
    · have dc1 := c1
      rw [i_lt] at dc1
      obtain rfl : q = 0 := by omega
      have exm : x = -1 := by rw [i_eq]; omega
      refine lv_iload_n hx hb dX9_knownAt_21 rfl (lv_at hl 0 rfl) ?_
      exact ret_i hx hb hr hlk hP hS dX9_knownAt_22 (⟨by rw [← hR, exm]; rfl, rfl, rfl⟩)
    · have dc1 := c1
      rw [i_lt] at dc1
      obtain ⟨j, rfl⟩ : ∃ j, q = j + 1 := ⟨q - 1, by omega⟩
      have ej : x = nI j := by rw [i_eq, nI_toInt (by omega)]; omega
      have ec : x.toNatClampNeg = j := by rw [ej, nI_clamp (by omega)]
      have vx : vp_in x 36 := by rw [vp_in_iff]; omega
      refine lv_aload_n hx hb dX9_knownAt_6 rfl (lv_at hl 1 rfl) ?_
      refine lv_iload_n hx hb dX9_knownAt_7 rfl (lv_at hl 2 rfl) ?_
      refine lv_iload_n hx hb dX9_knownAt_8 rfl (lv_at hl 0 rfl) ?_
      refine callv (y := yX9_sureOf) ⟨hx, hb, hml, hown, ht⟩ hK hN hP hS (k := 0) (c_X9_sureOf l D ca ad hI σ τ i_ x ea va ec vx) (by decide) (sm_obj _ _) rfl ok_X9_sureOf gw_1116 ⟨by decide, by decide⟩ rfl hl.1 rfl (Nat.le_of_ble_eq_true rfl) ⟨by decide, by decide⟩ dX9_knownAt_9 (fun v_ S_ T_ H locs hp2 hP hS => ?_)
      obtain ⟨rfl, rfl, rfl⟩ := hp2
      try dsimp only [Option.toList, List.cons_append, List.nil_append]
      refine lv_if_ne (tgt := 21) hx hb dX9_knownAt_12 (by decide) (fun c3 => ?_) (fun c3 => ?_)
      · have dc3 := c3
        rw [i_eq] at dc3
        refine lv_iload_n hx hb dX9_knownAt_21 rfl (lv_at hl 0 rfl) ?_
        exact ret_i hx hb hr hlk hP hS dX9_knownAt_22 (⟨by rw [← hR, mKn, kn, if_neg c3, ej], rfl, rfl⟩)
      · have dc3 := c3
        rw [i_eq] at dc3
        refine lv_iinc (v := x + (-1)) (lv' := [(3, .int (x + (-1))), (0, .ref (ad 0)), (1, .int i_), (2, .int m_)]) hx hb dX9_knownAt_15 hl (k := 0) rfl rfl (by decide) rfl (fun ls hl => ?_)
        refine lv_goto (tgt := 2) hx hb dX9_knownAt_18 (by decide) ?_
        exact ih j (x + (-1)) (by rw [fb_addI (by omega) (by omega)]; omega) (by omega) (by omega) (by rw [← hR, mKn, mKn, kn, if_pos c3]) _ _ hP hS ls (lv_sub hl [0, 1, 2, 3] rfl)
set_option maxHeartbeats 4000000 in
set_option maxRecDepth 100000 in
theorem c_X9_knownAt (l : Launch) (D : va_G) (ca : Nat → ClassId) (ad : Nat → Nat) (hI : Inj 6 ad) (σ : MI) (τ : ML) (i_ m_ : Int32) {a : Nat} (ea : i_.toNatClampNeg = a) (va : vp_in i_ 6) {n_ : Nat} (en : m_.toInt = (n_ : Int) - 1) (hn36 : n_ ≤ 36) : CT l D (TY ca) 6 ad (mxf ca ad) yX9_knownAt cX9_knownAt 4 (some .int) 1 22 [.ref (ad 0), .int i_, .int m_] σ τ (fun v_ S_ T_ => some (.int (mKn (σ 2) a n_)) = v_ ∧ σ = S_ ∧ τ = T_) := by
  refine CT.of (by decide) (Nat.le_of_ble_eq_true rfl) ?_
  intro p e s m args below meth c hx hb hr ht hown hlk hml hP hK hN hS ls hl
  have hl : lv_has ls 4 [(0, .ref (ad 0)), (1, .int i_), (2, .int m_)] := hl
  refine lv_iload_n hx hb dX9_knownAt_0 rfl (lv_at hl 2 rfl) ?_
  refine lv_istore_n (lv' := [(3, .int m_), (0, .ref (ad 0)), (1, .int i_), (2, .int m_)]) hx hb dX9_knownAt_1 rfl hl (by decide) rfl (fun ls hl => ?_)
  exact lp_X9_known hI i_ m_ ea va en hn36 hx hb hr ht hown hlk hml hK hN 37 n_ m_ en hn36 (by omega) rfl _ _ hP hS ls (lv_sub hl [0, 1, 2, 3] rfl)
