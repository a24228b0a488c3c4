set_option maxHeartbeats 4000000 in
set_option maxRecDepth 100000 in
theorem c_X8_fault (l : Launch) (D : va_G) (ca : Nat → ClassId) (ad : Nat → Nat) (hI : Inj 158 ad) (σ : MI) (τ : ML)  : CT l D (TY ca) 158 ad (cxf ca ad) yX8_fault cX8_fault 1 (some .int) 0 0 [.ref (ad 0)] σ τ (fun v_ S_ T_ => some (.int (σ 1 5)) = v_ ∧ σ = S_ ∧ τ = T_) := by
  refine CT.of (by decide) (Nat.le_of_ble_eq_true rfl) ?_
  intro p e s m args below meth c hx hb hr ht hown hlk hml hP hK hN hS ls hl
  have hl : lv_has ls 1 [(0, .ref (ad 0))] := hl
  have hbz := bz_lt (σ 0 1)
  refine lv_aload_n hx hb dX8_fault_0 rfl (lv_at hl 0 rfl) ?_
  refine fgetx hx hb ht inG8 hown hK hP (k := 0) (by decide) (x := (σ 0)) rfl (sh_desk _ _) rfl 0 (by decide) gw_351 (v := .ref (ad 1)) rfl dX8_fault_1 ?_
  refine fgetxN hx hb ht inG7 hown hK hP (k := 1) (by decide) (x := (σ 1)) rfl (sh_read _ _) rfl 5 (by decide) (hN.get 242 nw_242 rfl) (v := .int ((σ 1) 5)) rfl dX8_fault_4 ?_
  exact ret_i hx hb hr hlk hP hS dX8_fault_7 (⟨by first | with_reducible rfl | (simp only [↓reduceIte, Bool.false_eq_true]; done) | (simp only [↓reduceIte, Bool.false_eq_true]; rfl) | rfl, by first | with_reducible rfl | (simp only [↓reduceIte, Bool.false_eq_true]; done) | (simp only [↓reduceIte, Bool.false_eq_true]; rfl) | rfl, rfl⟩)
set_option maxHeartbeats 4000000 in
set_option maxRecDepth 100000 in
theorem c_X8_end (l : Launch) (D : va_G) (ca : Nat → ClassId) (ad : Nat → Nat) (hI : Inj 158 ad) (σ : MI) (τ : ML) (n : Int32) : CT l D (TY ca) 158 ad (cxf ca ad) yX8_end cX8_end 2 (some .boolean) 0 0 [.ref (ad 0), .int n] σ τ (fun v_ S_ T_ => some (.int (b2i (if n < 0 then false else if n ≤ σ 2 1 then true else false))) = v_ ∧ (if n < 0 then σ else if n ≤ σ 2 1 then s2 σ 2 1 n else σ) = S_ ∧ τ = T_) := by
  refine CT.of (by decide) (Nat.le_of_ble_eq_true rfl) ?_
  intro p e s m args below meth c hx hb hr ht hown hlk hml hP hK hN hS ls hl
  have hl : lv_has ls 2 [(0, .ref (ad 0)), (1, .int n)] := hl
  have hbz := bz_lt (σ 0 1)
  refine lv_iload_n hx hb dX8_end_0 rfl (lv_at hl 1 rfl) ?_
  refine lv_if_lt (tgt := 18) hx hb dX8_end_1 (by decide) (fun c1 => ?_) (fun c1 => ?_)
  · have dc1 := c1
    rw [i_lt] at dc1
    refine lv_iconst (v := 0) hx hb dX8_end_18 (by decide) ?_
    exact ret_z hx hb hr hlk hP hS dX8_end_19 (b := false) rfl (⟨by first | with_reducible rfl | (simp only [c1, ↓reduceIte, Bool.false_eq_true]; done) | (simp only [c1, ↓reduceIte, Bool.false_eq_true]; rfl) | rfl, by first | with_reducible rfl | (simp only [c1, ↓reduceIte, Bool.false_eq_true]; done) | (simp only [c1, ↓reduceIte, Bool.false_eq_true]; rfl) | rfl, rfl⟩)
  · have dc1 := c1
    rw [i_lt] at dc1
    refine lv_iload_n hx hb dX8_end_4 rfl (lv_at hl 1 rfl) ?_
    refine lv_aload_n hx hb dX8_end_5 rfl (lv_at hl 0 rfl) ?_
    refine fgetx hx hb ht inG8 hown hK hP (k := 0) (by decide) (x := (σ 0)) rfl (sh_desk _ _) rfl 0 (by decide) gw_351 (v := .ref (ad 1)) rfl dX8_end_6 ?_
    refine fgetxN hx hb ht inG7 hown hK hP (k := 1) (by decide) (x := (σ 1)) rfl (sh_read _ _) rfl 0 (by decide) (hN.get 236 nw_236 rfl) (v := .ref (ad 2)) rfl dX8_end_9 ?_
    refine fgetxN hx hb ht inG6 hown hK hP (k := 2) (by decide) (x := (σ 2)) rfl (sh_tape _ _) rfl 1 (by decide) (hN.get 99 nw_99 rfl) (v := .int ((σ 2) 1)) rfl dX8_end_12 ?_
    refine lv_icmp_le (tgt := 20) hx hb dX8_end_15 (by decide) (fun c2 => ?_) (fun c2 => ?_)
    · have dc2 := c2
      rw [i_le] at dc2
      refine lv_aload_n hx hb dX8_end_20 rfl (lv_at hl 0 rfl) ?_
      refine fgetx hx hb ht inG8 hown hK hP (k := 0) (by decide) (x := (σ 0)) rfl (sh_desk _ _) rfl 0 (by decide) gw_351 (v := .ref (ad 1)) rfl dX8_end_21 ?_
      refine fgetxN hx hb ht inG7 hown hK hP (k := 1) (by decide) (x := (σ 1)) rfl (sh_read _ _) rfl 0 (by decide) (hN.get 236 nw_236 rfl) (v := .ref (ad 2)) rfl dX8_end_24 ?_
      refine lv_iload_n hx hb dX8_end_27 rfl (lv_at hl 1 rfl) ?_
      refine fputxN (ref := "") (w := n) hx hb ht inG6 tyX6 tyX6_ok nmX6 hown hK hP hI hS (k := 2) (by decide) (sh_tape _ _) rfl 1 (by decide) (hN.get 99 nw_99 rfl) rfl rfl rfl (Nat.le_of_ble_eq_true rfl) (sh_tape _ _) dX8_end_28 (fun H locs hP hS => ?_)
      refine lv_iconst (v := 1) hx hb dX8_end_31 (by decide) ?_
      exact ret_z hx hb hr hlk hP hS dX8_end_32 (b := true) rfl (⟨by first | with_reducible rfl | (simp only [c1, c2, ↓reduceIte, Bool.false_eq_true]; done) | (simp only [c1, c2, ↓reduceIte, Bool.false_eq_true]; rfl) | rfl, by first | with_reducible rfl | (simp only [c1, c2, ↓reduceIte, Bool.false_eq_true]; done) | (simp only [c1, c2, ↓reduceIte, Bool.false_eq_true]; rfl) | rfl, rfl⟩)
    · have dc2 := c2
      rw [i_le] at dc2
      refine lv_iconst (v := 0) hx hb dX8_end_18 (by decide) ?_
      exact ret_z hx hb hr hlk hP hS dX8_end_19 (b := false) rfl (⟨by first | with_reducible rfl | (simp only [c1, c2, ↓reduceIte, Bool.false_eq_true]; done) | (simp only [c1, c2, ↓reduceIte, Bool.false_eq_true]; rfl) | rfl, by first | with_reducible rfl | (simp only [c1, c2, ↓reduceIte, Bool.false_eq_true]; done) | (simp only [c1, c2, ↓reduceIte, Bool.false_eq_true]; rfl) | rfl, rfl⟩)
set_option maxHeartbeats 4000000 in
set_option maxRecDepth 100000 in
theorem c_X8_now (l : Launch) (D : va_G) (ca : Nat → ClassId) (ad : Nat → Nat) (hI : Inj 158 ad) (σ : MI) (τ : ML) (w : Int32) : CT l D (TY ca) 158 ad (cxf ca ad) yX8_now cX8_now 2 (some .int) 2 42 [.ref (ad 0), .int w] σ τ (fun v_ S_ T_ => some (.int (nowS σ w)) = v_ ∧ σ = S_ ∧ τ = T_) := by
  refine CT.of (by decide) (Nat.le_of_ble_eq_true rfl) ?_
  intro p e s m args below meth c hx hb hr ht hown hlk hml hP hK hN hS ls hl
  have hl : lv_has ls 2 [(0, .ref (ad 0)), (1, .int w)] := hl
  have hbz := bz_lt (σ 0 1)
  refine lv_iload_n hx hb dX8_now_0 rfl (lv_at hl 1 rfl) ?_
  rcases tab_cases w 7 (by decide) with c1 | ⟨k_, hk_, c1⟩
  · refine lv_tableOut (tgt := 103) hx hb dX8_now_1 (by omega) (by decide) ?_
    refine lv_iconst (v := -1) hx hb dX8_now_103 (by decide) ?_
    exact ret_i hx hb hr hlk hP hS dX8_now_104 (⟨by first | with_reducible rfl | (simp only [nowS, swt_out c1, ↓reduceIte, Bool.false_eq_true]; done) | (simp only [nowS, swt_out c1, ↓reduceIte, Bool.false_eq_true]; rfl) | rfl, by first | with_reducible rfl | (simp only [nowS, swt_out c1, ↓reduceIte, Bool.false_eq_true]; done) | (simp only [nowS, swt_out c1, ↓reduceIte, Bool.false_eq_true]; rfl) | rfl, rfl⟩)
  · rcases (by omega : k_ = 0 ∨ k_ = 1 ∨ k_ = 2 ∨ k_ = 3 ∨ k_ = 4 ∨ k_ = 5 ∨ k_ = 6) with rfl | rfl | rfl | rfl | rfl | rfl | rfl
    · refine lv_tableIn (tgt := 44) hx hb dX8_now_1 (by rw [c1]; decide) (by rw [c1]; decide) (by rw [c1]; rfl) (by decide) ?_
      refine lv_aload_n hx hb dX8_now_44 rfl (lv_at hl 0 rfl) ?_
      refine fgetx hx hb ht inG8 hown hK hP (k := 0) (by decide) (x := (σ 0)) rfl (sh_desk _ _) rfl 1 (by decide) gw_352 (v := .ref (ad (44 + 57 * (bz ((σ 0) 1))))) rfl dX8_now_45 ?_
      refine fgetxN hx hb ht inG0 hown hK hP (k := (44 + 57 * (bz ((σ 0) 1)))) (by have b0_ : (bz ((σ 0) 1)) < 2 := (bz_lt _); omega) (x := (σ (44 + 57 * (bz ((σ 0) 1))))) rfl (sh_book _ _ (bz_lt _)) rfl 0 (by decide) (hN.get 215 nw_215 rfl) (v := .int ((σ (44 + 57 * (bz ((σ 0) 1)))) 0)) rfl dX8_now_48 ?_
      exact ret_i hx hb hr hlk hP hS dX8_now_51 (⟨by first | with_reducible rfl | (simp only [nowS, c1, ↓reduceIte, Bool.false_eq_true]; done) | (simp only [nowS, c1, ↓reduceIte, Bool.false_eq_true]; rfl) | rfl, by first | with_reducible rfl | (simp only [nowS, c1, ↓reduceIte, Bool.false_eq_true]; done) | (simp only [nowS, c1, ↓reduceIte, Bool.false_eq_true]; rfl) | rfl, rfl⟩)
    · refine lv_tableIn (tgt := 52) hx hb dX8_now_1 (by rw [c1]; decide) (by rw [c1]; decide) (by rw [c1]; rfl) (by decide) ?_
      refine lv_aload_n hx hb dX8_now_52 rfl (lv_at hl 0 rfl) ?_
      refine fgetx hx hb ht inG8 hown hK hP (k := 0) (by decide) (x := (σ 0)) rfl (sh_desk _ _) rfl 1 (by decide) gw_352 (v := .ref (ad (44 + 57 * (bz ((σ 0) 1))))) rfl dX8_now_53 ?_
      refine fgetxN hx hb ht inG0 hown hK hP (k := (44 + 57 * (bz ((σ 0) 1)))) (by have b0_ : (bz ((σ 0) 1)) < 2 := (bz_lt _); omega) (x := (σ (44 + 57 * (bz ((σ 0) 1))))) rfl (sh_book _ _ (bz_lt _)) rfl 1 (by decide) (hN.get 219 nw_219 rfl) (v := .int ((σ (44 + 57 * (bz ((σ 0) 1)))) 1)) rfl dX8_now_56 ?_
      exact ret_i hx hb hr hlk hP hS dX8_now_59 (⟨by first | with_reducible rfl | (simp only [nowS, c1, ↓reduceIte, Bool.false_eq_true]; done) | (simp only [nowS, c1, ↓reduceIte, Bool.false_eq_true]; rfl) | rfl, by first | with_reducible rfl | (simp only [nowS, c1, ↓reduceIte, Bool.false_eq_true]; done) | (simp only [nowS, c1, ↓reduceIte, Bool.false_eq_true]; rfl) | rfl, rfl⟩)
    · refine lv_tableIn (tgt := 60) hx hb dX8_now_1 (by rw [c1]; decide) (by rw [c1]; decide) (by rw [c1]; rfl) (by decide) ?_
      refine lv_aload_n hx hb dX8_now_60 rfl (lv_at hl 0 rfl) ?_
      refine fgetx hx hb ht inG8 hown hK hP (k := 0) (by decide) (x := (σ 0)) rfl (sh_desk _ _) rfl 1 (by decide) gw_352 (v := .ref (ad (44 + 57 * (bz ((σ 0) 1))))) rfl dX8_now_61 ?_
      refine fgetxN hx hb ht inG0 hown hK hP (k := (44 + 57 * (bz ((σ 0) 1)))) (by have b0_ : (bz ((σ 0) 1)) < 2 := (bz_lt _); omega) (x := (σ (44 + 57 * (bz ((σ 0) 1))))) rfl (sh_book _ _ (bz_lt _)) rfl 2 (by decide) (hN.get 221 nw_221 rfl) (v := .int ((σ (44 + 57 * (bz ((σ 0) 1)))) 2)) rfl dX8_now_64 ?_
      exact ret_i hx hb hr hlk hP hS dX8_now_67 (⟨by first | with_reducible rfl | (simp only [nowS, c1, ↓reduceIte, Bool.false_eq_true]; done) | (simp only [nowS, c1, ↓reduceIte, Bool.false_eq_true]; rfl) | rfl, by first | with_reducible rfl | (simp only [nowS, c1, ↓reduceIte, Bool.false_eq_true]; done) | (simp only [nowS, c1, ↓reduceIte, Bool.false_eq_true]; rfl) | rfl, rfl⟩)
    · refine lv_tableIn (tgt := 68) hx hb dX8_now_1 (by rw [c1]; decide) (by rw [c1]; decide) (by rw [c1]; rfl) (by decide) ?_
      refine lv_aload_n hx hb dX8_now_68 rfl (lv_at hl 0 rfl) ?_
      refine fgetx hx hb ht inG8 hown hK hP (k := 0) (by decide) (x := (σ 0)) rfl (sh_desk _ _) rfl 2 (by decide) gw_353 (v := .ref (ad 12)) rfl dX8_now_69 ?_
      refine fgetxN hx hb ht inG5 hown hK hP (k := 12) (by decide) (x := (σ 12)) rfl (sh_ledg _ _) rfl 1 (by decide) (hN.get 311 nw_311 rfl) (v := .int ((σ 12) 1)) rfl dX8_now_72 ?_
      exact ret_i hx hb hr hlk hP hS dX8_now_75 (⟨by first | with_reducible rfl | (simp only [nowS, c1, ↓reduceIte, Bool.false_eq_true]; done) | (simp only [nowS, c1, ↓reduceIte, Bool.false_eq_true]; rfl) | rfl, by first | with_reducible rfl | (simp only [nowS, c1, ↓reduceIte, Bool.false_eq_true]; done) | (simp only [nowS, c1, ↓reduceIte, Bool.false_eq_true]; rfl) | rfl, rfl⟩)
    · refine lv_tableIn (tgt := 76) hx hb dX8_now_1 (by rw [c1]; decide) (by rw [c1]; decide) (by rw [c1]; rfl) (by decide) ?_
      refine lv_aload_n hx hb dX8_now_76 rfl (lv_at hl 0 rfl) ?_
      refine fgetx hx hb ht inG8 hown hK hP (k := 0) (by decide) (x := (σ 0)) rfl (sh_desk _ _) rfl 2 (by decide) gw_353 (v := .ref (ad 12)) rfl dX8_now_77 ?_
      refine callv (y := yX5_countSettled) ⟨hx, hb, hml, hown, ht⟩ hK hN hP hS (k := 12) (c_X5_countSettled l D ca ad hI σ τ ) (by decide) (sh_ledg _ _) rfl ok_X5_countSettled gw_597 ⟨by decide, by decide⟩ rfl hl.1 rfl (Nat.le_of_ble_eq_true rfl) ⟨by decide, by decide⟩ dX8_now_80 (fun v_ S_ T_ H locs hp2 hP hS => ?_)
      obtain ⟨rfl, rfl, rfl⟩ := hp2
      try dsimp only [Option.toList, List.cons_append, List.nil_append]
      exact ret_i hx hb hr hlk hP hS dX8_now_83 (⟨by first | with_reducible rfl | (simp only [nowS, c1, ↓reduceIte, Bool.false_eq_true]; done) | (simp only [nowS, c1, ↓reduceIte, Bool.false_eq_true]; rfl) | rfl, by first | with_reducible rfl | (simp only [nowS, c1, ↓reduceIte, Bool.false_eq_true]; done) | (simp only [nowS, c1, ↓reduceIte, Bool.false_eq_true]; rfl) | rfl, rfl⟩)
    · refine lv_tableIn (tgt := 84) hx hb dX8_now_1 (by rw [c1]; decide) (by rw [c1]; decide) (by rw [c1]; rfl) (by decide) ?_
      refine lv_aload_n hx hb dX8_now_84 rfl (lv_at hl 0 rfl) ?_
      refine fgetx hx hb ht inG8 hown hK hP (k := 0) (by decide) (x := (σ 0)) rfl (sh_desk _ _) rfl 3 (by decide) gw_354 (v := .ref (ad 6)) rfl dX8_now_85 ?_
      refine fgetxN hx hb ht inG3 hown hK hP (k := 6) (by decide) (x := (σ 6)) rfl (sh_hist _ _) rfl 6 (by decide) (hN.get 335 nw_335 rfl) (v := .int ((σ 6) 6)) rfl dX8_now_88 ?_
      exact ret_i hx hb hr hlk hP hS dX8_now_91 (⟨by first | with_reducible rfl | (simp only [nowS, c1, ↓reduceIte, Bool.false_eq_true]; done) | (simp only [nowS, c1, ↓reduceIte, Bool.false_eq_true]; rfl) | rfl, by first | with_reducible rfl | (simp only [nowS, c1, ↓reduceIte, Bool.false_eq_true]; done) | (simp only [nowS, c1, ↓reduceIte, Bool.false_eq_true]; rfl) | rfl, rfl⟩)
    · refine lv_tableIn (tgt := 92) hx hb dX8_now_1 (by rw [c1]; decide) (by rw [c1]; decide) (by rw [c1]; rfl) (by decide) ?_
      refine lv_aload_n hx hb dX8_now_92 rfl (lv_at hl 0 rfl) ?_
      refine fgetx hx hb ht inG8 hown hK hP (k := 0) (by decide) (x := (σ 0)) rfl (sh_desk _ _) rfl 0 (by decide) gw_351 (v := .ref (ad 1)) rfl dX8_now_93 ?_
      refine fgetxN hx hb ht inG7 hown hK hP (k := 1) (by decide) (x := (σ 1)) rfl (sh_read _ _) rfl 0 (by decide) (hN.get 236 nw_236 rfl) (v := .ref (ad 2)) rfl dX8_now_96 ?_
      refine fgetxN hx hb ht inG6 hown hK hP (k := 2) (by decide) (x := (σ 2)) rfl (sh_tape _ _) rfl 1 (by decide) (hN.get 99 nw_99 rfl) (v := .int ((σ 2) 1)) rfl dX8_now_99 ?_
      exact ret_i hx hb hr hlk hP hS dX8_now_102 (⟨by first | with_reducible rfl | (simp only [nowS, c1, ↓reduceIte, Bool.false_eq_true]; done) | (simp only [nowS, c1, ↓reduceIte, Bool.false_eq_true]; rfl) | rfl, by first | with_reducible rfl | (simp only [nowS, c1, ↓reduceIte, Bool.false_eq_true]; done) | (simp only [nowS, c1, ↓reduceIte, Bool.false_eq_true]; rfl) | rfl, rfl⟩)
set_option maxHeartbeats 4000000 in
set_option maxRecDepth 100000 in
theorem c_X8_value (l : Launch) (D : va_G) (ca : Nat → ClassId) (ad : Nat → Nat) (hI : Inj 158 ad) (σ : MI) (τ : ML) (x mo w : Int32) : CT l D (TY ca) 158 ad (cxf ca ad) yX8_value cX8_value 5 (some .int) 2 46 [.ref (ad 0), .int x, .int mo, .int w] σ τ (fun v_ S_ T_ => some (.int (valuS σ x mo w)) = v_ ∧ σ = S_ ∧ τ = T_) := by
  refine CT.of (by decide) (Nat.le_of_ble_eq_true rfl) ?_
  intro p e s m args below meth c hx hb hr ht hown hlk hml hP hK hN hS ls hl
  have hl : lv_has ls 5 [(0, .ref (ad 0)), (1, .int x), (2, .int mo), (3, .int w)] := hl
  have hbz := bz_lt (σ 0 1)
  refine lv_aload_n hx hb dX8_value_0 rfl (lv_at hl 0 rfl) ?_
  refine fgetx hx hb ht inG8 hown hK hP (k := 0) (by decide) (x := (σ 0)) rfl (sh_desk _ _) rfl 1 (by decide) gw_352 (v := .ref (ad (44 + 57 * (bz ((σ 0) 1))))) rfl dX8_value_1 ?_
  refine lv_iload_n hx hb dX8_value_4 rfl (lv_at hl 1 rfl) ?_
  refine callv (y := yX0_indexAt) ⟨hx, hb, hml, hown, ht⟩ hK hN hP hS (k := (44 + 57 * (bz ((σ 0) 1)))) (c_X0_indexAt l D ca ad hI σ τ (bz_lt _) x) (by have b0_ : (bz ((σ 0) 1)) < 2 := (bz_lt _); omega) (sh_book _ _ (bz_lt _)) rfl ok_X0_indexAt gw_609 ⟨by decide, by decide⟩ rfl hl.1 rfl (Nat.le_of_ble_eq_true rfl) ⟨by decide, by decide⟩ dX8_value_5 (fun v_ S_ T_ H locs hp1 hP hS => ?_)
  rcases hp1 with ⟨hp1, rfl, rfl, rfl⟩ | ⟨hp1, rfl, rfl, rfl⟩
  · try dsimp only [Option.toList, List.cons_append, List.nil_append]
    refine lv_astoreN (lv' := [(4, .null), (0, .ref (ad 0)), (1, .int x), (2, .int mo), (3, .int w)]) hx hb dX8_value_8 hl (by decide) rfl (fun ls hl => ?_)
    refine lv_aloadN hx hb dX8_value_10 (lv_at hl 0 rfl) ?_
    refine lv_ifnullN (tgt := 22) hx hb dX8_value_12 (by decide) ?_
    refine lv_iconst (v := -1) hx hb dX8_value_22 (by decide) ?_
    exact ret_i hx hb hr hlk hP hS dX8_value_23 (⟨by first | with_reducible rfl | (simp only [valuS, hp1, ↓reduceIte, Bool.false_eq_true]; done) | (simp only [valuS, hp1, ↓reduceIte, Bool.false_eq_true]; rfl) | rfl, by first | with_reducible rfl | (simp only [valuS, hp1, ↓reduceIte, Bool.false_eq_true]; done) | (simp only [valuS, hp1, ↓reduceIte, Bool.false_eq_true]; rfl) | rfl, rfl⟩)
  · try dsimp only [Option.toList, List.cons_append, List.nil_append]
    have hXhp1 := (inC_6 hp1)
    refine lv_astore (lv' := [(4, .ref (ad (47 + 57 * (bz ((σ 0) 1)) + 6 * x.toNatClampNeg))), (0, .ref (ad 0)), (1, .int x), (2, .int mo), (3, .int w)]) hx hb dX8_value_8 hl (by decide) rfl (fun ls hl => ?_)
    refine lv_aload hx hb dX8_value_10 (lv_at hl 0 rfl) ?_
    refine lv_ifnull hx hb dX8_value_12 ?_
    refine lv_iload_n hx hb dX8_value_15 rfl (lv_at hl 3 rfl) ?_
    refine calls (y := yX8_isMonth) ⟨hx, hb, hml, hown, ht⟩ hK hN hP hS (c_X8_isMonth l D ca ad hI σ τ mo) ok_X8_isMonth gw_610 ⟨by decide, by decide⟩ rfl hl.1 rfl (Nat.le_of_ble_eq_true rfl) ⟨by decide, by decide⟩ dX8_value_16 (fun v_ S_ T_ H locs hp2 hP hS => ?_)
    obtain ⟨rfl, rfl, rfl⟩ := hp2
    try dsimp only [Option.toList, List.cons_append, List.nil_append]
    refine br_ne (tgt := 24) hx hb dX8_value_19 (by decide) (fun c3 => ?_) (fun c3 => ?_)
    · refine lv_iload_n hx hb dX8_value_24 rfl (lv_at hl 4 rfl) ?_
      rcases tab_cases w 4 (by decide) with c4 | ⟨k_, hk_, c4⟩
      · refine lv_tableOut (tgt := 89) hx hb dX8_value_25 (by omega) (by decide) ?_
        refine lv_iconst (v := -1) hx hb dX8_value_89 (by decide) ?_
        exact ret_i hx hb hr hlk hP hS dX8_value_90 (⟨by first | with_reducible rfl | (simp only [valuS, hp1, c3, swt_out c4, ↓reduceIte, Bool.false_eq_true]; done) | (simp only [valuS, hp1, c3, swt_out c4, ↓reduceIte, Bool.false_eq_true]; rfl) | rfl, by first | with_reducible rfl | (simp only [valuS, hp1, c3, swt_out c4, ↓reduceIte, Bool.false_eq_true]; done) | (simp only [valuS, hp1, c3, swt_out c4, ↓reduceIte, Bool.false_eq_true]; rfl) | rfl, rfl⟩)
      · rcases (by omega : k_ = 0 ∨ k_ = 1 ∨ k_ = 2 ∨ k_ = 3) with rfl | rfl | rfl | rfl
        · refine lv_tableIn (tgt := 56) hx hb dX8_value_25 (by rw [c4]; decide) (by rw [c4]; decide) (by rw [c4]; rfl) (by decide) ?_
          refine lv_aload hx hb dX8_value_56 (lv_at hl 0 rfl) ?_
          refine lv_iload_n hx hb dX8_value_58 rfl (lv_at hl 3 rfl) ?_
          refine callv (y := yX4_valueAt) ⟨hx, hb, hml, hown, ht⟩ hK hN hP hS (k := (47 + 57 * (bz ((σ 0) 1)) + 6 * x.toNatClampNeg)) (c_X4_valueAt l D ca ad hI σ τ (bz_lt _) (inC_6 hp1) mo) (by have b0_ : (bz ((σ 0) 1)) < 2 := (bz_lt _); have b1_ : x.toNatClampNeg < 6 := (inC_6 hp1); omega) (sh_indx _ _ (bz_lt _) (inC_6 hp1)) rfl ok_X4_valueAt gw_611 ⟨by decide, by decide⟩ rfl hl.1 rfl (Nat.le_of_ble_eq_true rfl) ⟨by decide, by decide⟩ dX8_value_59 (fun v_ S_ T_ H locs hp5 hP hS => ?_)
          obtain ⟨rfl, rfl, rfl⟩ := hp5
          try dsimp only [Option.toList, List.cons_append, List.nil_append]
          exact ret_i hx hb hr hlk hP hS dX8_value_62 (⟨by first | with_reducible rfl | (simp only [valuS, hp1, c3, c4, ↓reduceIte, Bool.false_eq_true]; done) | (simp only [valuS, hp1, c3, c4, ↓reduceIte, Bool.false_eq_true]; rfl) | rfl, by first | with_reducible rfl | (simp only [valuS, hp1, c3, c4, ↓reduceIte, Bool.false_eq_true]; done) | (simp only [valuS, hp1, c3, c4, ↓reduceIte, Bool.false_eq_true]; rfl) | rfl, rfl⟩)
        · refine lv_tableIn (tgt := 63) hx hb dX8_value_25 (by rw [c4]; decide) (by rw [c4]; decide) (by rw [c4]; rfl) (by decide) ?_
          refine lv_aload hx hb dX8_value_63 (lv_at hl 0 rfl) ?_
          refine lv_iload_n hx hb dX8_value_65 rfl (lv_at hl 3 rfl) ?_
          refine callv (y := yX4_kindAt) ⟨hx, hb, hml, hown, ht⟩ hK hN hP hS (k := (47 + 57 * (bz ((σ 0) 1)) + 6 * x.toNatClampNeg)) (c_X4_kindAt l D ca ad hI σ τ (bz_lt _) (inC_6 hp1) mo) (by have b0_ : (bz ((σ 0) 1)) < 2 := (bz_lt _); have b1_ : x.toNatClampNeg < 6 := (inC_6 hp1); omega) (sh_indx _ _ (bz_lt _) (inC_6 hp1)) rfl ok_X4_kindAt gw_615 ⟨by decide, by decide⟩ rfl hl.1 rfl (Nat.le_of_ble_eq_true rfl) ⟨by decide, by decide⟩ dX8_value_66 (fun v_ S_ T_ H locs hp6 hP hS => ?_)
          obtain ⟨rfl, rfl, rfl⟩ := hp6
          try dsimp only [Option.toList, List.cons_append, List.nil_append]
          exact ret_i hx hb hr hlk hP hS dX8_value_69 (⟨by first | with_reducible rfl | (simp only [valuS, hp1, c3, c4, ↓reduceIte, Bool.false_eq_true]; done) | (simp only [valuS, hp1, c3, c4, ↓reduceIte, Bool.false_eq_true]; rfl) | rfl, by first | with_reducible rfl | (simp only [valuS, hp1, c3, c4, ↓reduceIte, Bool.false_eq_true]; done) | (simp only [valuS, hp1, c3, c4, ↓reduceIte, Bool.false_eq_true]; rfl) | rfl, rfl⟩)
        · refine lv_tableIn (tgt := 70) hx hb dX8_value_25 (by rw [c4]; decide) (by rw [c4]; decide) (by rw [c4]; rfl) (by decide) ?_
          refine lv_aload hx hb dX8_value_70 (lv_at hl 0 rfl) ?_
          refine lv_aload hx hb dX8_value_72 (lv_at hl 0 rfl) ?_
          refine lv_iload_n hx hb dX8_value_74 rfl (lv_at hl 3 rfl) ?_
          refine callv (y := yX4_knownMonth) ⟨hx, hb, hml, hown, ht⟩ hK hN hP hS (k := (47 + 57 * (bz ((σ 0) 1)) + 6 * x.toNatClampNeg)) (c_X4_knownMonth l D ca ad hI σ τ (bz_lt _) (inC_6 hp1) mo) (by have b0_ : (bz ((σ 0) 1)) < 2 := (bz_lt _); have b1_ : x.toNatClampNeg < 6 := (inC_6 hp1); omega) (sh_indx _ _ (bz_lt _) (inC_6 hp1)) rfl ok_X4_knownMonth gw_616 ⟨by decide, by decide⟩ rfl hl.1 rfl (Nat.le_of_ble_eq_true rfl) ⟨by decide, by decide⟩ dX8_value_75 (fun v_ S_ T_ H locs hp7 hP hS => ?_)
          obtain ⟨rfl, rfl, rfl⟩ := hp7
          try dsimp only [Option.toList, List.cons_append, List.nil_append]
          refine callv (y := yX4_valueAt) ⟨hx, hb, hml, hown, ht⟩ hK hN hP hS (k := (47 + 57 * (bz ((σ 0) 1)) + 6 * x.toNatClampNeg)) (c_X4_valueAt l D ca ad hI σ τ (bz_lt _) (inC_6 hp1) (knowS (σ (49 + 57 * (bz ((σ 0) 1)) + 6 * x.toNatClampNeg)) mo)) (by have b0_ : (bz ((σ 0) 1)) < 2 := (bz_lt _); have b1_ : x.toNatClampNeg < 6 := (inC_6 hp1); omega) (sh_indx _ _ (bz_lt _) (inC_6 hp1)) rfl ok_X4_valueAt gw_611 ⟨by decide, by decide⟩ rfl hl.1 rfl (Nat.le_of_ble_eq_true rfl) ⟨by decide, by decide⟩ dX8_value_78 (fun v_ S_ T_ H locs hp8 hP hS => ?_)
          obtain ⟨rfl, rfl, rfl⟩ := hp8
          try dsimp only [Option.toList, List.cons_append, List.nil_append]
          exact ret_i hx hb hr hlk hP hS dX8_value_81 (⟨by first | with_reducible rfl | (simp only [valuS, hp1, c3, c4, ↓reduceIte, Bool.false_eq_true]; done) | (simp only [valuS, hp1, c3, c4, ↓reduceIte, Bool.false_eq_true]; rfl) | rfl, by first | with_reducible rfl | (simp only [valuS, hp1, c3, c4, ↓reduceIte, Bool.false_eq_true]; done) | (simp only [valuS, hp1, c3, c4, ↓reduceIte, Bool.false_eq_true]; rfl) | rfl, rfl⟩)
        · refine lv_tableIn (tgt := 82) hx hb dX8_value_25 (by rw [c4]; decide) (by rw [c4]; decide) (by rw [c4]; rfl) (by decide) ?_
          refine lv_aload hx hb dX8_value_82 (lv_at hl 0 rfl) ?_
          refine lv_iload_n hx hb dX8_value_84 rfl (lv_at hl 3 rfl) ?_
          refine callv (y := yX4_knownMonth) ⟨hx, hb, hml, hown, ht⟩ hK hN hP hS (k := (47 + 57 * (bz ((σ 0) 1)) + 6 * x.toNatClampNeg)) (c_X4_knownMonth l D ca ad hI σ τ (bz_lt _) (inC_6 hp1) mo) (by have b0_ : (bz ((σ 0) 1)) < 2 := (bz_lt _); have b1_ : x.toNatClampNeg < 6 := (inC_6 hp1); omega) (sh_indx _ _ (bz_lt _) (inC_6 hp1)) rfl ok_X4_knownMonth gw_616 ⟨by decide, by decide⟩ rfl hl.1 rfl (Nat.le_of_ble_eq_true rfl) ⟨by decide, by decide⟩ dX8_value_85 (fun v_ S_ T_ H locs hp9 hP hS => ?_)
          obtain ⟨rfl, rfl, rfl⟩ := hp9
          try dsimp only [Option.toList, List.cons_append, List.nil_append]
          exact ret_i hx hb hr hlk hP hS dX8_value_88 (⟨by first | with_reducible rfl | (simp only [valuS, hp1, c3, c4, ↓reduceIte, Bool.false_eq_true]; done) | (simp only [valuS, hp1, c3, c4, ↓reduceIte, Bool.false_eq_true]; rfl) | rfl, by first | with_reducible rfl | (simp only [valuS, hp1, c3, c4, ↓reduceIte, Bool.false_eq_true]; done) | (simp only [valuS, hp1, c3, c4, ↓reduceIte, Bool.false_eq_true]; rfl) | rfl, rfl⟩)
    · refine lv_iconst (v := -1) hx hb dX8_value_22 (by decide) ?_
      exact ret_i hx hb hr hlk hP hS dX8_value_23 (⟨by first | with_reducible rfl | (simp only [valuS, hp1, c3, ↓reduceIte, Bool.false_eq_true]; done) | (simp only [valuS, hp1, c3, ↓reduceIte, Bool.false_eq_true]; rfl) | rfl, by first | with_reducible rfl | (simp only [valuS, hp1, c3, ↓reduceIte, Bool.false_eq_true]; done) | (simp only [valuS, hp1, c3, ↓reduceIte, Bool.false_eq_true]; rfl) | rfl, rfl⟩)
set_option maxHeartbeats 4000000 in
set_option maxRecDepth 100000 in
theorem c_X8_rebased (l : Launch) (D : va_G) (ca : Nat → ClassId) (ad : Nat → Nat) (hI : Inj 158 ad) (σ : MI) (τ : ML) (x k w : Int32) : CT l D (TY ca) 158 ad (cxf ca ad) yX8_rebased cX8_rebased 5 (some .int) 1 21 [.ref (ad 0), .int x, .int k, .int w] σ τ (fun v_ S_ T_ => some (.int (rebdS σ x k w)) = v_ ∧ σ = S_ ∧ τ = T_) := by
  refine CT.of (by decide) (Nat.le_of_ble_eq_true rfl) ?_
  intro p e s m args below meth c hx hb hr ht hown hlk hml hP hK hN hS ls hl
  have hl : lv_has ls 5 [(0, .ref (ad 0)), (1, .int x), (2, .int k), (3, .int w)] := hl
  have hbz := bz_lt (σ 0 1)
  refine lv_aload_n hx hb dX8_rebased_0 rfl (lv_at hl 0 rfl) ?_
  refine fgetx hx hb ht inG8 hown hK hP (k := 0) (by decide) (x := (σ 0)) rfl (sh_desk _ _) rfl 1 (by decide) gw_352 (v := .ref (ad (44 + 57 * (bz ((σ 0) 1))))) rfl dX8_rebased_1 ?_
  refine lv_iload_n hx hb dX8_rebased_4 rfl (lv_at hl 1 rfl) ?_
  refine callv (y := yX0_indexAt) ⟨hx, hb, hml, hown, ht⟩ hK hN hP hS (k := (44 + 57 * (bz ((σ 0) 1)))) (c_X0_indexAt l D ca ad hI σ τ (bz_lt _) x) (by have b0_ : (bz ((σ 0) 1)) < 2 := (bz_lt _); omega) (sh_book _ _ (bz_lt _)) rfl ok_X0_indexAt gw_609 ⟨by decide, by decide⟩ rfl hl.1 rfl (Nat.le_of_ble_eq_true rfl) ⟨by decide, by decide⟩ dX8_rebased_5 (fun v_ S_ T_ H locs hp1 hP hS => ?_)
  rcases hp1 with ⟨hp1, rfl, rfl, rfl⟩ | ⟨hp1, rfl, rfl, rfl⟩
  · try dsimp only [Option.toList, List.cons_append, List.nil_append]
    refine lv_astoreN (lv' := [(4, .null), (0, .ref (ad 0)), (1, .int x), (2, .int k), (3, .int w)]) hx hb dX8_rebased_8 hl (by decide) rfl (fun ls hl => ?_)
    refine lv_aloadN hx hb dX8_rebased_10 (lv_at hl 0 rfl) ?_
    refine lv_ifnullN (tgt := 24) hx hb dX8_rebased_12 (by decide) ?_
    refine lv_iconst (v := -1) hx hb dX8_rebased_24 (by decide) ?_
    exact ret_i hx hb hr hlk hP hS dX8_rebased_25 (⟨by first | with_reducible rfl | (simp only [rebdS, hp1, ↓reduceIte, Bool.false_eq_true]; done) | (simp only [rebdS, hp1, ↓reduceIte, Bool.false_eq_true]; rfl) | rfl, by first | with_reducible rfl | (simp only [rebdS, hp1, ↓reduceIte, Bool.false_eq_true]; done) | (simp only [rebdS, hp1, ↓reduceIte, Bool.false_eq_true]; rfl) | rfl, rfl⟩)
  · try dsimp only [Option.toList, List.cons_append, List.nil_append]
    have hXhp1 := (inC_6 hp1)
    refine lv_astore (lv' := [(4, .ref (ad (47 + 57 * (bz ((σ 0) 1)) + 6 * x.toNatClampNeg))), (0, .ref (ad 0)), (1, .int x), (2, .int k), (3, .int w)]) hx hb dX8_rebased_8 hl (by decide) rfl (fun ls hl => ?_)
    refine lv_aload hx hb dX8_rebased_10 (lv_at hl 0 rfl) ?_
    refine lv_ifnull hx hb dX8_rebased_12 ?_
    refine lv_aload hx hb dX8_rebased_15 (lv_at hl 0 rfl) ?_
    refine lv_iload_n hx hb dX8_rebased_17 rfl (lv_at hl 3 rfl) ?_
    refine callv (y := yX4_hasRebasing) ⟨hx, hb, hml, hown, ht⟩ hK hN hP hS (k := (47 + 57 * (bz ((σ 0) 1)) + 6 * x.toNatClampNeg)) (c_X4_hasRebasing l D ca ad hI σ τ (bz_lt _) (inC_6 hp1) k) (by have b0_ : (bz ((σ 0) 1)) < 2 := (bz_lt _); have b1_ : x.toNatClampNeg < 6 := (inC_6 hp1); omega) (sh_indx _ _ (bz_lt _) (inC_6 hp1)) rfl ok_X4_hasRebasing gw_627 ⟨by decide, by decide⟩ rfl hl.1 rfl (Nat.le_of_ble_eq_true rfl) ⟨by decide, by decide⟩ dX8_rebased_18 (fun v_ S_ T_ H locs hp2 hP hS => ?_)
    obtain ⟨rfl, rfl, rfl⟩ := hp2
    try dsimp only [Option.toList, List.cons_append, List.nil_append]
    refine br_ne (tgt := 26) hx hb dX8_rebased_21 (by decide) (fun c3 => ?_) (fun c3 => ?_)
    · refine lv_iload_n hx hb dX8_rebased_26 rfl (lv_at hl 4 rfl) ?_
      rcases tab_cases w 3 (by decide) with c4 | ⟨k_, hk_, c4⟩
      · refine lv_tableOut (tgt := 76) hx hb dX8_rebased_27 (by omega) (by decide) ?_
        refine lv_iconst (v := -1) hx hb dX8_rebased_76 (by decide) ?_
        exact ret_i hx hb hr hlk hP hS dX8_rebased_77 (⟨by first | with_reducible rfl | (simp only [rebdS, hp1, c3, swt_out c4, ↓reduceIte, Bool.false_eq_true]; done) | (simp only [rebdS, hp1, c3, swt_out c4, ↓reduceIte, Bool.false_eq_true]; rfl) | rfl, by first | with_reducible rfl | (simp only [rebdS, hp1, c3, swt_out c4, ↓reduceIte, Bool.false_eq_true]; done) | (simp only [rebdS, hp1, c3, swt_out c4, ↓reduceIte, Bool.false_eq_true]; rfl) | rfl, rfl⟩)
      · rcases (by omega : k_ = 0 ∨ k_ = 1 ∨ k_ = 2) with rfl | rfl | rfl
        · refine lv_tableIn (tgt := 52) hx hb dX8_rebased_27 (by rw [c4]; decide) (by rw [c4]; decide) (by rw [c4]; rfl) (by decide) ?_
          refine lv_aload hx hb dX8_rebased_52 (lv_at hl 0 rfl) ?_
          refine fgetxN hx hb ht inG4 hown hK hP (k := (47 + 57 * (bz ((σ 0) 1)) + 6 * x.toNatClampNeg)) (by have b0_ : (bz ((σ 0) 1)) < 2 := (bz_lt _); have b1_ : x.toNatClampNeg < 6 := (inC_6 hp1); omega) (x := (σ (47 + 57 * (bz ((σ 0) 1)) + 6 * x.toNatClampNeg))) rfl (sh_indx _ _ (bz_lt _) (inC_6 hp1)) rfl 2 (by decide) (hN.get 138 nw_138 rfl) (v := .ref (ad (50 + 57 * (bz ((σ 0) 1)) + 6 * x.toNatClampNeg))) rfl dX8_rebased_54 ?_
          refine lv_iload_n hx hb dX8_rebased_57 rfl (lv_at hl 3 rfl) ?_
          refine aldj hx hb hK hP (k := (50 + 57 * (bz ((σ 0) 1)) + 6 * x.toNatClampNeg)) (by have b0_ : (bz ((σ 0) 1)) < 2 := (bz_lt _); have b1_ : x.toNatClampNeg < 6 := (inC_6 hp1); omega) (x := (σ (50 + 57 * (bz ((σ 0) 1)) + 6 * x.toNatClampNeg))) rfl 0 (sh_rbms _ _ (bz_lt _) (inC_6 hp1)) rfl (inC_in3 ‹inC k _ _ = true›) (j := k.toNatClampNeg) rfl dX8_rebased_58 ?_
          exact ret_i hx hb hr hlk hP hS dX8_rebased_59 (⟨by first | with_reducible rfl | (simp only [rebdS, hp1, c3, c4, ↓reduceIte, Bool.false_eq_true]; done) | (simp only [rebdS, hp1, c3, c4, ↓reduceIte, Bool.false_eq_true]; rfl) | rfl, by first | with_reducible rfl | (simp only [rebdS, hp1, c3, c4, ↓reduceIte, Bool.false_eq_true]; done) | (simp only [rebdS, hp1, c3, c4, ↓reduceIte, Bool.false_eq_true]; rfl) | rfl, rfl⟩)
        · refine lv_tableIn (tgt := 60) hx hb dX8_rebased_27 (by rw [c4]; decide) (by rw [c4]; decide) (by rw [c4]; rfl) (by decide) ?_
          refine lv_aload hx hb dX8_rebased_60 (lv_at hl 0 rfl) ?_
          refine fgetxN hx hb ht inG4 hown hK hP (k := (47 + 57 * (bz ((σ 0) 1)) + 6 * x.toNatClampNeg)) (by have b0_ : (bz ((σ 0) 1)) < 2 := (bz_lt _); have b1_ : x.toNatClampNeg < 6 := (inC_6 hp1); omega) (x := (σ (47 + 57 * (bz ((σ 0) 1)) + 6 * x.toNatClampNeg))) rfl (sh_indx _ _ (bz_lt _) (inC_6 hp1)) rfl 3 (by decide) (hN.get 140 nw_140 rfl) (v := .ref (ad (51 + 57 * (bz ((σ 0) 1)) + 6 * x.toNatClampNeg))) rfl dX8_rebased_62 ?_
          refine lv_iload_n hx hb dX8_rebased_65 rfl (lv_at hl 3 rfl) ?_
          refine aldj hx hb hK hP (k := (51 + 57 * (bz ((σ 0) 1)) + 6 * x.toNatClampNeg)) (by have b0_ : (bz ((σ 0) 1)) < 2 := (bz_lt _); have b1_ : x.toNatClampNeg < 6 := (inC_6 hp1); omega) (x := (σ (51 + 57 * (bz ((σ 0) 1)) + 6 * x.toNatClampNeg))) rfl 0 (sh_olds _ _ (bz_lt _) (inC_6 hp1)) rfl (inC_in3 ‹inC k _ _ = true›) (j := k.toNatClampNeg) rfl dX8_rebased_66 ?_
          exact ret_i hx hb hr hlk hP hS dX8_rebased_67 (⟨by first | with_reducible rfl | (simp only [rebdS, hp1, c3, c4, ↓reduceIte, Bool.false_eq_true]; done) | (simp only [rebdS, hp1, c3, c4, ↓reduceIte, Bool.false_eq_true]; rfl) | rfl, by first | with_reducible rfl | (simp only [rebdS, hp1, c3, c4, ↓reduceIte, Bool.false_eq_true]; done) | (simp only [rebdS, hp1, c3, c4, ↓reduceIte, Bool.false_eq_true]; rfl) | rfl, rfl⟩)
        · refine lv_tableIn (tgt := 68) hx hb dX8_rebased_27 (by rw [c4]; decide) (by rw [c4]; decide) (by rw [c4]; rfl) (by decide) ?_
          refine lv_aload hx hb dX8_rebased_68 (lv_at hl 0 rfl) ?_
          refine fgetxN hx hb ht inG4 hown hK hP (k := (47 + 57 * (bz ((σ 0) 1)) + 6 * x.toNatClampNeg)) (by have b0_ : (bz ((σ 0) 1)) < 2 := (bz_lt _); have b1_ : x.toNatClampNeg < 6 := (inC_6 hp1); omega) (x := (σ (47 + 57 * (bz ((σ 0) 1)) + 6 * x.toNatClampNeg))) rfl (sh_indx _ _ (bz_lt _) (inC_6 hp1)) rfl 4 (by decide) (hN.get 142 nw_142 rfl) (v := .ref (ad (52 + 57 * (bz ((σ 0) 1)) + 6 * x.toNatClampNeg))) rfl dX8_rebased_70 ?_
          refine lv_iload_n hx hb dX8_rebased_73 rfl (lv_at hl 3 rfl) ?_
          refine aldj hx hb hK hP (k := (52 + 57 * (bz ((σ 0) 1)) + 6 * x.toNatClampNeg)) (by have b0_ : (bz ((σ 0) 1)) < 2 := (bz_lt _); have b1_ : x.toNatClampNeg < 6 := (inC_6 hp1); omega) (x := (σ (52 + 57 * (bz ((σ 0) 1)) + 6 * x.toNatClampNeg))) rfl 0 (sh_news _ _ (bz_lt _) (inC_6 hp1)) rfl (inC_in3 ‹inC k _ _ = true›) (j := k.toNatClampNeg) rfl dX8_rebased_74 ?_
          exact ret_i hx hb hr hlk hP hS dX8_rebased_75 (⟨by first | with_reducible rfl | (simp only [rebdS, hp1, c3, c4, ↓reduceIte, Bool.false_eq_true]; done) | (simp only [rebdS, hp1, c3, c4, ↓reduceIte, Bool.false_eq_true]; rfl) | rfl, by first | with_reducible rfl | (simp only [rebdS, hp1, c3, c4, ↓reduceIte, Bool.false_eq_true]; done) | (simp only [rebdS, hp1, c3, c4, ↓reduceIte, Bool.false_eq_true]; rfl) | rfl, rfl⟩)
    · refine lv_iconst (v := -1) hx hb dX8_rebased_24 (by decide) ?_
      exact ret_i hx hb hr hlk hP hS dX8_rebased_25 (⟨by first | with_reducible rfl | (simp only [rebdS, hp1, c3, ↓reduceIte, Bool.false_eq_true]; done) | (simp only [rebdS, hp1, c3, ↓reduceIte, Bool.false_eq_true]; rfl) | rfl, by first | with_reducible rfl | (simp only [rebdS, hp1, c3, ↓reduceIte, Bool.false_eq_true]; done) | (simp only [rebdS, hp1, c3, ↓reduceIte, Bool.false_eq_true]; rfl) | rfl, rfl⟩)
set_option maxHeartbeats 4000000 in
set_option maxRecDepth 100000 in
theorem c_X8_contract (l : Launch) (D : va_G) (ca : Nat → ClassId) (ad : Nat → Nat) (hI : Inj 158 ad) (σ : MI) (τ : ML) (x w : Int32) : CT l D (TY ca) 158 ad (cxf ca ad) yX8_contract cX8_contract 4 (some .int) 1 22 [.ref (ad 0), .int x, .int w] σ τ (fun v_ S_ T_ => some (.int (contS σ x w)) = v_ ∧ σ = S_ ∧ τ = T_) := by
  refine CT.of (by decide) (Nat.le_of_ble_eq_true rfl) ?_
  intro p e s m args below meth c hx hb hr ht hown hlk hml hP hK hN hS ls hl
  have hl : lv_has ls 4 [(0, .ref (ad 0)), (1, .int x), (2, .int w)] := hl
  have hbz := bz_lt (σ 0 1)
  refine lv_aload_n hx hb dX8_contract_0 rfl (lv_at hl 0 rfl) ?_
  refine fgetx hx hb ht inG8 hown hK hP (k := 0) (by decide) (x := (σ 0)) rfl (sh_desk _ _) rfl 1 (by decide) gw_352 (v := .ref (ad (44 + 57 * (bz ((σ 0) 1))))) rfl dX8_contract_1 ?_
  refine lv_iload_n hx hb dX8_contract_4 rfl (lv_at hl 1 rfl) ?_
  refine callv (y := yX0_contractAt) ⟨hx, hb, hml, hown, ht⟩ hK hN hP hS (k := (44 + 57 * (bz ((σ 0) 1)))) (c_X0_contractAt l D ca ad hI σ τ (bz_lt _) x) (by have b0_ : (bz ((σ 0) 1)) < 2 := (bz_lt _); omega) (sh_book _ _ (bz_lt _)) rfl ok_X0_contractAt gw_635 ⟨by decide, by decide⟩ rfl hl.1 rfl (Nat.le_of_ble_eq_true rfl) ⟨by decide, by decide⟩ dX8_contract_5 (fun v_ S_ T_ H locs hp1 hP hS => ?_)
  rcases hp1 with ⟨hp1, rfl, rfl, rfl⟩ | ⟨hp1, rfl, rfl, rfl⟩
  · try dsimp only [Option.toList, List.cons_append, List.nil_append]
    refine lv_astore_nN (lv' := [(3, .null), (0, .ref (ad 0)), (1, .int x), (2, .int w)]) hx hb dX8_contract_8 rfl hl (by decide) rfl (fun ls hl => ?_)
    refine lv_aload_nN hx hb dX8_contract_9 rfl (lv_at hl 0 rfl) ?_
    refine lv_ifnonnullN hx hb dX8_contract_10 ?_
    refine lv_iconst (v := -1) hx hb dX8_contract_13 (by decide) ?_
    exact ret_i hx hb hr hlk hP hS dX8_contract_14 (⟨by first | with_reducible rfl | (simp only [contS, hp1, ↓reduceIte, Bool.false_eq_true]; done) | (simp only [contS, hp1, ↓reduceIte, Bool.false_eq_true]; rfl) | rfl, by first | with_reducible rfl | (simp only [contS, hp1, ↓reduceIte, Bool.false_eq_true]; done) | (simp only [contS, hp1, ↓reduceIte, Bool.false_eq_true]; rfl) | rfl, rfl⟩)
  · try dsimp only [Option.toList, List.cons_append, List.nil_append]
    have hXhp1 := (inC_6 hp1)
    refine lv_astore_n (lv' := [(3, .ref (ad (83 + 57 * (bz ((σ 0) 1)) + 3 * x.toNatClampNeg))), (0, .ref (ad 0)), (1, .int x), (2, .int w)]) hx hb dX8_contract_8 rfl hl (by decide) rfl (fun ls hl => ?_)
    refine lv_aload_n hx hb dX8_contract_9 rfl (lv_at hl 0 rfl) ?_
    refine lv_ifnonnull (tgt := 15) hx hb dX8_contract_10 (by decide) ?_
    refine lv_iload_n hx hb dX8_contract_15 rfl (lv_at hl 3 rfl) ?_
    rcases tab_cases w 7 (by decide) with c2 | ⟨k_, hk_, c2⟩
    · refine lv_tableOut (tgt := 103) hx hb dX8_contract_16 (by omega) (by decide) ?_
      refine lv_aload_n hx hb dX8_contract_103 rfl (lv_at hl 0 rfl) ?_
      refine lv_iload_n hx hb dX8_contract_104 rfl (lv_at hl 3 rfl) ?_
      refine lv_bipush (v := 7) hx hb dX8_contract_105 (by decide) ?_
      refine lv_isub hx hb dX8_contract_107 ?_
      refine callv (y := yX1_termFigure) ⟨hx, hb, hml, hown, ht⟩ hK hN hP hS (k := (83 + 57 * (bz ((σ 0) 1)) + 3 * x.toNatClampNeg)) (c_X1_termFigure l D ca ad hI σ τ (bz_lt _) (inC_6 hp1) (w - 7)) (by have b0_ : (bz ((σ 0) 1)) < 2 := (bz_lt _); have b1_ : x.toNatClampNeg < 6 := (inC_6 hp1); omega) (sh_cont _ _ (bz_lt _) (inC_6 hp1)) rfl ok_X1_termFigure gw_639 ⟨by decide, by decide⟩ rfl hl.1 rfl (Nat.le_of_ble_eq_true rfl) ⟨by decide, by decide⟩ dX8_contract_108 (fun v_ S_ T_ H locs hp3 hP hS => ?_)
      obtain ⟨rfl, rfl, rfl⟩ := hp3
      try dsimp only [Option.toList, List.cons_append, List.nil_append]
      exact ret_i hx hb hr hlk hP hS dX8_contract_111 (⟨by first | with_reducible rfl | (simp only [contS, hp1, swt_out c2, ↓reduceIte, Bool.false_eq_true]; done) | (simp only [contS, hp1, swt_out c2, ↓reduceIte, Bool.false_eq_true]; rfl) | rfl, by first | with_reducible rfl | (simp only [contS, hp1, swt_out c2, ↓reduceIte, Bool.false_eq_true]; done) | (simp only [contS, hp1, swt_out c2, ↓reduceIte, Bool.false_eq_true]; rfl) | rfl, rfl⟩)
    · rcases (by omega : k_ = 0 ∨ k_ = 1 ∨ k_ = 2 ∨ k_ = 3 ∨ k_ = 4 ∨ k_ = 5 ∨ k_ = 6) with rfl | rfl | rfl | rfl | rfl | rfl | rfl
      · refine lv_tableIn (tgt := 60) hx hb dX8_contract_16 (by rw [c2]; decide) (by rw [c2]; decide) (by rw [c2]; rfl) (by decide) ?_
        refine lv_aload_n hx hb dX8_contract_60 rfl (lv_at hl 0 rfl) ?_
        refine fgetxN hx hb ht inG1 hown hK hP (k := (83 + 57 * (bz ((σ 0) 1)) + 3 * x.toNatClampNeg)) (by have b0_ : (bz ((σ 0) 1)) < 2 := (bz_lt _); have b1_ : x.toNatClampNeg < 6 := (inC_6 hp1); omega) (x := (σ (83 + 57 * (bz ((σ 0) 1)) + 3 * x.toNatClampNeg))) rfl (sh_cont _ _ (bz_lt _) (inC_6 hp1)) rfl 0 (by decide) (hN.get 168 nw_168 rfl) (v := .int ((σ (83 + 57 * (bz ((σ 0) 1)) + 3 * x.toNatClampNeg)) 0)) rfl dX8_contract_61 ?_
        exact ret_i hx hb hr hlk hP hS dX8_contract_64 (⟨by first | with_reducible rfl | (simp only [contS, hp1, c2, ↓reduceIte, Bool.false_eq_true]; done) | (simp only [contS, hp1, c2, ↓reduceIte, Bool.false_eq_true]; rfl) | rfl, by first | with_reducible rfl | (simp only [contS, hp1, c2, ↓reduceIte, Bool.false_eq_true]; done) | (simp only [contS, hp1, c2, ↓reduceIte, Bool.false_eq_true]; rfl) | rfl, rfl⟩)
      · refine lv_tableIn (tgt := 65) hx hb dX8_contract_16 (by rw [c2]; decide) (by rw [c2]; decide) (by rw [c2]; rfl) (by decide) ?_
        refine lv_aload_n hx hb dX8_contract_65 rfl (lv_at hl 0 rfl) ?_
        refine fgetxN hx hb ht inG1 hown hK hP (k := (83 + 57 * (bz ((σ 0) 1)) + 3 * x.toNatClampNeg)) (by have b0_ : (bz ((σ 0) 1)) < 2 := (bz_lt _); have b1_ : x.toNatClampNeg < 6 := (inC_6 hp1); omega) (x := (σ (83 + 57 * (bz ((σ 0) 1)) + 3 * x.toNatClampNeg))) rfl (sh_cont _ _ (bz_lt _) (inC_6 hp1)) rfl 1 (by decide) (hN.get 172 nw_172 rfl) (v := .int ((σ (83 + 57 * (bz ((σ 0) 1)) + 3 * x.toNatClampNeg)) 1)) rfl dX8_contract_66 ?_
        exact ret_i hx hb hr hlk hP hS dX8_contract_69 (⟨by first | with_reducible rfl | (simp only [contS, hp1, c2, ↓reduceIte, Bool.false_eq_true]; done) | (simp only [contS, hp1, c2, ↓reduceIte, Bool.false_eq_true]; rfl) | rfl, by first | with_reducible rfl | (simp only [contS, hp1, c2, ↓reduceIte, Bool.false_eq_true]; done) | (simp only [contS, hp1, c2, ↓reduceIte, Bool.false_eq_true]; rfl) | rfl, rfl⟩)
      · refine lv_tableIn (tgt := 70) hx hb dX8_contract_16 (by rw [c2]; decide) (by rw [c2]; decide) (by rw [c2]; rfl) (by decide) ?_
        refine lv_aload_n hx hb dX8_contract_70 rfl (lv_at hl 0 rfl) ?_
        refine fgetxN hx hb ht inG1 hown hK hP (k := (83 + 57 * (bz ((σ 0) 1)) + 3 * x.toNatClampNeg)) (by have b0_ : (bz ((σ 0) 1)) < 2 := (bz_lt _); have b1_ : x.toNatClampNeg < 6 := (inC_6 hp1); omega) (x := (σ (83 + 57 * (bz ((σ 0) 1)) + 3 * x.toNatClampNeg))) rfl (sh_cont _ _ (bz_lt _) (inC_6 hp1)) rfl 2 (by decide) (hN.get 175 nw_175 rfl) (v := .int ((σ (83 + 57 * (bz ((σ 0) 1)) + 3 * x.toNatClampNeg)) 2)) rfl dX8_contract_71 ?_
        exact ret_i hx hb hr hlk hP hS dX8_contract_74 (⟨by first | with_reducible rfl | (simp only [contS, hp1, c2, ↓reduceIte, Bool.false_eq_true]; done) | (simp only [contS, hp1, c2, ↓reduceIte, Bool.false_eq_true]; rfl) | rfl, by first | with_reducible rfl | (simp only [contS, hp1, c2, ↓reduceIte, Bool.false_eq_true]; done) | (simp only [contS, hp1, c2, ↓reduceIte, Bool.false_eq_true]; rfl) | rfl, rfl⟩)
      · refine lv_tableIn (tgt := 75) hx hb dX8_contract_16 (by rw [c2]; decide) (by rw [c2]; decide) (by rw [c2]; rfl) (by decide) ?_
        refine lv_aload_n hx hb dX8_contract_75 rfl (lv_at hl 0 rfl) ?_
        refine fgetxN hx hb ht inG1 hown hK hP (k := (83 + 57 * (bz ((σ 0) 1)) + 3 * x.toNatClampNeg)) (by have b0_ : (bz ((σ 0) 1)) < 2 := (bz_lt _); have b1_ : x.toNatClampNeg < 6 := (inC_6 hp1); omega) (x := (σ (83 + 57 * (bz ((σ 0) 1)) + 3 * x.toNatClampNeg))) rfl (sh_cont _ _ (bz_lt _) (inC_6 hp1)) rfl 3 (by decide) (hN.get 177 nw_177 rfl) (v := .int ((σ (83 + 57 * (bz ((σ 0) 1)) + 3 * x.toNatClampNeg)) 3)) rfl dX8_contract_76 ?_
        exact ret_i hx hb hr hlk hP hS dX8_contract_79 (⟨by first | with_reducible rfl | (simp only [contS, hp1, c2, ↓reduceIte, Bool.false_eq_true]; done) | (simp only [contS, hp1, c2, ↓reduceIte, Bool.false_eq_true]; rfl) | rfl, by first | with_reducible rfl | (simp only [contS, hp1, c2, ↓reduceIte, Bool.false_eq_true]; done) | (simp only [contS, hp1, c2, ↓reduceIte, Bool.false_eq_true]; rfl) | rfl, rfl⟩)
      · refine lv_tableIn (tgt := 80) hx hb dX8_contract_16 (by rw [c2]; decide) (by rw [c2]; decide) (by rw [c2]; rfl) (by decide) ?_
        refine lv_aload_n hx hb dX8_contract_80 rfl (lv_at hl 0 rfl) ?_
        refine fgetxN hx hb ht inG1 hown hK hP (k := (83 + 57 * (bz ((σ 0) 1)) + 3 * x.toNatClampNeg)) (by have b0_ : (bz ((σ 0) 1)) < 2 := (bz_lt _); have b1_ : x.toNatClampNeg < 6 := (inC_6 hp1); omega) (x := (σ (83 + 57 * (bz ((σ 0) 1)) + 3 * x.toNatClampNeg))) rfl (sh_cont _ _ (bz_lt _) (inC_6 hp1)) rfl 4 (by decide) (hN.get 180 nw_180 rfl) (v := .int ((σ (83 + 57 * (bz ((σ 0) 1)) + 3 * x.toNatClampNeg)) 4)) rfl dX8_contract_81 ?_
        exact ret_i hx hb hr hlk hP hS dX8_contract_84 (⟨by first | with_reducible rfl | (simp only [contS, hp1, c2, ↓reduceIte, Bool.false_eq_true]; done) | (simp only [contS, hp1, c2, ↓reduceIte, Bool.false_eq_true]; rfl) | rfl, by first | with_reducible rfl | (simp only [contS, hp1, c2, ↓reduceIte, Bool.false_eq_true]; done) | (simp only [contS, hp1, c2, ↓reduceIte, Bool.false_eq_true]; rfl) | rfl, rfl⟩)
      · refine lv_tableIn (tgt := 85) hx hb dX8_contract_16 (by rw [c2]; decide) (by rw [c2]; decide) (by rw [c2]; rfl) (by decide) ?_
        refine lv_aload_n hx hb dX8_contract_85 rfl (lv_at hl 0 rfl) ?_
        refine fgetxN hx hb ht inG1 hown hK hP (k := (83 + 57 * (bz ((σ 0) 1)) + 3 * x.toNatClampNeg)) (by have b0_ : (bz ((σ 0) 1)) < 2 := (bz_lt _); have b1_ : x.toNatClampNeg < 6 := (inC_6 hp1); omega) (x := (σ (83 + 57 * (bz ((σ 0) 1)) + 3 * x.toNatClampNeg))) rfl (sh_cont _ _ (bz_lt _) (inC_6 hp1)) rfl 5 (by decide) (hN.get 183 nw_183 rfl) (v := .int ((σ (83 + 57 * (bz ((σ 0) 1)) + 3 * x.toNatClampNeg)) 5)) rfl dX8_contract_86 ?_
        refine lv_if_eq (tgt := 96) hx hb dX8_contract_89 (by decide) (fun c4 => ?_) (fun c4 => ?_)
        · have dc4 := c4
          rw [i_eq] at dc4
          refine lv_iconst (v := 0) hx hb dX8_contract_96 (by decide) ?_
          exact ret_i hx hb hr hlk hP hS dX8_contract_97 (⟨by first | with_reducible rfl | (simp only [contS, hp1, c2, c4, ↓reduceIte, Bool.false_eq_true]; done) | (simp only [contS, hp1, c2, c4, ↓reduceIte, Bool.false_eq_true]; rfl) | rfl, by first | with_reducible rfl | (simp only [contS, hp1, c2, c4, ↓reduceIte, Bool.false_eq_true]; done) | (simp only [contS, hp1, c2, c4, ↓reduceIte, Bool.false_eq_true]; rfl) | rfl, rfl⟩)
        · have dc4 := c4
          rw [i_eq] at dc4
          refine lv_iconst (v := 1) hx hb dX8_contract_92 (by decide) ?_
          refine lv_goto (tgt := 97) hx hb dX8_contract_93 (by decide) ?_
          exact ret_i hx hb hr hlk hP hS dX8_contract_97 (⟨by first | with_reducible rfl | (simp only [contS, hp1, c2, c4, ↓reduceIte, Bool.false_eq_true]; done) | (simp only [contS, hp1, c2, c4, ↓reduceIte, Bool.false_eq_true]; rfl) | rfl, by first | with_reducible rfl | (simp only [contS, hp1, c2, c4, ↓reduceIte, Bool.false_eq_true]; done) | (simp only [contS, hp1, c2, c4, ↓reduceIte, Bool.false_eq_true]; rfl) | rfl, rfl⟩)
      · refine lv_tableIn (tgt := 98) hx hb dX8_contract_16 (by rw [c2]; decide) (by rw [c2]; decide) (by rw [c2]; rfl) (by decide) ?_
        refine lv_aload_n hx hb dX8_contract_98 rfl (lv_at hl 0 rfl) ?_
        refine fgetxN hx hb ht inG1 hown hK hP (k := (83 + 57 * (bz ((σ 0) 1)) + 3 * x.toNatClampNeg)) (by have b0_ : (bz ((σ 0) 1)) < 2 := (bz_lt _); have b1_ : x.toNatClampNeg < 6 := (inC_6 hp1); omega) (x := (σ (83 + 57 * (bz ((σ 0) 1)) + 3 * x.toNatClampNeg))) rfl (sh_cont _ _ (bz_lt _) (inC_6 hp1)) rfl 6 (by decide) (hN.get 188 nw_188 rfl) (v := .int ((σ (83 + 57 * (bz ((σ 0) 1)) + 3 * x.toNatClampNeg)) 6)) rfl dX8_contract_99 ?_
        exact ret_i hx hb hr hlk hP hS dX8_contract_102 (⟨by first | with_reducible rfl | (simp only [contS, hp1, c2, ↓reduceIte, Bool.false_eq_true]; done) | (simp only [contS, hp1, c2, ↓reduceIte, Bool.false_eq_true]; rfl) | rfl, by first | with_reducible rfl | (simp only [contS, hp1, c2, ↓reduceIte, Bool.false_eq_true]; done) | (simp only [contS, hp1, c2, ↓reduceIte, Bool.false_eq_true]; rfl) | rfl, rfl⟩)
set_option maxHeartbeats 4000000 in
set_option maxRecDepth 100000 in
theorem c_X8_were (l : Launch) (D : va_G) (ca : Nat → ClassId) (ad : Nat → Nat) (hI : Inj 158 ad) (σ : MI) (τ : ML) (q x v : Int32) : CT l D (TY ca) 158 ad (cxf ca ad) yX8_were cX8_were 6 (some .int) 6 142 [.ref (ad 0), .int q, .int x, .int v] σ τ (fun v_ S_ T_ => some (.int (wereR σ q x v)) = v_ ∧ (wereM σ q x v) = S_ ∧ τ = T_) := by
  refine CT.of (by decide) (Nat.le_of_ble_eq_true rfl) ?_
  intro p e s m args below meth c hx hb hr ht hown hlk hml hP hK hN hS ls hl
  have hl : lv_has ls 6 [(0, .ref (ad 0)), (1, .int q), (2, .int x), (3, .int v)] := hl
  have hbz := bz_lt (σ 0 1)
  refine lv_aload_n hx hb dX8_were_0 rfl (lv_at hl 0 rfl) ?_
  refine fgetx hx hb ht inG8 hown hK hP (k := 0) (by decide) (x := (σ 0)) rfl (sh_desk _ _) rfl 1 (by decide) gw_352 (v := .ref (ad (44 + 57 * (bz ((σ 0) 1))))) rfl dX8_were_1 ?_
  refine lv_iload_n hx hb dX8_were_4 rfl (lv_at hl 1 rfl) ?_
  refine callv (y := yX0_contractAt) ⟨hx, hb, hml, hown, ht⟩ hK hN hP hS (k := (44 + 57 * (bz ((σ 0) 1)))) (c_X0_contractAt l D ca ad hI σ τ (bz_lt _) q) (by have b0_ : (bz ((σ 0) 1)) < 2 := (bz_lt _); omega) (sh_book _ _ (bz_lt _)) rfl ok_X0_contractAt gw_635 ⟨by decide, by decide⟩ rfl hl.1 rfl (Nat.le_of_ble_eq_true rfl) ⟨by decide, by decide⟩ dX8_were_5 (fun v_ S_ T_ H locs hp1 hP hS => ?_)
  rcases hp1 with ⟨hp1, rfl, rfl, rfl⟩ | ⟨hp1, rfl, rfl, rfl⟩
  · try dsimp only [Option.toList, List.cons_append, List.nil_append]
    refine lv_astoreN (lv' := [(4, .null), (0, .ref (ad 0)), (1, .int q), (2, .int x), (3, .int v)]) hx hb dX8_were_8 hl (by decide) rfl (fun ls hl => ?_)
    refine lv_aload_n hx hb dX8_were_10 rfl (lv_at hl 1 rfl) ?_
    refine fgetx hx hb ht inG8 hown hK hP (k := 0) (by decide) (x := (σ 0)) rfl (sh_desk _ _) rfl 1 (by decide) gw_352 (v := .ref (ad (44 + 57 * (bz ((σ 0) 1))))) rfl dX8_were_11 ?_
    refine lv_iload_n hx hb dX8_were_14 rfl (lv_at hl 3 rfl) ?_
    refine callv (y := yX0_indexAt) ⟨hx, hb, hml, hown, ht⟩ hK hN hP hS (k := (44 + 57 * (bz ((σ 0) 1)))) (c_X0_indexAt l D ca ad hI σ τ (bz_lt _) x) (by have b0_ : (bz ((σ 0) 1)) < 2 := (bz_lt _); omega) (sh_book _ _ (bz_lt _)) rfl ok_X0_indexAt gw_609 ⟨by decide, by decide⟩ rfl hl.1 rfl (Nat.le_of_ble_eq_true rfl) ⟨by decide, by decide⟩ dX8_were_15 (fun v_ S_ T_ H locs hp2 hP hS => ?_)
    rcases hp2 with ⟨hp2, rfl, rfl, rfl⟩ | ⟨hp2, rfl, rfl, rfl⟩
    · try dsimp only [Option.toList, List.cons_append, List.nil_append]
      refine lv_astoreN (lv' := [(5, .null), (4, .null), (0, .ref (ad 0)), (1, .int q), (2, .int x), (3, .int v)]) hx hb dX8_were_18 hl (by decide) rfl (fun ls hl => ?_)
      refine lv_aloadN hx hb dX8_were_20 (lv_at hl 1 rfl) ?_
      refine lv_ifnullN (tgt := 37) hx hb dX8_were_22 (by decide) ?_
      refine lv_iconst (v := -1) hx hb dX8_were_37 (by decide) ?_
      exact ret_i hx hb hr hlk hP hS dX8_were_38 (⟨by first | with_reducible rfl | (simp only [wereR, wereM, hp1, hp2, ↓reduceIte, Bool.false_eq_true]; done) | (simp only [wereR, wereM, hp1, hp2, ↓reduceIte, Bool.false_eq_true]; rfl) | rfl, by first | with_reducible rfl | (simp only [wereR, wereM, hp1, hp2, ↓reduceIte, Bool.false_eq_true]; done) | (simp only [wereR, wereM, hp1, hp2, ↓reduceIte, Bool.false_eq_true]; rfl) | rfl, rfl⟩)
    · try dsimp only [Option.toList, List.cons_append, List.nil_append]
      have hXhp2 := (inC_6 hp2)
      refine lv_astore (lv' := [(5, .ref (ad (47 + 57 * (bz ((σ 0) 1)) + 6 * x.toNatClampNeg))), (4, .null), (0, .ref (ad 0)), (1, .int q), (2, .int x), (3, .int v)]) hx hb dX8_were_18 hl (by decide) rfl (fun ls hl => ?_)
      refine lv_aloadN hx hb dX8_were_20 (lv_at hl 1 rfl) ?_
      refine lv_ifnullN (tgt := 37) hx hb dX8_were_22 (by decide) ?_
      refine lv_iconst (v := -1) hx hb dX8_were_37 (by decide) ?_
      exact ret_i hx hb hr hlk hP hS dX8_were_38 (⟨by first | with_reducible rfl | (simp only [wereR, wereM, hp1, hp2, ↓reduceIte, Bool.false_eq_true]; done) | (simp only [wereR, wereM, hp1, hp2, ↓reduceIte, Bool.false_eq_true]; rfl) | rfl, by first | with_reducible rfl | (simp only [wereR, wereM, hp1, hp2, ↓reduceIte, Bool.false_eq_true]; done) | (simp only [wereR, wereM, hp1, hp2, ↓reduceIte, Bool.false_eq_true]; rfl) | rfl, rfl⟩)
  · try dsimp only [Option.toList, List.cons_append, List.nil_append]
    have hXhp1 := (inC_6 hp1)
    refine lv_astore (lv' := [(4, .ref (ad (83 + 57 * (bz ((σ 0) 1)) + 3 * q.toNatClampNeg))), (0, .ref (ad 0)), (1, .int q), (2, .int x), (3, .int v)]) hx hb dX8_were_8 hl (by decide) rfl (fun ls hl => ?_)
    refine lv_aload_n hx hb dX8_were_10 rfl (lv_at hl 1 rfl) ?_
    refine fgetx hx hb ht inG8 hown hK hP (k := 0) (by decide) (x := (σ 0)) rfl (sh_desk _ _) rfl 1 (by decide) gw_352 (v := .ref (ad (44 + 57 * (bz ((σ 0) 1))))) rfl dX8_were_11 ?_
    refine lv_iload_n hx hb dX8_were_14 rfl (lv_at hl 3 rfl) ?_
    refine callv (y := yX0_indexAt) ⟨hx, hb, hml, hown, ht⟩ hK hN hP hS (k := (44 + 57 * (bz ((σ 0) 1)))) (c_X0_indexAt l D ca ad hI σ τ (bz_lt _) x) (by have b0_ : (bz ((σ 0) 1)) < 2 := (bz_lt _); omega) (sh_book _ _ (bz_lt _)) rfl ok_X0_indexAt gw_609 ⟨by decide, by decide⟩ rfl hl.1 rfl (Nat.le_of_ble_eq_true rfl) ⟨by decide, by decide⟩ dX8_were_15 (fun v_ S_ T_ H locs hp3 hP hS => ?_)
    rcases hp3 with ⟨hp3, rfl, rfl, rfl⟩ | ⟨hp3, rfl, rfl, rfl⟩
    · try dsimp only [Option.toList, List.cons_append, List.nil_append]
      refine lv_astoreN (lv' := [(5, .null), (4, .ref (ad (83 + 57 * (bz ((σ 0) 1)) + 3 * q.toNatClampNeg))), (0, .ref (ad 0)), (1, .int q), (2, .int x), (3, .int v)]) hx hb dX8_were_18 hl (by decide) rfl (fun ls hl => ?_)
      refine lv_aload hx hb dX8_were_20 (lv_at hl 1 rfl) ?_
      refine lv_ifnull hx hb dX8_were_22 ?_
      refine lv_aloadN hx hb dX8_were_25 (lv_at hl 0 rfl) ?_
      refine lv_ifnullN (tgt := 37) hx hb dX8_were_27 (by decide) ?_
      refine lv_iconst (v := -1) hx hb dX8_were_37 (by decide) ?_
      exact ret_i hx hb hr hlk hP hS dX8_were_38 (⟨by first | with_reducible rfl | (simp only [wereR, wereM, hp1, hp3, ↓reduceIte, Bool.false_eq_true]; done) | (simp only [wereR, wereM, hp1, hp3, ↓reduceIte, Bool.false_eq_true]; rfl) | rfl, by first | with_reducible rfl | (simp only [wereR, wereM, hp1, hp3, ↓reduceIte, Bool.false_eq_true]; done) | (simp only [wereR, wereM, hp1, hp3, ↓reduceIte, Bool.false_eq_true]; rfl) | rfl, rfl⟩)
    · try dsimp only [Option.toList, List.cons_append, List.nil_append]
      have hXhp3 := (inC_6 hp3)
      refine lv_astore (lv' := [(5, .ref (ad (47 + 57 * (bz ((σ 0) 1)) + 6 * x.toNatClampNeg))), (4, .ref (ad (83 + 57 * (bz ((σ 0) 1)) + 3 * q.toNatClampNeg))), (0, .ref (ad 0)), (1, .int q), (2, .int x), (3, .int v)]) hx hb dX8_were_18 hl (by decide) rfl (fun ls hl => ?_)
      refine lv_aload hx hb dX8_were_20 (lv_at hl 1 rfl) ?_
      refine lv_ifnull hx hb dX8_were_22 ?_
      refine lv_aload hx hb dX8_were_25 (lv_at hl 0 rfl) ?_
      refine lv_ifnull hx hb dX8_were_27 ?_
      refine lv_iload_n hx hb dX8_were_30 rfl (lv_at hl 5 rfl) ?_
      refine calls (y := yX8_isValue) ⟨hx, hb, hml, hown, ht⟩ hK hN hP hS (c_X8_isValue l D ca ad hI σ τ v) ok_X8_isValue gw_647 ⟨by decide, by decide⟩ rfl hl.1 rfl (Nat.le_of_ble_eq_true rfl) ⟨by decide, by decide⟩ dX8_were_31 (fun v_ S_ T_ H locs hp4 hP hS => ?_)
      obtain ⟨rfl, rfl, rfl⟩ := hp4
      try dsimp only [Option.toList, List.cons_append, List.nil_append]
      refine br_ne (tgt := 39) hx hb dX8_were_34 (by decide) (fun c5 => ?_) (fun c5 => ?_)
      · refine lv_aload_n hx hb dX8_were_39 rfl (lv_at hl 2 rfl) ?_
        refine fgetx hx hb ht inG8 hown hK hP (k := 0) (by decide) (x := (σ 0)) rfl (sh_desk _ _) rfl 1 (by decide) gw_352 (v := .ref (ad (44 + 57 * (bz ((σ 0) 1))))) rfl dX8_were_40 ?_
        refine lv_aload hx hb dX8_were_43 (lv_at hl 1 rfl) ?_
        refine lv_aload hx hb dX8_were_45 (lv_at hl 0 rfl) ?_
        refine lv_iload_n hx hb dX8_were_47 rfl (lv_at hl 5 rfl) ?_
        refine callv (y := yX0_priceWere) ⟨hx, hb, hml, hown, ht⟩ hK hN hP hS (k := (44 + 57 * (bz ((σ 0) 1)))) (c_X0_priceWere l D ca ad hI σ τ (bz_lt _) (inC_6 hp1) (inC_6 hp3) v) (by have b0_ : (bz ((σ 0) 1)) < 2 := (bz_lt _); omega) (sh_book _ _ (bz_lt _)) rfl ok_X0_priceWere gw_650 ⟨by decide, by decide⟩ rfl hl.1 rfl (Nat.le_of_ble_eq_true rfl) ⟨by decide, by decide⟩ dX8_were_48 (fun v_ S_ T_ H locs hp6 hP hS => ?_)
        obtain ⟨rfl, rfl, rfl⟩ := hp6
        try dsimp only [Option.toList, List.cons_append, List.nil_append]
        exact ret_i hx hb hr hlk hP hS dX8_were_51 (⟨by first | with_reducible rfl | (simp only [wereR, wereM, hp1, hp3, c5, ↓reduceIte, Bool.false_eq_true]; done) | (simp only [wereR, wereM, hp1, hp3, c5, ↓reduceIte, Bool.false_eq_true]; rfl) | rfl, by first | with_reducible rfl | (simp only [wereR, wereM, hp1, hp3, c5, ↓reduceIte, Bool.false_eq_true]; done) | (simp only [wereR, wereM, hp1, hp3, c5, ↓reduceIte, Bool.false_eq_true]; rfl) | rfl, rfl⟩)
      · refine lv_iconst (v := -1) hx hb dX8_were_37 (by decide) ?_
        exact ret_i hx hb hr hlk hP hS dX8_were_38 (⟨by first | with_reducible rfl | (simp only [wereR, wereM, hp1, hp3, c5, ↓reduceIte, Bool.false_eq_true]; done) | (simp only [wereR, wereM, hp1, hp3, c5, ↓reduceIte, Bool.false_eq_true]; rfl) | rfl, by first | with_reducible rfl | (simp only [wereR, wereM, hp1, hp3, c5, ↓reduceIte, Bool.false_eq_true]; done) | (simp only [wereR, wereM, hp1, hp3, c5, ↓reduceIte, Bool.false_eq_true]; rfl) | rfl, rfl⟩)
set_option maxHeartbeats 4000000 in
set_option maxRecDepth 100000 in
theorem c_X8_delivery (l : Launch) (D : va_G) (ca : Nat → ClassId) (ad : Nat → Nat) (hI : Inj 158 ad) (σ : MI) (τ : ML) (x w : Int32) : CT l D (TY ca) 158 ad (cxf ca ad) yX8_delivery cX8_delivery 4 (some .int) 3 67 [.ref (ad 0), .int x, .int w] σ τ (fun v_ S_ T_ => some (.int (deliS σ x w)) = v_ ∧ σ = S_ ∧ τ = T_) := by
  refine CT.of (by decide) (Nat.le_of_ble_eq_true rfl) ?_
  intro p e s m args below meth c hx hb hr ht hown hlk hml hP hK hN hS ls hl
  have hl : lv_has ls 4 [(0, .ref (ad 0)), (1, .int x), (2, .int w)] := hl
  have hbz := bz_lt (σ 0 1)
  refine lv_aload_n hx hb dX8_delivery_0 rfl (lv_at hl 0 rfl) ?_
  refine fgetx hx hb ht inG8 hown hK hP (k := 0) (by decide) (x := (σ 0)) rfl (sh_desk _ _) rfl 2 (by decide) gw_353 (v := .ref (ad 12)) rfl dX8_delivery_1 ?_
  refine lv_iload_n hx hb dX8_delivery_4 rfl (lv_at hl 1 rfl) ?_
  refine callv (y := yX5_rowAt) ⟨hx, hb, hml, hown, ht⟩ hK hN hP hS (k := 12) (c_X5_rowAt l D ca ad hI σ τ x) (by decide) (sh_ledg _ _) rfl ok_X5_rowAt gw_702 ⟨by decide, by decide⟩ rfl hl.1 rfl (Nat.le_of_ble_eq_true rfl) ⟨by decide, by decide⟩ dX8_delivery_5 (fun v_ S_ T_ H locs hp1 hP hS => ?_)
  rcases hp1 with ⟨hp1, rfl, rfl, rfl⟩ | ⟨hp1, rfl, rfl, rfl⟩
  · try dsimp only [Option.toList, List.cons_append, List.nil_append]
    refine lv_astore_nN (lv' := [(3, .null), (0, .ref (ad 0)), (1, .int x), (2, .int w)]) hx hb dX8_delivery_8 rfl hl (by decide) rfl (fun ls hl => ?_)
    refine lv_aload_nN hx hb dX8_delivery_9 rfl (lv_at hl 0 rfl) ?_
    refine lv_ifnonnullN hx hb dX8_delivery_10 ?_
    refine lv_iconst (v := -1) hx hb dX8_delivery_13 (by decide) ?_
    exact ret_i hx hb hr hlk hP hS dX8_delivery_14 (⟨by first | with_reducible rfl | (simp only [deliS, hp1, ↓reduceIte, Bool.false_eq_true]; done) | (simp only [deliS, hp1, ↓reduceIte, Bool.false_eq_true]; rfl) | rfl, by first | with_reducible rfl | (simp only [deliS, hp1, ↓reduceIte, Bool.false_eq_true]; done) | (simp only [deliS, hp1, ↓reduceIte, Bool.false_eq_true]; rfl) | rfl, rfl⟩)
  · try dsimp only [Option.toList, List.cons_append, List.nil_append]
    have hXhp1 := (inC_30 hp1)
    refine lv_astore_n (lv' := [(3, .ref (ad (14 + x.toNatClampNeg))), (0, .ref (ad 0)), (1, .int x), (2, .int w)]) hx hb dX8_delivery_8 rfl hl (by decide) rfl (fun ls hl => ?_)
    refine lv_aload_n hx hb dX8_delivery_9 rfl (lv_at hl 0 rfl) ?_
    refine lv_ifnonnull (tgt := 15) hx hb dX8_delivery_10 (by decide) ?_
    refine lv_iload_n hx hb dX8_delivery_15 rfl (lv_at hl 3 rfl) ?_
    rcases tab_cases w 9 (by decide) with c2 | ⟨k_, hk_, c2⟩
    · refine lv_tableOut (tgt := 143) hx hb dX8_delivery_16 (by omega) (by decide) ?_
      refine lv_iconst (v := -1) hx hb dX8_delivery_143 (by decide) ?_
      exact ret_i hx hb hr hlk hP hS dX8_delivery_144 (⟨by first | with_reducible rfl | (simp only [deliS, hp1, swt_out c2, ↓reduceIte, Bool.false_eq_true]; done) | (simp only [deliS, hp1, swt_out c2, ↓reduceIte, Bool.false_eq_true]; rfl) | rfl, by first | with_reducible rfl | (simp only [deliS, hp1, swt_out c2, ↓reduceIte, Bool.false_eq_true]; done) | (simp only [deliS, hp1, swt_out c2, ↓reduceIte, Bool.false_eq_true]; rfl) | rfl, rfl⟩)
    · rcases (by omega : k_ = 0 ∨ k_ = 1 ∨ k_ = 2 ∨ k_ = 3 ∨ k_ = 4 ∨ k_ = 5 ∨ k_ = 6 ∨ k_ = 7 ∨ k_ = 8) with rfl | rfl | rfl | rfl | rfl | rfl | rfl | rfl | rfl
      · refine lv_tableIn (tgt := 68) hx hb dX8_delivery_16 (by rw [c2]; decide) (by rw [c2]; decide) (by rw [c2]; rfl) (by decide) ?_
        refine lv_aload_n hx hb dX8_delivery_68 rfl (lv_at hl 0 rfl) ?_
        refine fgetxN hx hb ht inG2 hown hK hP (k := (14 + x.toNatClampNeg)) (by have b0_ : x.toNatClampNeg < 30 := (inC_30 hp1); omega) (x := (σ (14 + x.toNatClampNeg))) rfl (sh_deli _ _ (inC_30 hp1)) rfl 0 (by decide) (hN.get 273 nw_273 rfl) (v := .int ((σ (14 + x.toNatClampNeg)) 0)) rfl dX8_delivery_69 ?_
        exact ret_i hx hb hr hlk hP hS dX8_delivery_72 (⟨by first | with_reducible rfl | (simp only [deliS, hp1, c2, ↓reduceIte, Bool.false_eq_true]; done) | (simp only [deliS, hp1, c2, ↓reduceIte, Bool.false_eq_true]; rfl) | rfl, by first | with_reducible rfl | (simp only [deliS, hp1, c2, ↓reduceIte, Bool.false_eq_true]; done) | (simp only [deliS, hp1, c2, ↓reduceIte, Bool.false_eq_true]; rfl) | rfl, rfl⟩)
      · refine lv_tableIn (tgt := 73) hx hb dX8_delivery_16 (by rw [c2]; decide) (by rw [c2]; decide) (by rw [c2]; rfl) (by decide) ?_
        refine lv_aload_n hx hb dX8_delivery_73 rfl (lv_at hl 0 rfl) ?_
        refine fgetxN hx hb ht inG2 hown hK hP (k := (14 + x.toNatClampNeg)) (by have b0_ : x.toNatClampNeg < 30 := (inC_30 hp1); omega) (x := (σ (14 + x.toNatClampNeg))) rfl (sh_deli _ _ (inC_30 hp1)) rfl 1 (by decide) (hN.get 275 nw_275 rfl) (v := .int ((σ (14 + x.toNatClampNeg)) 1)) rfl dX8_delivery_74 ?_
        exact ret_i hx hb hr hlk hP hS dX8_delivery_77 (⟨by first | with_reducible rfl | (simp only [deliS, hp1, c2, ↓reduceIte, Bool.false_eq_true]; done) | (simp only [deliS, hp1, c2, ↓reduceIte, Bool.false_eq_true]; rfl) | rfl, by first | with_reducible rfl | (simp only [deliS, hp1, c2, ↓reduceIte, Bool.false_eq_true]; done) | (simp only [deliS, hp1, c2, ↓reduceIte, Bool.false_eq_true]; rfl) | rfl, rfl⟩)
      · refine lv_tableIn (tgt := 78) hx hb dX8_delivery_16 (by rw [c2]; decide) (by rw [c2]; decide) (by rw [c2]; rfl) (by decide) ?_
        refine lv_aload_n hx hb dX8_delivery_78 rfl (lv_at hl 0 rfl) ?_
        refine fgetxN hx hb ht inG2 hown hK hP (k := (14 + x.toNatClampNeg)) (by have b0_ : x.toNatClampNeg < 30 := (inC_30 hp1); omega) (x := (σ (14 + x.toNatClampNeg))) rfl (sh_deli _ _ (inC_30 hp1)) rfl 2 (by decide) (hN.get 278 nw_278 rfl) (v := .int ((σ (14 + x.toNatClampNeg)) 2)) rfl dX8_delivery_79 ?_
        exact ret_i hx hb hr hlk hP hS dX8_delivery_82 (⟨by first | with_reducible rfl | (simp only [deliS, hp1, c2, ↓reduceIte, Bool.false_eq_true]; done) | (simp only [deliS, hp1, c2, ↓reduceIte, Bool.false_eq_true]; rfl) | rfl, by first | with_reducible rfl | (simp only [deliS, hp1, c2, ↓reduceIte, Bool.false_eq_true]; done) | (simp only [deliS, hp1, c2, ↓reduceIte, Bool.false_eq_true]; rfl) | rfl, rfl⟩)
      · refine lv_tableIn (tgt := 83) hx hb dX8_delivery_16 (by rw [c2]; decide) (by rw [c2]; decide) (by rw [c2]; rfl) (by decide) ?_
        refine lv_aload_n hx hb dX8_delivery_83 rfl (lv_at hl 0 rfl) ?_
        refine fgetxN hx hb ht inG2 hown hK hP (k := (14 + x.toNatClampNeg)) (by have b0_ : x.toNatClampNeg < 30 := (inC_30 hp1); omega) (x := (σ (14 + x.toNatClampNeg))) rfl (sh_deli _ _ (inC_30 hp1)) rfl 3 (by decide) (hN.get 280 nw_280 rfl) (v := .int ((σ (14 + x.toNatClampNeg)) 3)) rfl dX8_delivery_84 ?_
        exact ret_i hx hb hr hlk hP hS dX8_delivery_87 (⟨by first | with_reducible rfl | (simp only [deliS, hp1, c2, ↓reduceIte, Bool.false_eq_true]; done) | (simp only [deliS, hp1, c2, ↓reduceIte, Bool.false_eq_true]; rfl) | rfl, by first | with_reducible rfl | (simp only [deliS, hp1, c2, ↓reduceIte, Bool.false_eq_true]; done) | (simp only [deliS, hp1, c2, ↓reduceIte, Bool.false_eq_true]; rfl) | rfl, rfl⟩)
      · refine lv_tableIn (tgt := 88) hx hb dX8_delivery_16 (by rw [c2]; decide) (by rw [c2]; decide) (by rw [c2]; rfl) (by decide) ?_
        refine lv_aload_n hx hb dX8_delivery_88 rfl (lv_at hl 0 rfl) ?_
        refine fgetxN hx hb ht inG2 hown hK hP (k := (14 + x.toNatClampNeg)) (by have b0_ : x.toNatClampNeg < 30 := (inC_30 hp1); omega) (x := (σ (14 + x.toNatClampNeg))) rfl (sh_deli _ _ (inC_30 hp1)) rfl 4 (by decide) (hN.get 283 nw_283 rfl) (v := .int ((σ (14 + x.toNatClampNeg)) 4)) rfl dX8_delivery_89 ?_
        exact ret_i hx hb hr hlk hP hS dX8_delivery_92 (⟨by first | with_reducible rfl | (simp only [deliS, hp1, c2, ↓reduceIte, Bool.false_eq_true]; done) | (simp only [deliS, hp1, c2, ↓reduceIte, Bool.false_eq_true]; rfl) | rfl, by first | with_reducible rfl | (simp only [deliS, hp1, c2, ↓reduceIte, Bool.false_eq_true]; done) | (simp only [deliS, hp1, c2, ↓reduceIte, Bool.false_eq_true]; rfl) | rfl, rfl⟩)
      · refine lv_tableIn (tgt := 93) hx hb dX8_delivery_16 (by rw [c2]; decide) (by rw [c2]; decide) (by rw [c2]; rfl) (by decide) ?_
        refine lv_aload_n hx hb dX8_delivery_93 rfl (lv_at hl 0 rfl) ?_
        refine fgetxN hx hb ht inG2 hown hK hP (k := (14 + x.toNatClampNeg)) (by have b0_ : x.toNatClampNeg < 30 := (inC_30 hp1); omega) (x := (σ (14 + x.toNatClampNeg))) rfl (sh_deli _ _ (inC_30 hp1)) rfl 5 (by decide) (hN.get 285 nw_285 rfl) (v := .int ((σ (14 + x.toNatClampNeg)) 5)) rfl dX8_delivery_94 ?_
        exact ret_i hx hb hr hlk hP hS dX8_delivery_97 (⟨by first | with_reducible rfl | (simp only [deliS, hp1, c2, ↓reduceIte, Bool.false_eq_true]; done) | (simp only [deliS, hp1, c2, ↓reduceIte, Bool.false_eq_true]; rfl) | rfl, by first | with_reducible rfl | (simp only [deliS, hp1, c2, ↓reduceIte, Bool.false_eq_true]; done) | (simp only [deliS, hp1, c2, ↓reduceIte, Bool.false_eq_true]; rfl) | rfl, rfl⟩)
      · refine lv_tableIn (tgt := 98) hx hb dX8_delivery_16 (by rw [c2]; decide) (by rw [c2]; decide) (by rw [c2]; rfl) (by decide) ?_
        refine lv_aload_n hx hb dX8_delivery_98 rfl (lv_at hl 0 rfl) ?_
        refine callv (y := yX2_isSettled) ⟨hx, hb, hml, hown, ht⟩ hK hN hP hS (k := (14 + x.toNatClampNeg)) (c_X2_isSettled l D ca ad hI σ τ (inC_30 hp1)) (by have b0_ : x.toNatClampNeg < 30 := (inC_30 hp1); omega) (sh_deli _ _ (inC_30 hp1)) rfl ok_X2_isSettled gw_706 ⟨by decide, by decide⟩ rfl hl.1 rfl (Nat.le_of_ble_eq_true rfl) ⟨by decide, by decide⟩ dX8_delivery_99 (fun v_ S_ T_ H locs hp3 hP hS => ?_)
        obtain ⟨rfl, rfl, rfl⟩ := hp3
        try dsimp only [Option.toList, List.cons_append, List.nil_append]
        refine br_eq (tgt := 109) hx hb dX8_delivery_102 (by decide) (fun c4 => ?_) (fun c4 => ?_)
        · refine lv_iconst (v := 0) hx hb dX8_delivery_109 (by decide) ?_
          exact ret_i hx hb hr hlk hP hS dX8_delivery_110 (⟨by first | with_reducible rfl | (simp only [deliS, hp1, c2, c4, ↓reduceIte, Bool.false_eq_true]; done) | (simp only [deliS, hp1, c2, c4, ↓reduceIte, Bool.false_eq_true]; rfl) | rfl, by first | with_reducible rfl | (simp only [deliS, hp1, c2, c4, ↓reduceIte, Bool.false_eq_true]; done) | (simp only [deliS, hp1, c2, c4, ↓reduceIte, Bool.false_eq_true]; rfl) | rfl, rfl⟩)
        · refine lv_iconst (v := 1) hx hb dX8_delivery_105 (by decide) ?_
          refine lv_goto (tgt := 110) hx hb dX8_delivery_106 (by decide) ?_
          exact ret_i hx hb hr hlk hP hS dX8_delivery_110 (⟨by first | with_reducible rfl | (simp only [deliS, hp1, c2, c4, ↓reduceIte, Bool.false_eq_true]; done) | (simp only [deliS, hp1, c2, c4, ↓reduceIte, Bool.false_eq_true]; rfl) | rfl, by first | with_reducible rfl | (simp only [deliS, hp1, c2, c4, ↓reduceIte, Bool.false_eq_true]; done) | (simp only [deliS, hp1, c2, c4, ↓reduceIte, Bool.false_eq_true]; rfl) | rfl, rfl⟩)
      · refine lv_tableIn (tgt := 111) hx hb dX8_delivery_16 (by rw [c2]; decide) (by rw [c2]; decide) (by rw [c2]; rfl) (by decide) ?_
        refine lv_aload_n hx hb dX8_delivery_111 rfl (lv_at hl 0 rfl) ?_
        refine fgetxN hx hb ht inG2 hown hK hP (k := (14 + x.toNatClampNeg)) (by have b0_ : x.toNatClampNeg < 30 := (inC_30 hp1); omega) (x := (σ (14 + x.toNatClampNeg))) rfl (sh_deli _ _ (inC_30 hp1)) rfl 6 (by decide) (hN.get 288 nw_288 rfl) (v := .int ((σ (14 + x.toNatClampNeg)) 6)) rfl dX8_delivery_112 ?_
        exact ret_i hx hb hr hlk hP hS dX8_delivery_115 (⟨by first | with_reducible rfl | (simp only [deliS, hp1, c2, ↓reduceIte, Bool.false_eq_true]; done) | (simp only [deliS, hp1, c2, ↓reduceIte, Bool.false_eq_true]; rfl) | rfl, by first | with_reducible rfl | (simp only [deliS, hp1, c2, ↓reduceIte, Bool.false_eq_true]; done) | (simp only [deliS, hp1, c2, ↓reduceIte, Bool.false_eq_true]; rfl) | rfl, rfl⟩)
      · refine lv_tableIn (tgt := 116) hx hb dX8_delivery_16 (by rw [c2]; decide) (by rw [c2]; decide) (by rw [c2]; rfl) (by decide) ?_
        refine lv_aload_n hx hb dX8_delivery_116 rfl (lv_at hl 0 rfl) ?_
        refine callv (y := yX2_isSettled) ⟨hx, hb, hml, hown, ht⟩ hK hN hP hS (k := (14 + x.toNatClampNeg)) (c_X2_isSettled l D ca ad hI σ τ (inC_30 hp1)) (by have b0_ : x.toNatClampNeg < 30 := (inC_30 hp1); omega) (sh_deli _ _ (inC_30 hp1)) rfl ok_X2_isSettled gw_706 ⟨by decide, by decide⟩ rfl hl.1 rfl (Nat.le_of_ble_eq_true rfl) ⟨by decide, by decide⟩ dX8_delivery_117 (fun v_ S_ T_ H locs hp5 hP hS => ?_)
        obtain ⟨rfl, rfl, rfl⟩ := hp5
        try dsimp only [Option.toList, List.cons_append, List.nil_append]
        refine br_eq (tgt := 127) hx hb dX8_delivery_120 (by decide) (fun c6 => ?_) (fun c6 => ?_)
        · refine lv_aload_n hx hb dX8_delivery_127 rfl (lv_at hl 1 rfl) ?_
          refine fgetx hx hb ht inG8 hown hK hP (k := 0) (by decide) (x := (σ 0)) rfl (sh_desk _ _) rfl 1 (by decide) gw_352 (v := .ref (ad (44 + 57 * (bz ((σ 0) 1))))) rfl dX8_delivery_128 ?_
          refine lv_aload_n hx hb dX8_delivery_131 rfl (lv_at hl 0 rfl) ?_
          refine fgetxN hx hb ht inG2 hown hK hP (k := (14 + x.toNatClampNeg)) (by have b0_ : x.toNatClampNeg < 30 := (inC_30 hp1); omega) (x := (σ (14 + x.toNatClampNeg))) rfl (sh_deli _ _ (inC_30 hp1)) rfl 0 (by decide) (hN.get 273 nw_273 rfl) (v := .int ((σ (14 + x.toNatClampNeg)) 0)) rfl dX8_delivery_132 ?_
          refine lv_aload_n hx hb dX8_delivery_135 rfl (lv_at hl 0 rfl) ?_
          refine fgetxN hx hb ht inG2 hown hK hP (k := (14 + x.toNatClampNeg)) (by have b0_ : x.toNatClampNeg < 30 := (inC_30 hp1); omega) (x := (σ (14 + x.toNatClampNeg))) rfl (sh_deli _ _ (inC_30 hp1)) rfl 4 (by decide) (hN.get 283 nw_283 rfl) (v := .int ((σ (14 + x.toNatClampNeg)) 4)) rfl dX8_delivery_136 ?_
          refine callv (y := yX0_waitsFor) ⟨hx, hb, hml, hown, ht⟩ hK hN hP hS (k := (44 + 57 * (bz ((σ 0) 1)))) (c_X0_waitsFor l D ca ad hI σ τ (bz_lt _) ((σ (14 + x.toNatClampNeg)) 0) ((σ (14 + x.toNatClampNeg)) 4)) (by have b0_ : (bz ((σ 0) 1)) < 2 := (bz_lt _); omega) (sh_book _ _ (bz_lt _)) rfl ok_X0_waitsFor gw_707 ⟨by decide, by decide⟩ rfl hl.1 rfl (Nat.le_of_ble_eq_true rfl) ⟨by decide, by decide⟩ dX8_delivery_139 (fun v_ S_ T_ H locs hp7 hP hS => ?_)
          obtain ⟨rfl, rfl, rfl⟩ := hp7
          try dsimp only [Option.toList, List.cons_append, List.nil_append]
          exact ret_i hx hb hr hlk hP hS dX8_delivery_142 (⟨by first | with_reducible rfl | (simp only [deliS, hp1, c2, c6, ↓reduceIte, Bool.false_eq_true]; done) | (simp only [deliS, hp1, c2, c6, ↓reduceIte, Bool.false_eq_true]; rfl) | rfl, by first | with_reducible rfl | (simp only [deliS, hp1, c2, c6, ↓reduceIte, Bool.false_eq_true]; done) | (simp only [deliS, hp1, c2, c6, ↓reduceIte, Bool.false_eq_true]; rfl) | rfl, rfl⟩)
        · refine lv_iconst (v := 0) hx hb dX8_delivery_123 (by decide) ?_
          refine lv_goto (tgt := 142) hx hb dX8_delivery_124 (by decide) ?_
          exact ret_i hx hb hr hlk hP hS dX8_delivery_142 (⟨by first | with_reducible rfl | (simp only [deliS, hp1, c2, c6, ↓reduceIte, Bool.false_eq_true]; done) | (simp only [deliS, hp1, c2, c6, ↓reduceIte, Bool.false_eq_true]; rfl) | rfl, by first | with_reducible rfl | (simp only [deliS, hp1, c2, c6, ↓reduceIte, Bool.false_eq_true]; done) | (simp only [deliS, hp1, c2, c6, ↓reduceIte, Bool.false_eq_true]; rfl) | rfl, rfl⟩)
set_option maxHeartbeats 4000000 in
set_option maxRecDepth 100000 in
theorem c_X8_publish (l : Launch) (D : va_G) (ca : Nat → ClassId) (ad : Nat → Nat) (hI : Inj 158 ad) (σ : MI) (τ : ML) (x mo v : Int32) (f : Bool) : CT l D (TY ca) 158 ad (cxf ca ad) yX8_publish cX8_publish 8 (some .int) 2 49 [.ref (ad 0), .int x, .int mo, .int v, .int (b2i f)] σ τ (fun v_ S_ T_ => some (.int (pubR σ x mo v)) = v_ ∧ (pubM σ x mo v f) = S_ ∧ τ = T_) := by
  refine CT.of (by decide) (Nat.le_of_ble_eq_true rfl) ?_
  intro p e s m args below meth c hx hb hr ht hown hlk hml hP hK hN hS ls hl
  have hl : lv_has ls 8 [(0, .ref (ad 0)), (1, .int x), (2, .int mo), (3, .int v), (4, .int (b2i f))] := hl
  have hbz := bz_lt (σ 0 1)
  refine lv_aload_n hx hb dX8_publish_0 rfl (lv_at hl 0 rfl) ?_
  refine fgetx hx hb ht inG8 hown hK hP (k := 0) (by decide) (x := (σ 0)) rfl (sh_desk _ _) rfl 1 (by decide) gw_352 (v := .ref (ad (44 + 57 * (bz ((σ 0) 1))))) rfl dX8_publish_1 ?_
  refine lv_iload_n hx hb dX8_publish_4 rfl (lv_at hl 1 rfl) ?_
  refine callv (y := yX0_indexAt) ⟨hx, hb, hml, hown, ht⟩ hK hN hP hS (k := (44 + 57 * (bz ((σ 0) 1)))) (c_X0_indexAt l D ca ad hI σ τ (bz_lt _) x) (by have b0_ : (bz ((σ 0) 1)) < 2 := (bz_lt _); omega) (sh_book _ _ (bz_lt _)) rfl ok_X0_indexAt gw_609 ⟨by decide, by decide⟩ rfl hl.1 rfl (Nat.le_of_ble_eq_true rfl) ⟨by decide, by decide⟩ dX8_publish_5 (fun v_ S_ T_ H locs hp1 hP hS => ?_)
  rcases hp1 with ⟨hp1, rfl, rfl, rfl⟩ | ⟨hp1, rfl, rfl, rfl⟩
  · try dsimp only [Option.toList, List.cons_append, List.nil_append]
    refine lv_astoreN (lv' := [(5, .null), (0, .ref (ad 0)), (1, .int x), (2, .int mo), (3, .int v), (4, .int (b2i f))]) hx hb dX8_publish_8 hl (by decide) rfl (fun ls hl => ?_)
    refine lv_aloadN hx hb dX8_publish_10 (lv_at hl 0 rfl) ?_
    refine lv_ifnullN (tgt := 33) hx hb dX8_publish_12 (by decide) ?_
    refine lv_iconst (v := -1) hx hb dX8_publish_33 (by decide) ?_
    exact ret_i hx hb hr hlk hP hS dX8_publish_34 (⟨by first | with_reducible rfl | (simp only [pubR, pubM, pubA, ne02, hp1, ↓reduceIte, Bool.false_eq_true]; done) | (simp only [pubR, pubM, pubA, ne02, hp1, ↓reduceIte, Bool.false_eq_true]; rfl) | rfl, by first | with_reducible rfl | (simp only [pubR, pubM, pubA, ne02, hp1, ↓reduceIte, Bool.false_eq_true]; done) | (simp only [pubR, pubM, pubA, ne02, hp1, ↓reduceIte, Bool.false_eq_true]; rfl) | rfl, rfl⟩)
  · try dsimp only [Option.toList, List.cons_append, List.nil_append]
    have hXhp1 := (inC_6 hp1)
    refine lv_astore (lv' := [(5, .ref (ad (47 + 57 * (bz ((σ 0) 1)) + 6 * x.toNatClampNeg))), (0, .ref (ad 0)), (1, .int x), (2, .int mo), (3, .int v), (4, .int (b2i f))]) hx hb dX8_publish_8 hl (by decide) rfl (fun ls hl => ?_)
    refine lv_aload hx hb dX8_publish_10 (lv_at hl 0 rfl) ?_
    refine lv_ifnull hx hb dX8_publish_12 ?_
    refine lv_aload_n hx hb dX8_publish_15 rfl (lv_at hl 1 rfl) ?_
    refine fgetx hx hb ht inG8 hown hK hP (k := 0) (by decide) (x := (σ 0)) rfl (sh_desk _ _) rfl 1 (by decide) gw_352 (v := .ref (ad (44 + 57 * (bz ((σ 0) 1))))) rfl dX8_publish_16 ?_
    refine lv_iload_n hx hb dX8_publish_19 rfl (lv_at hl 3 rfl) ?_
    refine callv (y := yX0_isPast) ⟨hx, hb, hml, hown, ht⟩ hK hN hP hS (k := (44 + 57 * (bz ((σ 0) 1)))) (c_X0_isPast l D ca ad hI σ τ (bz_lt _) mo) (by have b0_ : (bz ((σ 0) 1)) < 2 := (bz_lt _); omega) (sh_book _ _ (bz_lt _)) rfl ok_X0_isPast gw_716 ⟨by decide, by decide⟩ rfl hl.1 rfl (Nat.le_of_ble_eq_true rfl) ⟨by decide, by decide⟩ dX8_publish_20 (fun v_ S_ T_ H locs hp2 hP hS => ?_)
    obtain ⟨rfl, rfl, rfl⟩ := hp2
    try dsimp only [Option.toList, List.cons_append, List.nil_append]
    refine br_eq (tgt := 33) hx hb dX8_publish_23 (by decide) (fun c3 => ?_) (fun c3 => ?_)
    · refine lv_iconst (v := -1) hx hb dX8_publish_33 (by decide) ?_
      exact ret_i hx hb hr hlk hP hS dX8_publish_34 (⟨by first | with_reducible rfl | (simp only [pubR, pubM, pubA, ne02, hp1, c3, ↓reduceIte, Bool.false_eq_true]; done) | (simp only [pubR, pubM, pubA, ne02, hp1, c3, ↓reduceIte, Bool.false_eq_true]; rfl) | rfl, by first | with_reducible rfl | (simp only [pubR, pubM, pubA, ne02, hp1, c3, ↓reduceIte, Bool.false_eq_true]; done) | (simp only [pubR, pubM, pubA, ne02, hp1, c3, ↓reduceIte, Bool.false_eq_true]; rfl) | rfl, rfl⟩)
    · refine lv_iload_n hx hb dX8_publish_26 rfl (lv_at hl 4 rfl) ?_
      refine calls (y := yX8_isValue) ⟨hx, hb, hml, hown, ht⟩ hK hN hP hS (c_X8_isValue l D ca ad hI σ τ v) ok_X8_isValue gw_647 ⟨by decide, by decide⟩ rfl hl.1 rfl (Nat.le_of_ble_eq_true rfl) ⟨by decide, by decide⟩ dX8_publish_27 (fun v_ S_ T_ H locs hp4 hP hS => ?_)
      obtain ⟨rfl, rfl, rfl⟩ := hp4
      try dsimp only [Option.toList, List.cons_append, List.nil_append]
      refine br_ne (tgt := 35) hx hb dX8_publish_30 (by decide) (fun c5 => ?_) (fun c5 => ?_)
      · refine lv_aload hx hb dX8_publish_35 (lv_at hl 0 rfl) ?_
        refine lv_iload_n hx hb dX8_publish_37 rfl (lv_at hl 3 rfl) ?_
        refine callv (y := yX4_kindAt) ⟨hx, hb, hml, hown, ht⟩ hK hN hP hS (k := (47 + 57 * (bz ((σ 0) 1)) + 6 * x.toNatClampNeg)) (c_X4_kindAt l D ca ad hI σ τ (bz_lt _) (inC_6 hp1) mo) (by have b0_ : (bz ((σ 0) 1)) < 2 := (bz_lt _); have b1_ : x.toNatClampNeg < 6 := (inC_6 hp1); omega) (sh_indx _ _ (bz_lt _) (inC_6 hp1)) rfl ok_X4_kindAt gw_615 ⟨by decide, by decide⟩ rfl hl.1 rfl (Nat.le_of_ble_eq_true rfl) ⟨by decide, by decide⟩ dX8_publish_38 (fun v_ S_ T_ H locs hp6 hP hS => ?_)
        obtain ⟨rfl, rfl, rfl⟩ := hp6
        try dsimp only [Option.toList, List.cons_append, List.nil_append]
        refine lv_istore (lv' := [(6, .int (kindS (σ (49 + 57 * (bz ((σ 0) 1)) + 6 * x.toNatClampNeg)) mo)), (5, .ref (ad (47 + 57 * (bz ((σ 0) 1)) + 6 * x.toNatClampNeg))), (0, .ref (ad 0)), (1, .int x), (2, .int mo), (3, .int v), (4, .int (b2i f))]) hx hb dX8_publish_41 hl (by decide) rfl (fun ls hl => ?_)
        refine lv_iload hx hb dX8_publish_43 (lv_at hl 0 rfl) ?_
        refine lv_iconst (v := 2) hx hb dX8_publish_45 (by decide) ?_
        refine lv_icmp_ne (tgt := 52) hx hb dX8_publish_46 (by decide) (fun c7 => ?_) (fun c7 => ?_)
        · have dc7 := c7
          rw [i_eq] at dc7
          refine lv_aload hx hb dX8_publish_52 (lv_at hl 1 rfl) ?_
          refine callv (y := yX4_latestRebasing) ⟨hx, hb, hml, hown, ht⟩ hK hN hP hS (k := (47 + 57 * (bz ((σ 0) 1)) + 6 * x.toNatClampNeg)) (c_X4_latestRebasing l D ca ad hI σ τ (bz_lt _) (inC_6 hp1)) (by have b0_ : (bz ((σ 0) 1)) < 2 := (bz_lt _); have b1_ : x.toNatClampNeg < 6 := (inC_6 hp1); omega) (sh_indx _ _ (bz_lt _) (inC_6 hp1)) rfl ok_X4_latestRebasing gw_720 ⟨by decide, by decide⟩ rfl hl.1 rfl (Nat.le_of_ble_eq_true rfl) ⟨by decide, by decide⟩ dX8_publish_54 (fun v_ S_ T_ H locs hp8 hP hS => ?_)
          obtain ⟨rfl, rfl, rfl⟩ := hp8
          try dsimp only [Option.toList, List.cons_append, List.nil_append]
          refine lv_iload_n hx hb dX8_publish_57 rfl (lv_at hl 4 rfl) ?_
          refine lv_icmp_lt (tgt := 64) hx hb dX8_publish_58 (by decide) (fun c9 => ?_) (fun c9 => ?_)
          · have dc9 := c9
            rw [i_lt] at dc9
            refine lv_iload hx hb dX8_publish_64 (lv_at hl 0 rfl) ?_
            refine lv_if_ne (tgt := 73) hx hb dX8_publish_66 (by decide) (fun c10 => ?_) (fun c10 => ?_)
            · have dc10 := c10
              rw [i_eq] at dc10
              refine lv_aload hx hb dX8_publish_73 (lv_at hl 1 rfl) ?_
              refine lv_iload_n hx hb dX8_publish_75 rfl (lv_at hl 4 rfl) ?_
              refine callv (y := yX4_valueAt) ⟨hx, hb, hml, hown, ht⟩ hK hN hP hS (k := (47 + 57 * (bz ((σ 0) 1)) + 6 * x.toNatClampNeg)) (c_X4_valueAt l D ca ad hI σ τ (bz_lt _) (inC_6 hp1) mo) (by have b0_ : (bz ((σ 0) 1)) < 2 := (bz_lt _); have b1_ : x.toNatClampNeg < 6 := (inC_6 hp1); omega) (sh_indx _ _ (bz_lt _) (inC_6 hp1)) rfl ok_X4_valueAt gw_611 ⟨by decide, by decide⟩ rfl hl.1 rfl (Nat.le_of_ble_eq_true rfl) ⟨by decide, by decide⟩ dX8_publish_76 (fun v_ S_ T_ H locs hp11 hP hS => ?_)
              obtain ⟨rfl, rfl, rfl⟩ := hp11
              try dsimp only [Option.toList, List.cons_append, List.nil_append]
              refine lv_istore (lv' := [(7, .int (valS (σ (48 + 57 * (bz ((σ 0) 1)) + 6 * x.toNatClampNeg)) (σ (49 + 57 * (bz ((σ 0) 1)) + 6 * x.toNatClampNeg)) mo)), (6, .int (kindS (σ (49 + 57 * (bz ((σ 0) 1)) + 6 * x.toNatClampNeg)) mo)), (5, .ref (ad (47 + 57 * (bz ((σ 0) 1)) + 6 * x.toNatClampNeg))), (0, .ref (ad 0)), (1, .int x), (2, .int mo), (3, .int v), (4, .int (b2i f))]) hx hb dX8_publish_79 hl (by decide) rfl (fun ls hl => ?_)
              refine lv_aload_n hx hb dX8_publish_81 rfl (lv_at hl 3 rfl) ?_
              refine fgetx hx hb ht inG8 hown hK hP (k := 0) (by decide) (x := (σ 0)) rfl (sh_desk _ _) rfl 3 (by decide) gw_354 (v := .ref (ad 6)) rfl dX8_publish_82 ?_
              refine lv_iconst (v := 0) hx hb dX8_publish_85 (by decide) ?_
              refine lv_iload_n hx hb dX8_publish_86 rfl (lv_at hl 4 rfl) ?_
              refine lv_iload_n hx hb dX8_publish_87 rfl (lv_at hl 5 rfl) ?_
              refine lv_iload hx hb dX8_publish_88 (lv_at hl 0 rfl) ?_
              refine lv_iload hx hb dX8_publish_90 (lv_at hl 1 rfl) ?_
              refine callv (y := yX3_keep) ⟨hx, hb, hml, hown, ht⟩ hK hN hP hS (k := 6) (c_X3_keep l D ca ad hI σ τ (0 : Int32) x mo (valS (σ (48 + 57 * (bz ((σ 0) 1)) + 6 * x.toNatClampNeg)) (σ (49 + 57 * (bz ((σ 0) 1)) + 6 * x.toNatClampNeg)) mo) (kindS (σ (49 + 57 * (bz ((σ 0) 1)) + 6 * x.toNatClampNeg)) mo)) (by decide) (sh_hist _ _) rfl ok_X3_keep gw_725 ⟨by decide, by decide⟩ rfl hl.1 rfl (Nat.le_of_ble_eq_true rfl) ⟨by decide, by decide⟩ dX8_publish_92 (fun v_ S_ T_ H locs hp12 hP hS => ?_)
              obtain ⟨rfl, rfl, rfl⟩ := hp12
              try dsimp only [Option.toList, List.cons_append, List.nil_append]
              refine lv_aload hx hb dX8_publish_95 (lv_at hl 2 rfl) ?_
              refine lv_iload_n hx hb dX8_publish_97 rfl (lv_at hl 5 rfl) ?_
              refine lv_iload_n hx hb dX8_publish_98 rfl (lv_at hl 6 rfl) ?_
              refine lv_iload hx hb dX8_publish_99 (lv_at hl 7 rfl) ?_
              refine br_eq (tgt := 108) hx hb dX8_publish_101 (by decide) (fun c13 => ?_) (fun c13 => ?_)
              · refine lv_iconst (v := 1) hx hb dX8_publish_108 (by decide) ?_
                refine callv (y := yX4_put) ⟨hx, hb, hml, hown, ht⟩ hK hN hP hS (k := (47 + 57 * (bz ((σ 0) 1)) + 6 * x.toNatClampNeg)) (c_X4_put l D ca ad hI (keepS σ (0 : Int32) x mo (valS (σ (48 + 57 * (bz ((σ 0) 1)) + 6 * x.toNatClampNeg)) (σ (49 + 57 * (bz ((σ 0) 1)) + 6 * x.toNatClampNeg)) mo) (kindS (σ (49 + 57 * (bz ((σ 0) 1)) + 6 * x.toNatClampNeg)) mo)) τ (bz_lt _) (inC_6 hp1) mo v (1 : Int32)) (by have b0_ : (bz ((σ 0) 1)) < 2 := (bz_lt _); have b1_ : x.toNatClampNeg < 6 := (inC_6 hp1); omega) (sh_indx _ _ (bz_lt _) (inC_6 hp1)) rfl ok_X4_put gw_730 ⟨by decide, by decide⟩ rfl hl.1 rfl (Nat.le_of_ble_eq_true rfl) ⟨by decide, by decide⟩ dX8_publish_109 (fun v_ S_ T_ H locs hp14 hP hS => ?_)
                obtain ⟨rfl, rfl, rfl⟩ := hp14
                try dsimp only [Option.toList, List.cons_append, List.nil_append]
                refine lv_iload hx hb dX8_publish_112 (lv_at hl 0 rfl) ?_
                exact ret_i hx hb hr hlk hP hS dX8_publish_114 (⟨by first | with_reducible rfl | (simp only [pubR, pubM, pubA, ne02, hp1, c3, c5, c7, c9, c10, c13, ↓reduceIte, Bool.false_eq_true]; done) | (simp only [pubR, pubM, pubA, ne02, hp1, c3, c5, c7, c9, c10, c13, ↓reduceIte, Bool.false_eq_true]; rfl) | rfl, by first | with_reducible rfl | (simp only [pubR, pubM, pubA, ne02, hp1, c3, c5, c7, c9, c10, c13, ↓reduceIte, Bool.false_eq_true]; done) | (simp only [pubR, pubM, pubA, ne02, hp1, c3, c5, c7, c9, c10, c13, ↓reduceIte, Bool.false_eq_true]; rfl) | rfl, rfl⟩)
              · refine lv_iconst (v := 2) hx hb dX8_publish_104 (by decide) ?_
                refine lv_goto (tgt := 109) hx hb dX8_publish_105 (by decide) ?_
                refine callv (y := yX4_put) ⟨hx, hb, hml, hown, ht⟩ hK hN hP hS (k := (47 + 57 * (bz ((σ 0) 1)) + 6 * x.toNatClampNeg)) (c_X4_put l D ca ad hI (keepS σ (0 : Int32) x mo (valS (σ (48 + 57 * (bz ((σ 0) 1)) + 6 * x.toNatClampNeg)) (σ (49 + 57 * (bz ((σ 0) 1)) + 6 * x.toNatClampNeg)) mo) (kindS (σ (49 + 57 * (bz ((σ 0) 1)) + 6 * x.toNatClampNeg)) mo)) τ (bz_lt _) (inC_6 hp1) mo v (2 : Int32)) (by have b0_ : (bz ((σ 0) 1)) < 2 := (bz_lt _); have b1_ : x.toNatClampNeg < 6 := (inC_6 hp1); omega) (sh_indx _ _ (bz_lt _) (inC_6 hp1)) rfl ok_X4_put gw_730 ⟨by decide, by decide⟩ rfl hl.1 rfl (Nat.le_of_ble_eq_true rfl) ⟨by decide, by decide⟩ dX8_publish_109 (fun v_ S_ T_ H locs hp15 hP hS => ?_)
                obtain ⟨rfl, rfl, rfl⟩ := hp15
                try dsimp only [Option.toList, List.cons_append, List.nil_append]
                refine lv_iload hx hb dX8_publish_112 (lv_at hl 0 rfl) ?_
                exact ret_i hx hb hr hlk hP hS dX8_publish_114 (⟨by first | with_reducible rfl | (simp only [pubR, pubM, pubA, ne02, hp1, c3, c5, c7, c9, c10, c13, ↓reduceIte, Bool.false_eq_true]; done) | (simp only [pubR, pubM, pubA, ne02, hp1, c3, c5, c7, c9, c10, c13, ↓reduceIte, Bool.false_eq_true]; rfl) | rfl, by first | with_reducible rfl | (simp only [pubR, pubM, pubA, ne02, hp1, c3, c5, c7, c9, c10, c13, ↓reduceIte, Bool.false_eq_true]; done) | (simp only [pubR, pubM, pubA, ne02, hp1, c3, c5, c7, c9, c10, c13, ↓reduceIte, Bool.false_eq_true]; rfl) | rfl, rfl⟩)
            · have dc10 := c10
              rw [i_eq] at dc10
              refine lv_iconst (v := 0) hx hb dX8_publish_69 (by decide) ?_
              refine lv_goto (tgt := 79) hx hb dX8_publish_70 (by decide) ?_
              refine lv_istore (lv' := [(7, .int 0), (6, .int (kindS (σ (49 + 57 * (bz ((σ 0) 1)) + 6 * x.toNatClampNeg)) mo)), (5, .ref (ad (47 + 57 * (bz ((σ 0) 1)) + 6 * x.toNatClampNeg))), (0, .ref (ad 0)), (1, .int x), (2, .int mo), (3, .int v), (4, .int (b2i f))]) hx hb dX8_publish_79 hl (by decide) rfl (fun ls hl => ?_)
              refine lv_aload_n hx hb dX8_publish_81 rfl (lv_at hl 3 rfl) ?_
              refine fgetx hx hb ht inG8 hown hK hP (k := 0) (by decide) (x := (σ 0)) rfl (sh_desk _ _) rfl 3 (by decide) gw_354 (v := .ref (ad 6)) rfl dX8_publish_82 ?_
              refine lv_iconst (v := 0) hx hb dX8_publish_85 (by decide) ?_
              refine lv_iload_n hx hb dX8_publish_86 rfl (lv_at hl 4 rfl) ?_
              refine lv_iload_n hx hb dX8_publish_87 rfl (lv_at hl 5 rfl) ?_
              refine lv_iload hx hb dX8_publish_88 (lv_at hl 0 rfl) ?_
              refine lv_iload hx hb dX8_publish_90 (lv_at hl 1 rfl) ?_
              refine callv (y := yX3_keep) ⟨hx, hb, hml, hown, ht⟩ hK hN hP hS (k := 6) (c_X3_keep l D ca ad hI σ τ (0 : Int32) x mo (0 : Int32) (kindS (σ (49 + 57 * (bz ((σ 0) 1)) + 6 * x.toNatClampNeg)) mo)) (by decide) (sh_hist _ _) rfl ok_X3_keep gw_725 ⟨by decide, by decide⟩ rfl hl.1 rfl (Nat.le_of_ble_eq_true rfl) ⟨by decide, by decide⟩ dX8_publish_92 (fun v_ S_ T_ H locs hp16 hP hS => ?_)
              obtain ⟨rfl, rfl, rfl⟩ := hp16
              try dsimp only [Option.toList, List.cons_append, List.nil_append]
              refine lv_aload hx hb dX8_publish_95 (lv_at hl 2 rfl) ?_
              refine lv_iload_n hx hb dX8_publish_97 rfl (lv_at hl 5 rfl) ?_
              refine lv_iload_n hx hb dX8_publish_98 rfl (lv_at hl 6 rfl) ?_
              refine lv_iload hx hb dX8_publish_99 (lv_at hl 7 rfl) ?_
              refine br_eq (tgt := 108) hx hb dX8_publish_101 (by decide) (fun c17 => ?_) (fun c17 => ?_)
              · refine lv_iconst (v := 1) hx hb dX8_publish_108 (by decide) ?_
                refine callv (y := yX4_put) ⟨hx, hb, hml, hown, ht⟩ hK hN hP hS (k := (47 + 57 * (bz ((σ 0) 1)) + 6 * x.toNatClampNeg)) (c_X4_put l D ca ad hI (keepS σ (0 : Int32) x mo (0 : Int32) (kindS (σ (49 + 57 * (bz ((σ 0) 1)) + 6 * x.toNatClampNeg)) mo)) τ (bz_lt _) (inC_6 hp1) mo v (1 : Int32)) (by have b0_ : (bz ((σ 0) 1)) < 2 := (bz_lt _); have b1_ : x.toNatClampNeg < 6 := (inC_6 hp1); omega) (sh_indx _ _ (bz_lt _) (inC_6 hp1)) rfl ok_X4_put gw_730 ⟨by decide, by decide⟩ rfl hl.1 rfl (Nat.le_of_ble_eq_true rfl) ⟨by decide, by decide⟩ dX8_publish_109 (fun v_ S_ T_ H locs hp18 hP hS => ?_)
                obtain ⟨rfl, rfl, rfl⟩ := hp18
                try dsimp only [Option.toList, List.cons_append, List.nil_append]
                refine lv_iload hx hb dX8_publish_112 (lv_at hl 0 rfl) ?_
                exact ret_i hx hb hr hlk hP hS dX8_publish_114 (⟨by first | with_reducible rfl | (simp only [pubR, pubM, pubA, ne02, hp1, c3, c5, c7, c9, c10, c17, ↓reduceIte, Bool.false_eq_true]; done) | (simp only [pubR, pubM, pubA, ne02, hp1, c3, c5, c7, c9, c10, c17, ↓reduceIte, Bool.false_eq_true]; rfl) | rfl, by first | with_reducible rfl | (simp only [pubR, pubM, pubA, ne02, hp1, c3, c5, c7, c9, c10, c17, ↓reduceIte, Bool.false_eq_true]; done) | (simp only [pubR, pubM, pubA, ne02, hp1, c3, c5, c7, c9, c10, c17, ↓reduceIte, Bool.false_eq_true]; rfl) | rfl, rfl⟩)
              · refine lv_iconst (v := 2) hx hb dX8_publish_104 (by decide) ?_
                refine lv_goto (tgt := 109) hx hb dX8_publish_105 (by decide) ?_
                refine callv (y := yX4_put) ⟨hx, hb, hml, hown, ht⟩ hK hN hP hS (k := (47 + 57 * (bz ((σ 0) 1)) + 6 * x.toNatClampNeg)) (c_X4_put l D ca ad hI (keepS σ (0 : Int32) x mo (0 : Int32) (kindS (σ (49 + 57 * (bz ((σ 0) 1)) + 6 * x.toNatClampNeg)) mo)) τ (bz_lt _) (inC_6 hp1) mo v (2 : Int32)) (by have b0_ : (bz ((σ 0) 1)) < 2 := (bz_lt _); have b1_ : x.toNatClampNeg < 6 := (inC_6 hp1); omega) (sh_indx _ _ (bz_lt _) (inC_6 hp1)) rfl ok_X4_put gw_730 ⟨by decide, by decide⟩ rfl hl.1 rfl (Nat.le_of_ble_eq_true rfl) ⟨by decide, by decide⟩ dX8_publish_109 (fun v_ S_ T_ H locs hp19 hP hS => ?_)
                obtain ⟨rfl, rfl, rfl⟩ := hp19
                try dsimp only [Option.toList, List.cons_append, List.nil_append]
                refine lv_iload hx hb dX8_publish_112 (lv_at hl 0 rfl) ?_
                exact ret_i hx hb hr hlk hP hS dX8_publish_114 (⟨by first | with_reducible rfl | (simp only [pubR, pubM, pubA, ne02, hp1, c3, c5, c7, c9, c10, c17, ↓reduceIte, Bool.false_eq_true]; done) | (simp only [pubR, pubM, pubA, ne02, hp1, c3, c5, c7, c9, c10, c17, ↓reduceIte, Bool.false_eq_true]; rfl) | rfl, by first | with_reducible rfl | (simp only [pubR, pubM, pubA, ne02, hp1, c3, c5, c7, c9, c10, c17, ↓reduceIte, Bool.false_eq_true]; done) | (simp only [pubR, pubM, pubA, ne02, hp1, c3, c5, c7, c9, c10, c17, ↓reduceIte, Bool.false_eq_true]; rfl) | rfl, rfl⟩)
          · have dc9 := c9
            rw [i_lt] at dc9
            refine lv_bipush (v := -3) hx hb dX8_publish_61 (by decide) ?_
            exact ret_i hx hb hr hlk hP hS dX8_publish_63 (⟨by first | with_reducible rfl | (simp only [pubR, pubM, pubA, ne02, hp1, c3, c5, c7, c9, ↓reduceIte, Bool.false_eq_true]; done) | (simp only [pubR, pubM, pubA, ne02, hp1, c3, c5, c7, c9, ↓reduceIte, Bool.false_eq_true]; rfl) | rfl, by first | with_reducible rfl | (simp only [pubR, pubM, pubA, ne02, hp1, c3, c5, c7, c9, ↓reduceIte, Bool.false_eq_true]; done) | (simp only [pubR, pubM, pubA, ne02, hp1, c3, c5, c7, c9, ↓reduceIte, Bool.false_eq_true]; rfl) | rfl, rfl⟩)
        · have dc7 := c7
          rw [i_eq] at dc7
          refine lv_bipush (v := -2) hx hb dX8_publish_49 (by decide) ?_
          exact ret_i hx hb hr hlk hP hS dX8_publish_51 (⟨by first | with_reducible rfl | (simp only [pubR, pubM, pubA, ne02, hp1, c3, c5, c7, ↓reduceIte, Bool.false_eq_true]; done) | (simp only [pubR, pubM, pubA, ne02, hp1, c3, c5, c7, ↓reduceIte, Bool.false_eq_true]; rfl) | rfl, by first | with_reducible rfl | (simp only [pubR, pubM, pubA, ne02, hp1, c3, c5, c7, ↓reduceIte, Bool.false_eq_true]; done) | (simp only [pubR, pubM, pubA, ne02, hp1, c3, c5, c7, ↓reduceIte, Bool.false_eq_true]; rfl) | rfl, rfl⟩)
      · refine lv_iconst (v := -1) hx hb dX8_publish_33 (by decide) ?_
        exact ret_i hx hb hr hlk hP hS dX8_publish_34 (⟨by first | with_reducible rfl | (simp only [pubR, pubM, pubA, ne02, hp1, c3, c5, ↓reduceIte, Bool.false_eq_true]; done) | (simp only [pubR, pubM, pubA, ne02, hp1, c3, c5, ↓reduceIte, Bool.false_eq_true]; rfl) | rfl, by first | with_reducible rfl | (simp only [pubR, pubM, pubA, ne02, hp1, c3, c5, ↓reduceIte, Bool.false_eq_true]; done) | (simp only [pubR, pubM, pubA, ne02, hp1, c3, c5, ↓reduceIte, Bool.false_eq_true]; rfl) | rfl, rfl⟩)
set_option maxHeartbeats 4000000 in
set_option maxRecDepth 100000 in
theorem c_X8_rebase (l : Launch) (D : va_G) (ca : Nat → ClassId) (ad : Nat → Nat) (hI : Inj 158 ad) (σ : MI) (τ : ML) (x mo v : Int32) : CT l D (TY ca) 158 ad (cxf ca ad) yX8_rebase cX8_rebase 5 (some .int) 3 63 [.ref (ad 0), .int x, .int mo, .int v] σ τ (fun v_ S_ T_ => some (.int (rebR σ x mo v)) = v_ ∧ (rebM σ x mo v) = S_ ∧ τ = T_) := by
  refine CT.of (by decide) (Nat.le_of_ble_eq_true rfl) ?_
  intro p e s m args below meth c hx hb hr ht hown hlk hml hP hK hN hS ls hl
  have hl : lv_has ls 5 [(0, .ref (ad 0)), (1, .int x), (2, .int mo), (3, .int v)] := hl
  have hbz := bz_lt (σ 0 1)
  refine lv_aload_n hx hb dX8_rebase_0 rfl (lv_at hl 0 rfl) ?_
  refine fgetx hx hb ht inG8 hown hK hP (k := 0) (by decide) (x := (σ 0)) rfl (sh_desk _ _) rfl 1 (by decide) gw_352 (v := .ref (ad (44 + 57 * (bz ((σ 0) 1))))) rfl dX8_rebase_1 ?_
  refine lv_iload_n hx hb dX8_rebase_4 rfl (lv_at hl 1 rfl) ?_
  refine callv (y := yX0_indexAt) ⟨hx, hb, hml, hown, ht⟩ hK hN hP hS (k := (44 + 57 * (bz ((σ 0) 1)))) (c_X0_indexAt l D ca ad hI σ τ (bz_lt _) x) (by have b0_ : (bz ((σ 0) 1)) < 2 := (bz_lt _); omega) (sh_book _ _ (bz_lt _)) rfl ok_X0_indexAt gw_609 ⟨by decide, by decide⟩ rfl hl.1 rfl (Nat.le_of_ble_eq_true rfl) ⟨by decide, by decide⟩ dX8_rebase_5 (fun v_ S_ T_ H locs hp1 hP hS => ?_)
  rcases hp1 with ⟨hp1, rfl, rfl, rfl⟩ | ⟨hp1, rfl, rfl, rfl⟩
  · try dsimp only [Option.toList, List.cons_append, List.nil_append]
    refine lv_astoreN (lv' := [(4, .null), (0, .ref (ad 0)), (1, .int x), (2, .int mo), (3, .int v)]) hx hb dX8_rebase_8 hl (by decide) rfl (fun ls hl => ?_)
    refine lv_aloadN hx hb dX8_rebase_10 (lv_at hl 0 rfl) ?_
    refine lv_ifnullN (tgt := 33) hx hb dX8_rebase_12 (by decide) ?_
    refine lv_iconst (v := -1) hx hb dX8_rebase_33 (by decide) ?_
    exact ret_i hx hb hr hlk hP hS dX8_rebase_34 (⟨by first | with_reducible rfl | (simp only [rebR, rebM, hp1, ↓reduceIte, Bool.false_eq_true]; done) | (simp only [rebR, rebM, hp1, ↓reduceIte, Bool.false_eq_true]; rfl) | rfl, by first | with_reducible rfl | (simp only [rebR, rebM, hp1, ↓reduceIte, Bool.false_eq_true]; done) | (simp only [rebR, rebM, hp1, ↓reduceIte, Bool.false_eq_true]; rfl) | rfl, rfl⟩)
  · try dsimp only [Option.toList, List.cons_append, List.nil_append]
    have hXhp1 := (inC_6 hp1)
    refine lv_astore (lv' := [(4, .ref (ad (47 + 57 * (bz ((σ 0) 1)) + 6 * x.toNatClampNeg))), (0, .ref (ad 0)), (1, .int x), (2, .int mo), (3, .int v)]) hx hb dX8_rebase_8 hl (by decide) rfl (fun ls hl => ?_)
    refine lv_aload hx hb dX8_rebase_10 (lv_at hl 0 rfl) ?_
    refine lv_ifnull hx hb dX8_rebase_12 ?_
    refine lv_aload_n hx hb dX8_rebase_15 rfl (lv_at hl 1 rfl) ?_
    refine fgetx hx hb ht inG8 hown hK hP (k := 0) (by decide) (x := (σ 0)) rfl (sh_desk _ _) rfl 1 (by decide) gw_352 (v := .ref (ad (44 + 57 * (bz ((σ 0) 1))))) rfl dX8_rebase_16 ?_
    refine lv_iload_n hx hb dX8_rebase_19 rfl (lv_at hl 3 rfl) ?_
    refine callv (y := yX0_isPast) ⟨hx, hb, hml, hown, ht⟩ hK hN hP hS (k := (44 + 57 * (bz ((σ 0) 1)))) (c_X0_isPast l D ca ad hI σ τ (bz_lt _) mo) (by have b0_ : (bz ((σ 0) 1)) < 2 := (bz_lt _); omega) (sh_book _ _ (bz_lt _)) rfl ok_X0_isPast gw_716 ⟨by decide, by decide⟩ rfl hl.1 rfl (Nat.le_of_ble_eq_true rfl) ⟨by decide, by decide⟩ dX8_rebase_20 (fun v_ S_ T_ H locs hp2 hP hS => ?_)
    obtain ⟨rfl, rfl, rfl⟩ := hp2
    try dsimp only [Option.toList, List.cons_append, List.nil_append]
    refine br_eq (tgt := 33) hx hb dX8_rebase_23 (by decide) (fun c3 => ?_) (fun c3 => ?_)
    · refine lv_iconst (v := -1) hx hb dX8_rebase_33 (by decide) ?_
      exact ret_i hx hb hr hlk hP hS dX8_rebase_34 (⟨by first | with_reducible rfl | (simp only [rebR, rebM, hp1, c3, ↓reduceIte, Bool.false_eq_true]; done) | (simp only [rebR, rebM, hp1, c3, ↓reduceIte, Bool.false_eq_true]; rfl) | rfl, by first | with_reducible rfl | (simp only [rebR, rebM, hp1, c3, ↓reduceIte, Bool.false_eq_true]; done) | (simp only [rebR, rebM, hp1, c3, ↓reduceIte, Bool.false_eq_true]; rfl) | rfl, rfl⟩)
    · refine lv_iload_n hx hb dX8_rebase_26 rfl (lv_at hl 4 rfl) ?_
      refine calls (y := yX8_isValue) ⟨hx, hb, hml, hown, ht⟩ hK hN hP hS (c_X8_isValue l D ca ad hI σ τ v) ok_X8_isValue gw_647 ⟨by decide, by decide⟩ rfl hl.1 rfl (Nat.le_of_ble_eq_true rfl) ⟨by decide, by decide⟩ dX8_rebase_27 (fun v_ S_ T_ H locs hp4 hP hS => ?_)
      obtain ⟨rfl, rfl, rfl⟩ := hp4
      try dsimp only [Option.toList, List.cons_append, List.nil_append]
      refine br_ne (tgt := 35) hx hb dX8_rebase_30 (by decide) (fun c5 => ?_) (fun c5 => ?_)
      · refine lv_aload hx hb dX8_rebase_35 (lv_at hl 0 rfl) ?_
        refine lv_iload_n hx hb dX8_rebase_37 rfl (lv_at hl 3 rfl) ?_
        refine callv (y := yX4_kindAt) ⟨hx, hb, hml, hown, ht⟩ hK hN hP hS (k := (47 + 57 * (bz ((σ 0) 1)) + 6 * x.toNatClampNeg)) (c_X4_kindAt l D ca ad hI σ τ (bz_lt _) (inC_6 hp1) mo) (by have b0_ : (bz ((σ 0) 1)) < 2 := (bz_lt _); have b1_ : x.toNatClampNeg < 6 := (inC_6 hp1); omega) (sh_indx _ _ (bz_lt _) (inC_6 hp1)) rfl ok_X4_kindAt gw_615 ⟨by decide, by decide⟩ rfl hl.1 rfl (Nat.le_of_ble_eq_true rfl) ⟨by decide, by decide⟩ dX8_rebase_38 (fun v_ S_ T_ H locs hp6 hP hS => ?_)
        obtain ⟨rfl, rfl, rfl⟩ := hp6
        try dsimp only [Option.toList, List.cons_append, List.nil_append]
        refine lv_iconst (v := 2) hx hb dX8_rebase_41 (by decide) ?_
        refine lv_icmp_eq (tgt := 48) hx hb dX8_rebase_42 (by decide) (fun c7 => ?_) (fun c7 => ?_)
        · have dc7 := c7
          rw [i_eq] at dc7
          refine lv_aload hx hb dX8_rebase_48 (lv_at hl 0 rfl) ?_
          refine callv (y := yX4_latestRebasing) ⟨hx, hb, hml, hown, ht⟩ hK hN hP hS (k := (47 + 57 * (bz ((σ 0) 1)) + 6 * x.toNatClampNeg)) (c_X4_latestRebasing l D ca ad hI σ τ (bz_lt _) (inC_6 hp1)) (by have b0_ : (bz ((σ 0) 1)) < 2 := (bz_lt _); have b1_ : x.toNatClampNeg < 6 := (inC_6 hp1); omega) (sh_indx _ _ (bz_lt _) (inC_6 hp1)) rfl ok_X4_latestRebasing gw_720 ⟨by decide, by decide⟩ rfl hl.1 rfl (Nat.le_of_ble_eq_true rfl) ⟨by decide, by decide⟩ dX8_rebase_50 (fun v_ S_ T_ H locs hp8 hP hS => ?_)
          obtain ⟨rfl, rfl, rfl⟩ := hp8
          try dsimp only [Option.toList, List.cons_append, List.nil_append]
          refine lv_iload_n hx hb dX8_rebase_53 rfl (lv_at hl 3 rfl) ?_
          refine lv_icmp_ge (tgt := 68) hx hb dX8_rebase_54 (by decide) (fun c9 => ?_) (fun c9 => ?_)
          · have dc9 := c9
            rw [i_le] at dc9
            refine lv_bipush (v := -3) hx hb dX8_rebase_68 (by decide) ?_
            exact ret_i hx hb hr hlk hP hS dX8_rebase_70 (⟨by first | with_reducible rfl | (simp only [rebR, rebM, hp1, c3, c5, c7, c9, ↓reduceIte, Bool.false_eq_true]; done) | (simp only [rebR, rebM, hp1, c3, c5, c7, c9, ↓reduceIte, Bool.false_eq_true]; rfl) | rfl, by first | with_reducible rfl | (simp only [rebR, rebM, hp1, c3, c5, c7, c9, ↓reduceIte, Bool.false_eq_true]; done) | (simp only [rebR, rebM, hp1, c3, c5, c7, c9, ↓reduceIte, Bool.false_eq_true]; rfl) | rfl, rfl⟩)
          · have dc9 := c9
            rw [i_le] at dc9
            refine lv_aload hx hb dX8_rebase_57 (lv_at hl 0 rfl) ?_
            refine lv_bipush (v := 35) hx hb dX8_rebase_59 (by decide) ?_
            refine callv (y := yX4_knownMonth) ⟨hx, hb, hml, hown, ht⟩ hK hN hP hS (k := (47 + 57 * (bz ((σ 0) 1)) + 6 * x.toNatClampNeg)) (c_X4_knownMonth l D ca ad hI σ τ (bz_lt _) (inC_6 hp1) (35 : Int32)) (by have b0_ : (bz ((σ 0) 1)) < 2 := (bz_lt _); have b1_ : x.toNatClampNeg < 6 := (inC_6 hp1); omega) (sh_indx _ _ (bz_lt _) (inC_6 hp1)) rfl ok_X4_knownMonth gw_616 ⟨by decide, by decide⟩ rfl hl.1 rfl (Nat.le_of_ble_eq_true rfl) ⟨by decide, by decide⟩ dX8_rebase_61 (fun v_ S_ T_ H locs hp10 hP hS => ?_)
            obtain ⟨rfl, rfl, rfl⟩ := hp10
            try dsimp only [Option.toList, List.cons_append, List.nil_append]
            refine lv_iload_n hx hb dX8_rebase_64 rfl (lv_at hl 3 rfl) ?_
            refine lv_icmp_le (tgt := 71) hx hb dX8_rebase_65 (by decide) (fun c11 => ?_) (fun c11 => ?_)
            · have dc11 := c11
              rw [i_le] at dc11
              refine lv_aload hx hb dX8_rebase_71 (lv_at hl 0 rfl) ?_
              refine fgetxN hx hb ht inG4 hown hK hP (k := (47 + 57 * (bz ((σ 0) 1)) + 6 * x.toNatClampNeg)) (by have b0_ : (bz ((σ 0) 1)) < 2 := (bz_lt _); have b1_ : x.toNatClampNeg < 6 := (inC_6 hp1); omega) (x := (σ (47 + 57 * (bz ((σ 0) 1)) + 6 * x.toNatClampNeg))) rfl (sh_indx _ _ (bz_lt _) (inC_6 hp1)) rfl 5 (by decide) (hN.get 144 nw_144 rfl) (v := .int ((σ (47 + 57 * (bz ((σ 0) 1)) + 6 * x.toNatClampNeg)) 5)) rfl dX8_rebase_73 ?_
              refine lv_iconst (v := 3) hx hb dX8_rebase_76 (by decide) ?_
              refine lv_icmp_lt (tgt := 83) hx hb dX8_rebase_77 (by decide) (fun c12 => ?_) (fun c12 => ?_)
              · have dc12 := c12
                rw [i_lt] at dc12
                refine lv_aload hx hb dX8_rebase_83 (lv_at hl 0 rfl) ?_
                refine lv_iload_n hx hb dX8_rebase_85 rfl (lv_at hl 3 rfl) ?_
                refine lv_iload_n hx hb dX8_rebase_86 rfl (lv_at hl 4 rfl) ?_
                refine callv (y := yX4_addRebasing) ⟨hx, hb, hml, hown, ht⟩ hK hN hP hS (k := (47 + 57 * (bz ((σ 0) 1)) + 6 * x.toNatClampNeg)) (c_X4_addRebasing l D ca ad hI σ τ (bz_lt _) (inC_6 hp1) mo v) (by have b0_ : (bz ((σ 0) 1)) < 2 := (bz_lt _); have b1_ : x.toNatClampNeg < 6 := (inC_6 hp1); omega) (sh_indx _ _ (bz_lt _) (inC_6 hp1)) rfl ok_X4_addRebasing gw_735 ⟨by decide, by decide⟩ rfl hl.1 rfl (Nat.le_of_ble_eq_true rfl) ⟨by decide, by decide⟩ dX8_rebase_87 (fun v_ S_ T_ H locs hp13 hP hS => ?_)
                obtain ⟨rfl, rfl, rfl⟩ := hp13
                try dsimp only [Option.toList, List.cons_append, List.nil_append]
                refine lv_aload_n hx hb dX8_rebase_90 rfl (lv_at hl 1 rfl) ?_
                refine fgetx hx hb ht inG8 hown hK hP (k := 0) (by decide) (x := (σ 0)) (addRS_ne _ _ _ (by omega) (by omega) (by omega) (by omega)) (sh_desk _ _) rfl 3 (by decide) gw_354 (v := .ref (ad 6)) rfl dX8_rebase_91 ?_
                refine lv_iconst (v := 1) hx hb dX8_rebase_94 (by decide) ?_
                refine lv_iload_n hx hb dX8_rebase_95 rfl (lv_at hl 2 rfl) ?_
                refine lv_iload_n hx hb dX8_rebase_96 rfl (lv_at hl 3 rfl) ?_
                refine lv_iconst (v := 0) hx hb dX8_rebase_97 (by decide) ?_
                refine lv_iconst (v := 0) hx hb dX8_rebase_98 (by decide) ?_
                refine callv (y := yX3_keep) ⟨hx, hb, hml, hown, ht⟩ hK hN hP hS (k := 6) (c_X3_keep l D ca ad hI (addRS σ (bz ((σ 0) 1)) x.toNatClampNeg mo v) τ (1 : Int32) x mo (0 : Int32) (0 : Int32)) (by decide) (sh_hist _ _) rfl ok_X3_keep gw_725 ⟨by decide, by decide⟩ rfl hl.1 rfl (Nat.le_of_ble_eq_true rfl) ⟨by decide, by decide⟩ dX8_rebase_99 (fun v_ S_ T_ H locs hp14 hP hS => ?_)
                obtain ⟨rfl, rfl, rfl⟩ := hp14
                try dsimp only [Option.toList, List.cons_append, List.nil_append]
                refine lv_aload hx hb dX8_rebase_102 (lv_at hl 0 rfl) ?_
                refine fgetxN hx hb ht inG4 hown hK hP (k := (47 + 57 * (bz ((σ 0) 1)) + 6 * x.toNatClampNeg)) (by have b0_ : (bz ((σ 0) 1)) < 2 := (bz_lt _); have b1_ : x.toNatClampNeg < 6 := (inC_6 hp1); omega) (x := ((addRS σ (bz ((σ 0) 1)) x.toNatClampNeg mo v) (47 + 57 * (bz ((σ 0) 1)) + 6 * x.toNatClampNeg))) (keepS_ne _ _ _ _ _ _ (by omega)) (sh_indx _ _ (bz_lt _) (inC_6 hp1)) rfl 5 (by decide) (hN.get 144 nw_144 rfl) (v := .int (((addRS σ (bz ((σ 0) 1)) x.toNatClampNeg mo v) (47 + 57 * (bz ((σ 0) 1)) + 6 * x.toNatClampNeg)) 5)) rfl dX8_rebase_104 ?_
                exact ret_i hx hb hr hlk hP hS dX8_rebase_107 (⟨by first | with_reducible rfl | (simp only [rebR, rebM, hp1, c3, c5, c7, c9, c11, c12, ↓reduceIte, Bool.false_eq_true]; done) | (simp only [rebR, rebM, hp1, c3, c5, c7, c9, c11, c12, ↓reduceIte, Bool.false_eq_true]; rfl) | rfl, by first | with_reducible rfl | (simp only [rebR, rebM, hp1, c3, c5, c7, c9, c11, c12, ↓reduceIte, Bool.false_eq_true]; done) | (simp only [rebR, rebM, hp1, c3, c5, c7, c9, c11, c12, ↓reduceIte, Bool.false_eq_true]; rfl) | rfl, rfl⟩)
              · have dc12 := c12
                rw [i_lt] at dc12
                refine lv_bipush (v := -4) hx hb dX8_rebase_80 (by decide) ?_
                exact ret_i hx hb hr hlk hP hS dX8_rebase_82 (⟨by first | with_reducible rfl | (simp only [rebR, rebM, hp1, c3, c5, c7, c9, c11, c12, ↓reduceIte, Bool.false_eq_true]; done) | (simp only [rebR, rebM, hp1, c3, c5, c7, c9, c11, c12, ↓reduceIte, Bool.false_eq_true]; rfl) | rfl, by first | with_reducible rfl | (simp only [rebR, rebM, hp1, c3, c5, c7, c9, c11, c12, ↓reduceIte, Bool.false_eq_true]; done) | (simp only [rebR, rebM, hp1, c3, c5, c7, c9, c11, c12, ↓reduceIte, Bool.false_eq_true]; rfl) | rfl, rfl⟩)
            · have dc11 := c11
              rw [i_le] at dc11
              refine lv_bipush (v := -3) hx hb dX8_rebase_68 (by decide) ?_
              exact ret_i hx hb hr hlk hP hS dX8_rebase_70 (⟨by first | with_reducible rfl | (simp only [rebR, rebM, hp1, c3, c5, c7, c9, c11, ↓reduceIte, Bool.false_eq_true]; done) | (simp only [rebR, rebM, hp1, c3, c5, c7, c9, c11, ↓reduceIte, Bool.false_eq_true]; rfl) | rfl, by first | with_reducible rfl | (simp only [rebR, rebM, hp1, c3, c5, c7, c9, c11, ↓reduceIte, Bool.false_eq_true]; done) | (simp only [rebR, rebM, hp1, c3, c5, c7, c9, c11, ↓reduceIte, Bool.false_eq_true]; rfl) | rfl, rfl⟩)
        · have dc7 := c7
          rw [i_eq] at dc7
          refine lv_bipush (v := -2) hx hb dX8_rebase_45 (by decide) ?_
          exact ret_i hx hb hr hlk hP hS dX8_rebase_47 (⟨by first | with_reducible rfl | (simp only [rebR, rebM, hp1, c3, c5, c7, ↓reduceIte, Bool.false_eq_true]; done) | (simp only [rebR, rebM, hp1, c3, c5, c7, ↓reduceIte, Bool.false_eq_true]; rfl) | rfl, by first | with_reducible rfl | (simp only [rebR, rebM, hp1, c3, c5, c7, ↓reduceIte, Bool.false_eq_true]; done) | (simp only [rebR, rebM, hp1, c3, c5, c7, ↓reduceIte, Bool.false_eq_true]; rfl) | rfl, rfl⟩)
      · refine lv_iconst (v := -1) hx hb dX8_rebase_33 (by decide) ?_
        exact ret_i hx hb hr hlk hP hS dX8_rebase_34 (⟨by first | with_reducible rfl | (simp only [rebR, rebM, hp1, c3, c5, ↓reduceIte, Bool.false_eq_true]; done) | (simp only [rebR, rebM, hp1, c3, c5, ↓reduceIte, Bool.false_eq_true]; rfl) | rfl, by first | with_reducible rfl | (simp only [rebR, rebM, hp1, c3, c5, ↓reduceIte, Bool.false_eq_true]; done) | (simp only [rebR, rebM, hp1, c3, c5, ↓reduceIte, Bool.false_eq_true]; rfl) | rfl, rfl⟩)
set_option maxHeartbeats 4000000 in
set_option maxRecDepth 100000 in
theorem c_X8_deliver (l : Launch) (D : va_G) (ca : Nat → ClassId) (ad : Nat → Nat) (hI : Inj 158 ad) (σ : MI) (τ : ML) (q du n : Int32) : CT l D (TY ca) 158 ad (cxf ca ad) yX8_deliver cX8_deliver 6 (some .int) 5 116 [.ref (ad 0), .int q, .int du, .int n] σ τ (fun v_ S_ T_ => some (.int (dvR σ q du n)) = v_ ∧ (dvM σ q du n) = S_ ∧ (dvT σ τ q du n) = T_) := by
  refine CT.of (by decide) (Nat.le_of_ble_eq_true rfl) ?_
  intro p e s m args below meth c hx hb hr ht hown hlk hml hP hK hN hS ls hl
  have hl : lv_has ls 6 [(0, .ref (ad 0)), (1, .int q), (2, .int du), (3, .int n)] := hl
  have hbz := bz_lt (σ 0 1)
  refine lv_aload_n hx hb dX8_deliver_0 rfl (lv_at hl 0 rfl) ?_
  refine fgetx hx hb ht inG8 hown hK hP (k := 0) (by decide) (x := (σ 0)) rfl (sh_desk _ _) rfl 1 (by decide) gw_352 (v := .ref (ad (44 + 57 * (bz ((σ 0) 1))))) rfl dX8_deliver_1 ?_
  refine lv_iload_n hx hb dX8_deliver_4 rfl (lv_at hl 1 rfl) ?_
  refine callv (y := yX0_contractAt) ⟨hx, hb, hml, hown, ht⟩ hK hN hP hS (k := (44 + 57 * (bz ((σ 0) 1)))) (c_X0_contractAt l D ca ad hI σ τ (bz_lt _) q) (by have b0_ : (bz ((σ 0) 1)) < 2 := (bz_lt _); omega) (sh_book _ _ (bz_lt _)) rfl ok_X0_contractAt gw_635 ⟨by decide, by decide⟩ rfl hl.1 rfl (Nat.le_of_ble_eq_true rfl) ⟨by decide, by decide⟩ dX8_deliver_5 (fun v_ S_ T_ H locs hp1 hP hS => ?_)
  rcases hp1 with ⟨hp1, rfl, rfl, rfl⟩ | ⟨hp1, rfl, rfl, rfl⟩
  · try dsimp only [Option.toList, List.cons_append, List.nil_append]
    refine lv_astoreN (lv' := [(4, .null), (0, .ref (ad 0)), (1, .int q), (2, .int du), (3, .int n)]) hx hb dX8_deliver_8 hl (by decide) rfl (fun ls hl => ?_)
    refine lv_aloadN hx hb dX8_deliver_10 (lv_at hl 0 rfl) ?_
    refine lv_ifnullN (tgt := 40) hx hb dX8_deliver_12 (by decide) ?_
    refine lv_iconst (v := -1) hx hb dX8_deliver_40 (by decide) ?_
    exact ret_i hx hb hr hlk hP hS dX8_deliver_41 (⟨by first | with_reducible rfl | (simp only [dvR, dvM, dvT, dvC, hp1, ↓reduceIte, Bool.false_eq_true]; done) | (simp only [dvR, dvM, dvT, dvC, hp1, ↓reduceIte, Bool.false_eq_true]; rfl), by first | with_reducible rfl | (simp only [dvR, dvM, dvT, dvC, hp1, ↓reduceIte, Bool.false_eq_true]; done) | (simp only [dvR, dvM, dvT, dvC, hp1, ↓reduceIte, Bool.false_eq_true]; rfl), by first | with_reducible rfl | (simp only [dvR, dvM, dvT, dvC, hp1, ↓reduceIte, Bool.false_eq_true]; done) | (simp only [dvR, dvM, dvT, dvC, hp1, ↓reduceIte, Bool.false_eq_true]; rfl)⟩)
  · try dsimp only [Option.toList, List.cons_append, List.nil_append]
    have hXhp1 := (inC_6 hp1)
    refine lv_astore (lv' := [(4, .ref (ad (83 + 57 * (bz ((σ 0) 1)) + 3 * q.toNatClampNeg))), (0, .ref (ad 0)), (1, .int q), (2, .int du), (3, .int n)]) hx hb dX8_deliver_8 hl (by decide) rfl (fun ls hl => ?_)
    refine lv_aload hx hb dX8_deliver_10 (lv_at hl 0 rfl) ?_
    refine lv_ifnull hx hb dX8_deliver_12 ?_
    refine lv_aload_n hx hb dX8_deliver_15 rfl (lv_at hl 1 rfl) ?_
    refine fgetx hx hb ht inG8 hown hK hP (k := 0) (by decide) (x := (σ 0)) rfl (sh_desk _ _) rfl 1 (by decide) gw_352 (v := .ref (ad (44 + 57 * (bz ((σ 0) 1))))) rfl dX8_deliver_16 ?_
    refine lv_aload hx hb dX8_deliver_19 (lv_at hl 0 rfl) ?_
    refine lv_iload_n hx hb dX8_deliver_21 rfl (lv_at hl 3 rfl) ?_
    refine callv (y := yX0_isPriced) ⟨hx, hb, hml, hown, ht⟩ hK hN hP hS (k := (44 + 57 * (bz ((σ 0) 1)))) (c_X0_isPriced l D ca ad hI σ τ (bz_lt _) (inC_6 hp1) du) (by have b0_ : (bz ((σ 0) 1)) < 2 := (bz_lt _); omega) (sh_book _ _ (bz_lt _)) rfl ok_X0_isPriced gw_743 ⟨by decide, by decide⟩ rfl hl.1 rfl (Nat.le_of_ble_eq_true rfl) ⟨by decide, by decide⟩ dX8_deliver_22 (fun v_ S_ T_ H locs hp2 hP hS => ?_)
    obtain ⟨rfl, rfl, rfl⟩ := hp2
    try dsimp only [Option.toList, List.cons_append, List.nil_append]
    refine br_eq (tgt := 40) hx hb dX8_deliver_25 (by decide) (fun c3 => ?_) (fun c3 => ?_)
    · refine lv_iconst (v := -1) hx hb dX8_deliver_40 (by decide) ?_
      exact ret_i hx hb hr hlk hP hS dX8_deliver_41 (⟨by first | with_reducible rfl | (simp only [dvR, dvM, dvT, dvC, hp1, c3, ↓reduceIte, Bool.false_eq_true]; done) | (simp only [dvR, dvM, dvT, dvC, hp1, c3, ↓reduceIte, Bool.false_eq_true]; rfl), by first | with_reducible rfl | (simp only [dvR, dvM, dvT, dvC, hp1, c3, ↓reduceIte, Bool.false_eq_true]; done) | (simp only [dvR, dvM, dvT, dvC, hp1, c3, ↓reduceIte, Bool.false_eq_true]; rfl), by first | with_reducible rfl | (simp only [dvR, dvM, dvT, dvC, hp1, c3, ↓reduceIte, Bool.false_eq_true]; done) | (simp only [dvR, dvM, dvT, dvC, hp1, c3, ↓reduceIte, Bool.false_eq_true]; rfl)⟩)
    · refine lv_iload_n hx hb dX8_deliver_28 rfl (lv_at hl 4 rfl) ?_
      refine lv_iconst (v := 1) hx hb dX8_deliver_29 (by decide) ?_
      refine lv_icmp_lt (tgt := 40) hx hb dX8_deliver_30 (by decide) (fun c4 => ?_) (fun c4 => ?_)
      · have dc4 := c4
        rw [i_lt] at dc4
        refine lv_iconst (v := -1) hx hb dX8_deliver_40 (by decide) ?_
        exact ret_i hx hb hr hlk hP hS dX8_deliver_41 (⟨by first | with_reducible rfl | (simp only [dvR, dvM, dvT, dvC, hp1, c3, c4, ↓reduceIte, Bool.false_eq_true]; done) | (simp only [dvR, dvM, dvT, dvC, hp1, c3, c4, ↓reduceIte, Bool.false_eq_true]; rfl), by first | with_reducible rfl | (simp only [dvR, dvM, dvT, dvC, hp1, c3, c4, ↓reduceIte, Bool.false_eq_true]; done) | (simp only [dvR, dvM, dvT, dvC, hp1, c3, c4, ↓reduceIte, Bool.false_eq_true]; rfl), by first | with_reducible rfl | (simp only [dvR, dvM, dvT, dvC, hp1, c3, c4, ↓reduceIte, Bool.false_eq_true]; done) | (simp only [dvR, dvM, dvT, dvC, hp1, c3, c4, ↓reduceIte, Bool.false_eq_true]; rfl)⟩)
      · have dc4 := c4
        rw [i_lt] at dc4
        refine lv_iload_n hx hb dX8_deliver_33 rfl (lv_at hl 4 rfl) ?_
        refine lv_sipush (v := 999) hx hb dX8_deliver_34 (by decide) ?_
        refine lv_icmp_le (tgt := 42) hx hb dX8_deliver_37 (by decide) (fun c5 => ?_) (fun c5 => ?_)
        · have dc5 := c5
          rw [i_le] at dc5
          refine lv_aload_n hx hb dX8_deliver_42 rfl (lv_at hl 1 rfl) ?_
          refine fgetx hx hb ht inG8 hown hK hP (k := 0) (by decide) (x := (σ 0)) rfl (sh_desk _ _) rfl 2 (by decide) gw_353 (v := .ref (ad 12)) rfl dX8_deliver_43 ?_
          refine callv (y := yX5_addRow) ⟨hx, hb, hml, hown, ht⟩ hK hN hP hS (k := 12) (c_X5_addRow l D ca ad hI σ τ ) (by decide) (sh_ledg _ _) rfl ok_X5_addRow gw_747 ⟨by decide, by decide⟩ rfl hl.1 rfl (Nat.le_of_ble_eq_true rfl) ⟨by decide, by decide⟩ dX8_deliver_46 (fun v_ S_ T_ H locs hp6 hP hS => ?_)
          rcases hp6 with ⟨hp6, rfl, rfl, rfl⟩ | ⟨hp6, rfl, rfl, rfl⟩
          · try dsimp only [Option.toList, List.cons_append, List.nil_append]
            refine lv_astoreN (lv' := [(5, .null), (4, .ref (ad (83 + 57 * (bz ((σ 0) 1)) + 3 * q.toNatClampNeg))), (0, .ref (ad 0)), (1, .int q), (2, .int du), (3, .int n)]) hx hb dX8_deliver_49 hl (by decide) rfl (fun ls hl => ?_)
            refine lv_aloadN hx hb dX8_deliver_51 (lv_at hl 0 rfl) ?_
            refine lv_ifnonnullN hx hb dX8_deliver_53 ?_
            refine lv_bipush (v := -2) hx hb dX8_deliver_56 (by decide) ?_
            exact ret_i hx hb hr hlk hP hS dX8_deliver_58 (⟨by first | with_reducible rfl | (simp only [dvR, dvM, dvT, dvC, hp1, c3, c4, c5, hp6, ↓reduceIte, Bool.false_eq_true]; done) | (simp only [dvR, dvM, dvT, dvC, hp1, c3, c4, c5, hp6, ↓reduceIte, Bool.false_eq_true]; rfl), by first | with_reducible rfl | (simp only [dvR, dvM, dvT, dvC, hp1, c3, c4, c5, hp6, ↓reduceIte, Bool.false_eq_true]; done) | (simp only [dvR, dvM, dvT, dvC, hp1, c3, c4, c5, hp6, ↓reduceIte, Bool.false_eq_true]; rfl), by first | with_reducible rfl | (simp only [dvR, dvM, dvT, dvC, hp1, c3, c4, c5, hp6, ↓reduceIte, Bool.false_eq_true]; done) | (simp only [dvR, dvM, dvT, dvC, hp1, c3, c4, c5, hp6, ↓reduceIte, Bool.false_eq_true]; rfl)⟩)
          · try dsimp only [Option.toList, List.cons_append, List.nil_append]
            have hXhp6 := (inL_30 hp6)
            refine lv_astore (lv' := [(5, .ref (ad (14 + (σ 12 1).toNatClampNeg))), (4, .ref (ad (83 + 57 * (bz ((σ 0) 1)) + 3 * q.toNatClampNeg))), (0, .ref (ad 0)), (1, .int q), (2, .int du), (3, .int n)]) hx hb dX8_deliver_49 hl (by decide) rfl (fun ls hl => ?_)
            refine lv_aload hx hb dX8_deliver_51 (lv_at hl 0 rfl) ?_
            refine lv_ifnonnull (tgt := 59) hx hb dX8_deliver_53 (by decide) ?_
            refine lv_aload hx hb dX8_deliver_59 (lv_at hl 0 rfl) ?_
            refine lv_iload_n hx hb dX8_deliver_61 rfl (lv_at hl 3 rfl) ?_
            refine lv_iload_n hx hb dX8_deliver_62 rfl (lv_at hl 4 rfl) ?_
            refine lv_aload_n hx hb dX8_deliver_63 rfl (lv_at hl 2 rfl) ?_
            refine fgetx hx hb ht inG8 hown hK hP (k := 0) (by decide) (x := (σ 0)) (s2_nk _ _ _ (by omega)) (sh_desk _ _) rfl 1 (by decide) gw_352 (v := .ref (ad (44 + 57 * (bz ((σ 0) 1))))) rfl dX8_deliver_64 ?_
            refine fgetxN hx hb ht inG0 hown hK hP (k := (44 + 57 * (bz ((σ 0) 1)))) (by have b0_ : (bz ((σ 0) 1)) < 2 := (bz_lt _); omega) (x := (σ (44 + 57 * (bz ((σ 0) 1))))) (s2_nk _ _ _ (by omega)) (sh_book _ _ (bz_lt _)) rfl 0 (by decide) (hN.get 215 nw_215 rfl) (v := .int ((σ (44 + 57 * (bz ((σ 0) 1)))) 0)) rfl dX8_deliver_67 ?_
            refine lv_iload_n hx hb dX8_deliver_70 rfl (lv_at hl 5 rfl) ?_
            refine callv (y := yX2_take) ⟨hx, hb, hml, hown, ht⟩ hK hN hP hS (k := (14 + (σ 12 1).toNatClampNeg)) (c_X2_take l D ca ad hI (s2 σ 12 1 (σ 12 1 + 1)) τ (inL_30 hp6) q du ((σ (44 + 57 * (bz ((σ 0) 1)))) 0) n) (by have b0_ : (σ 12 1).toNatClampNeg < 30 := (inL_30 hp6); omega) (sh_deli _ _ (inL_30 hp6)) rfl ok_X2_take gw_751 ⟨by decide, by decide⟩ rfl hl.1 rfl (Nat.le_of_ble_eq_true rfl) ⟨by decide, by decide⟩ dX8_deliver_71 (fun v_ S_ T_ H locs hp7 hP hS => ?_)
            obtain ⟨rfl, rfl, rfl⟩ := hp7
            try dsimp only [Option.toList, List.cons_append, List.nil_append]
            refine lv_aload hx hb dX8_deliver_74 (lv_at hl 0 rfl) ?_
            refine lv_aload_n hx hb dX8_deliver_76 rfl (lv_at hl 2 rfl) ?_
            refine fgetx hx hb ht inG8 hown hK hP (k := 0) (by decide) (x := (σ 0)) ((s2_nk _ _ _ (by omega)).trans ((s2_nk _ _ _ (by omega)).trans ((s2_nk _ _ _ (by omega)).trans ((s2_nk _ _ _ (by omega)).trans ((s2_nk _ _ _ (by omega)).trans (s2_nk _ _ _ (by omega))))))) (sh_desk _ _) rfl 1 (by decide) gw_352 (v := .ref (ad (44 + 57 * (bz ((σ 0) 1))))) rfl dX8_deliver_77 ?_
            refine lv_aload hx hb dX8_deliver_80 (lv_at hl 1 rfl) ?_
            refine lv_iload_n hx hb dX8_deliver_82 rfl (lv_at hl 4 rfl) ?_
            refine callv (y := yX0_priceFor) ⟨hx, hb, hml, hown, ht⟩ hK hN hP hS (k := (44 + 57 * (bz ((σ 0) 1)))) (c_X0_priceFor l D ca ad hI (s2 (s2 (s2 (s2 (s2 (s2 σ 12 1 (σ 12 1 + 1)) (14 + ((σ 12 1).toNatClampNeg)) 0 q) (14 + ((σ 12 1).toNatClampNeg)) 1 du) (14 + ((σ 12 1).toNatClampNeg)) 2 ((σ (44 + 57 * (bz ((σ 0) 1)))) 0)) (14 + ((σ 12 1).toNatClampNeg)) 3 n) (14 + ((σ 12 1).toNatClampNeg)) 6 (-1)) (s2L τ (14 + ((σ 12 1).toNatClampNeg)) 7 0) (bz_lt _) (inC_6 hp1) du) (by have b0_ : (bz ((σ 0) 1)) < 2 := (bz_lt _); omega) (sh_book _ _ (bz_lt _)) rfl ok_X0_priceFor gw_759 ⟨by decide, by decide⟩ rfl hl.1 rfl (Nat.le_of_ble_eq_true rfl) ⟨by decide, by decide⟩ dX8_deliver_83 (fun v_ S_ T_ H locs hp8 hP hS => ?_)
            obtain ⟨rfl, rfl, rfl⟩ := hp8
            try dsimp only [Option.toList, List.cons_append, List.nil_append]
            refine lv_aload_n hx hb dX8_deliver_86 rfl (lv_at hl 2 rfl) ?_
            refine fgetx hx hb ht inG8 hown hK hP (k := 0) (by decide) (x := (σ 0)) ((s2_nk _ _ _ (by omega)).trans ((s2_nk _ _ _ (by omega)).trans ((s2_nk _ _ _ (by omega)).trans ((s2_nk _ _ _ (by omega)).trans ((s2_nk _ _ _ (by omega)).trans (s2_nk _ _ _ (by omega))))))) (sh_desk _ _) rfl 1 (by decide) gw_352 (v := .ref (ad (44 + 57 * (bz ((σ 0) 1))))) rfl dX8_deliver_87 ?_
            refine lv_aload hx hb dX8_deliver_90 (lv_at hl 1 rfl) ?_
            refine lv_aload_n hx hb dX8_deliver_92 rfl (lv_at hl 2 rfl) ?_
            refine fgetx hx hb ht inG8 hown hK hP (k := 0) (by decide) (x := (σ 0)) ((s2_nk _ _ _ (by omega)).trans ((s2_nk _ _ _ (by omega)).trans ((s2_nk _ _ _ (by omega)).trans ((s2_nk _ _ _ (by omega)).trans ((s2_nk _ _ _ (by omega)).trans (s2_nk _ _ _ (by omega))))))) (sh_desk _ _) rfl 1 (by decide) gw_352 (v := .ref (ad (44 + 57 * (bz ((σ 0) 1))))) rfl dX8_deliver_93 ?_
            refine fgetxN hx hb ht inG0 hown hK hP (k := (44 + 57 * (bz ((σ 0) 1)))) (by have b0_ : (bz ((σ 0) 1)) < 2 := (bz_lt _); omega) (x := (σ (44 + 57 * (bz ((σ 0) 1))))) ((s2_nk _ _ _ (by omega)).trans ((s2_nk _ _ _ (by omega)).trans ((s2_nk _ _ _ (by omega)).trans ((s2_nk _ _ _ (by omega)).trans ((s2_nk _ _ _ (by omega)).trans (s2_nk _ _ _ (by omega))))))) (sh_book _ _ (bz_lt _)) rfl 0 (by decide) (hN.get 215 nw_215 rfl) (v := .int ((σ (44 + 57 * (bz ((σ 0) 1)))) 0)) rfl dX8_deliver_96 ?_
            refine callv (y := yX0_priceFor) ⟨hx, hb, hml, hown, ht⟩ hK hN hP hS (k := (44 + 57 * (bz ((σ 0) 1)))) (c_X0_priceFor l D ca ad hI (s2 (s2 (s2 (s2 (s2 (s2 σ 12 1 (σ 12 1 + 1)) (14 + ((σ 12 1).toNatClampNeg)) 0 q) (14 + ((σ 12 1).toNatClampNeg)) 1 du) (14 + ((σ 12 1).toNatClampNeg)) 2 ((σ (44 + 57 * (bz ((σ 0) 1)))) 0)) (14 + ((σ 12 1).toNatClampNeg)) 3 n) (14 + ((σ 12 1).toNatClampNeg)) 6 (-1)) (s2L τ (14 + ((σ 12 1).toNatClampNeg)) 7 0) (bz_lt _) (inC_6 hp1) ((σ (44 + 57 * (bz ((σ 0) 1)))) 0)) (by have b0_ : (bz ((σ 0) 1)) < 2 := (bz_lt _); omega) (sh_book _ _ (bz_lt _)) rfl ok_X0_priceFor gw_759 ⟨by decide, by decide⟩ rfl hl.1 rfl (Nat.le_of_ble_eq_true rfl) ⟨by decide, by decide⟩ dX8_deliver_99 (fun v_ S_ T_ H locs hp9 hP hS => ?_)
            obtain ⟨rfl, rfl, rfl⟩ := hp9
            try dsimp only [Option.toList, List.cons_append, List.nil_append]
            refine callv (y := yX2_bill) ⟨hx, hb, hml, hown, ht⟩ hK hN hP hS (k := (14 + (σ 12 1).toNatClampNeg)) (c_X2_bill l D ca ad hI (s2 (s2 (s2 (s2 (s2 (s2 σ 12 1 (σ 12 1 + 1)) (14 + ((σ 12 1).toNatClampNeg)) 0 q) (14 + ((σ 12 1).toNatClampNeg)) 1 du) (14 + ((σ 12 1).toNatClampNeg)) 2 ((σ (44 + 57 * (bz ((σ 0) 1)))) 0)) (14 + ((σ 12 1).toNatClampNeg)) 3 n) (14 + ((σ 12 1).toNatClampNeg)) 6 (-1)) (s2L τ (14 + ((σ 12 1).toNatClampNeg)) 7 0) (inL_30 hp6) (pfS (s2 (s2 (s2 (s2 (s2 (s2 σ 12 1 (σ 12 1 + 1)) (14 + ((σ 12 1).toNatClampNeg)) 0 q) (14 + ((σ 12 1).toNatClampNeg)) 1 du) (14 + ((σ 12 1).toNatClampNeg)) 2 ((σ (44 + 57 * (bz ((σ 0) 1)))) 0)) (14 + ((σ 12 1).toNatClampNeg)) 3 n) (14 + ((σ 12 1).toNatClampNeg)) 6 (-1)) (bz ((σ 0) 1)) q.toNatClampNeg du) (pfS (s2 (s2 (s2 (s2 (s2 (s2 σ 12 1 (σ 12 1 + 1)) (14 + ((σ 12 1).toNatClampNeg)) 0 q) (14 + ((σ 12 1).toNatClampNeg)) 1 du) (14 + ((σ 12 1).toNatClampNeg)) 2 ((σ (44 + 57 * (bz ((σ 0) 1)))) 0)) (14 + ((σ 12 1).toNatClampNeg)) 3 n) (14 + ((σ 12 1).toNatClampNeg)) 6 (-1)) (bz ((σ 0) 1)) q.toNatClampNeg ((σ (44 + 57 * (bz ((σ 0) 1)))) 0))) (by have b0_ : (σ 12 1).toNatClampNeg < 30 := (inL_30 hp6); omega) (sh_deli _ _ (inL_30 hp6)) rfl ok_X2_bill gw_760 ⟨by decide, by decide⟩ rfl hl.1 rfl (Nat.le_of_ble_eq_true rfl) ⟨by decide, by decide⟩ dX8_deliver_102 (fun v_ S_ T_ H locs hp10 hP hS => ?_)
            obtain ⟨rfl, rfl, rfl⟩ := hp10
            try dsimp only [Option.toList, List.cons_append, List.nil_append]
            refine lv_aload_n hx hb dX8_deliver_105 rfl (lv_at hl 2 rfl) ?_
            refine fgetx hx hb ht inG8 hown hK hP (k := 0) (by decide) (x := (σ 0)) ((bilS_ne _ _ _ (by omega)).trans ((s2_nk _ _ _ (by omega)).trans ((s2_nk _ _ _ (by omega)).trans ((s2_nk _ _ _ (by omega)).trans ((s2_nk _ _ _ (by omega)).trans ((s2_nk _ _ _ (by omega)).trans (s2_nk _ _ _ (by omega)))))))) (sh_desk _ _) rfl 3 (by decide) gw_354 (v := .ref (ad 6)) rfl dX8_deliver_106 ?_
            refine lv_iconst (v := 2) hx hb dX8_deliver_109 (by decide) ?_
            refine lv_iconst (v := 0) hx hb dX8_deliver_110 (by decide) ?_
            refine lv_iconst (v := 0) hx hb dX8_deliver_111 (by decide) ?_
            refine lv_iconst (v := 0) hx hb dX8_deliver_112 (by decide) ?_
            refine lv_iconst (v := 0) hx hb dX8_deliver_113 (by decide) ?_
            refine callv (y := yX3_keep) ⟨hx, hb, hml, hown, ht⟩ hK hN hP hS (k := 6) (c_X3_keep l D ca ad hI (bilS (s2 (s2 (s2 (s2 (s2 (s2 σ 12 1 (σ 12 1 + 1)) (14 + ((σ 12 1).toNatClampNeg)) 0 q) (14 + ((σ 12 1).toNatClampNeg)) 1 du) (14 + ((σ 12 1).toNatClampNeg)) 2 ((σ (44 + 57 * (bz ((σ 0) 1)))) 0)) (14 + ((σ 12 1).toNatClampNeg)) 3 n) (14 + ((σ 12 1).toNatClampNeg)) 6 (-1)) ((σ 12 1).toNatClampNeg) (pfS (s2 (s2 (s2 (s2 (s2 (s2 σ 12 1 (σ 12 1 + 1)) (14 + ((σ 12 1).toNatClampNeg)) 0 q) (14 + ((σ 12 1).toNatClampNeg)) 1 du) (14 + ((σ 12 1).toNatClampNeg)) 2 ((σ (44 + 57 * (bz ((σ 0) 1)))) 0)) (14 + ((σ 12 1).toNatClampNeg)) 3 n) (14 + ((σ 12 1).toNatClampNeg)) 6 (-1)) (bz ((σ 0) 1)) q.toNatClampNeg du) (pfS (s2 (s2 (s2 (s2 (s2 (s2 σ 12 1 (σ 12 1 + 1)) (14 + ((σ 12 1).toNatClampNeg)) 0 q) (14 + ((σ 12 1).toNatClampNeg)) 1 du) (14 + ((σ 12 1).toNatClampNeg)) 2 ((σ (44 + 57 * (bz ((σ 0) 1)))) 0)) (14 + ((σ 12 1).toNatClampNeg)) 3 n) (14 + ((σ 12 1).toNatClampNeg)) 6 (-1)) (bz ((σ 0) 1)) q.toNatClampNeg ((σ (44 + 57 * (bz ((σ 0) 1)))) 0))) (s2L τ (14 + ((σ 12 1).toNatClampNeg)) 7 0) (2 : Int32) (0 : Int32) (0 : Int32) (0 : Int32) (0 : Int32)) (by decide) (sh_hist _ _) rfl ok_X3_keep gw_725 ⟨by decide, by decide⟩ rfl hl.1 rfl (Nat.le_of_ble_eq_true rfl) ⟨by decide, by decide⟩ dX8_deliver_114 (fun v_ S_ T_ H locs hp11 hP hS => ?_)
            obtain ⟨rfl, rfl, rfl⟩ := hp11
            try dsimp only [Option.toList, List.cons_append, List.nil_append]
            refine lv_aload_n hx hb dX8_deliver_117 rfl (lv_at hl 2 rfl) ?_
            refine fgetx hx hb ht inG8 hown hK hP (k := 0) (by decide) (x := (σ 0)) ((keepS_ne _ _ _ _ _ _ (by omega)).trans ((bilS_ne _ _ _ (by omega)).trans ((s2_nk _ _ _ (by omega)).trans ((s2_nk _ _ _ (by omega)).trans ((s2_nk _ _ _ (by omega)).trans ((s2_nk _ _ _ (by omega)).trans ((s2_nk _ _ _ (by omega)).trans (s2_nk _ _ _ (by omega))))))))) (sh_desk _ _) rfl 2 (by decide) gw_353 (v := .ref (ad 12)) rfl dX8_deliver_118 ?_
            refine fgetxN hx hb ht inG5 hown hK hP (k := 12) (by decide) (x := (upd (σ 12) 1 (σ 12 1 + 1))) ((keepS_ne _ _ _ _ _ _ (by omega)).trans ((bilS_ne _ _ _ (by omega)).trans ((s2_nk _ _ _ (by omega)).trans ((s2_nk _ _ _ (by omega)).trans ((s2_nk _ _ _ (by omega)).trans ((s2_nk _ _ _ (by omega)).trans ((s2_nk _ _ _ (by omega)).trans (s2_k _ _ _ _)))))))) (sh_ledg _ _) rfl 1 (by decide) (hN.get 311 nw_311 rfl) (v := .int (σ 12 1 + 1)) rfl dX8_deliver_121 ?_
            refine lv_iconst (v := 1) hx hb dX8_deliver_124 (by decide) ?_
            refine lv_isub hx hb dX8_deliver_125 ?_
            exact ret_i hx hb hr hlk hP hS dX8_deliver_126 (⟨by first | with_reducible rfl | (simp only [dvR, dvM, dvT, dvC, hp1, c3, c4, c5, hp6, ↓reduceIte, Bool.false_eq_true]; done) | (simp only [dvR, dvM, dvT, dvC, hp1, c3, c4, c5, hp6, ↓reduceIte, Bool.false_eq_true]; rfl), by first | with_reducible rfl | (simp only [dvR, dvM, dvT, dvC, hp1, c3, c4, c5, hp6, ↓reduceIte, Bool.false_eq_true]; done) | (simp only [dvR, dvM, dvT, dvC, hp1, c3, c4, c5, hp6, ↓reduceIte, Bool.false_eq_true]; rfl), by first | with_reducible rfl | (simp only [dvR, dvM, dvT, dvC, hp1, c3, c4, c5, hp6, ↓reduceIte, Bool.false_eq_true]; done) | (simp only [dvR, dvM, dvT, dvC, hp1, c3, c4, c5, hp6, ↓reduceIte, Bool.false_eq_true]; rfl)⟩)
        · have dc5 := c5
          rw [i_le] at dc5
          refine lv_iconst (v := -1) hx hb dX8_deliver_40 (by decide) ?_
          exact ret_i hx hb hr hlk hP hS dX8_deliver_41 (⟨by first | with_reducible rfl | (simp only [dvR, dvM, dvT, dvC, hp1, c3, c4, c5, ↓reduceIte, Bool.false_eq_true]; done) | (simp only [dvR, dvM, dvT, dvC, hp1, c3, c4, c5, ↓reduceIte, Bool.false_eq_true]; rfl), by first | with_reducible rfl | (simp only [dvR, dvM, dvT, dvC, hp1, c3, c4, c5, ↓reduceIte, Bool.false_eq_true]; done) | (simp only [dvR, dvM, dvT, dvC, hp1, c3, c4, c5, ↓reduceIte, Bool.false_eq_true]; rfl), by first | with_reducible rfl | (simp only [dvR, dvM, dvT, dvC, hp1, c3, c4, c5, ↓reduceIte, Bool.false_eq_true]; done) | (simp only [dvR, dvM, dvT, dvC, hp1, c3, c4, c5, ↓reduceIte, Bool.false_eq_true]; rfl)⟩)
set_option maxHeartbeats 4000000 in
set_option maxRecDepth 100000 in
theorem c_X8_close (l : Launch) (D : va_G) (ca : Nat → ClassId) (ad : Nat → Nat) (hI : Inj 158 ad) (σ : MI) (τ : ML)  : CT l D (TY ca) 158 ad (cxf ca ad) yX8_close cX8_close 2 (some .int) 6 141 [.ref (ad 0)] σ τ (fun v_ S_ T_ => some (.int (clR σ)) = v_ ∧ (clM σ) = S_ ∧ (clT σ τ) = T_) := by
  refine CT.of (by decide) (Nat.le_of_ble_eq_true rfl) ?_
  intro p e s m args below meth c hx hb hr ht hown hlk hml hP hK hN hS ls hl
  have hl : lv_has ls 2 [(0, .ref (ad 0))] := hl
  have hbz := bz_lt (σ 0 1)
  refine lv_aload_n hx hb dX8_close_0 rfl (lv_at hl 0 rfl) ?_
  refine fgetx hx hb ht inG8 hown hK hP (k := 0) (by decide) (x := (σ 0)) rfl (sh_desk _ _) rfl 1 (by decide) gw_352 (v := .ref (ad (44 + 57 * (bz ((σ 0) 1))))) rfl dX8_close_1 ?_
  refine fgetxN hx hb ht inG0 hown hK hP (k := (44 + 57 * (bz ((σ 0) 1)))) (by have b0_ : (bz ((σ 0) 1)) < 2 := (bz_lt _); omega) (x := (σ (44 + 57 * (bz ((σ 0) 1))))) rfl (sh_book _ _ (bz_lt _)) rfl 0 (by decide) (hN.get 215 nw_215 rfl) (v := .int ((σ (44 + 57 * (bz ((σ 0) 1)))) 0)) rfl dX8_close_4 ?_
  refine lv_bipush (v := 35) hx hb dX8_close_7 (by decide) ?_
  refine lv_icmp_lt (tgt := 14) hx hb dX8_close_9 (by decide) (fun c1 => ?_) (fun c1 => ?_)
  · have dc1 := c1
    rw [i_lt] at dc1
    refine lv_aload_n hx hb dX8_close_14 rfl (lv_at hl 0 rfl) ?_
    refine fgetx hx hb ht inG8 hown hK hP (k := 0) (by decide) (x := (σ 0)) rfl (sh_desk _ _) rfl 2 (by decide) gw_353 (v := .ref (ad 12)) rfl dX8_close_15 ?_
    refine lv_aload_n hx hb dX8_close_18 rfl (lv_at hl 0 rfl) ?_
    refine fgetx hx hb ht inG8 hown hK hP (k := 0) (by decide) (x := (σ 0)) rfl (sh_desk _ _) rfl 1 (by decide) gw_352 (v := .ref (ad (44 + 57 * (bz ((σ 0) 1))))) rfl dX8_close_19 ?_
    refine callv (y := yX5_settle) ⟨hx, hb, hml, hown, ht⟩ hK hN hP hS (k := 12) (c_X5_settle l D ca ad hI σ τ (bz_lt _)) (by decide) (sh_ledg _ _) rfl ok_X5_settle gw_768 ⟨by decide, by decide⟩ rfl hl.1 rfl (Nat.le_of_ble_eq_true rfl) ⟨by decide, by decide⟩ dX8_close_22 (fun v_ S_ T_ H locs hp2 hP hS => ?_)
    obtain ⟨rfl, rfl, rfl⟩ := hp2
    try dsimp only [Option.toList, List.cons_append, List.nil_append]
    refine lv_istore_n (lv' := [(1, .int (setlN σ (bz ((σ 0) 1)) (kmin (σ 12 1) 30))), (0, .ref (ad 0))]) hx hb dX8_close_25 rfl hl (by decide) rfl (fun ls hl => ?_)
    refine lv_aload_n hx hb dX8_close_26 rfl (lv_at hl 1 rfl) ?_
    refine fgetx hx hb ht inG8 hown hK hP (k := 0) (by decide) (x := (σ 0)) (setlM_ne30 _ _ _ (by omega)) (sh_desk _ _) rfl 1 (by decide) gw_352 (v := .ref (ad (44 + 57 * (bz ((σ 0) 1))))) rfl dX8_close_27 ?_
    refine lv_dup hx hb dX8_close_30 rfl ?_
    refine fgetxN hx hb ht inG0 hown hK hP (k := (44 + 57 * (bz ((σ 0) 1)))) (by have b0_ : (bz ((σ 0) 1)) < 2 := (bz_lt _); omega) (x := (σ (44 + 57 * (bz ((σ 0) 1))))) (setlM_ne30 _ _ _ (by omega)) (sh_book _ _ (bz_lt _)) rfl 0 (by decide) (hN.get 215 nw_215 rfl) (v := .int ((σ (44 + 57 * (bz ((σ 0) 1)))) 0)) rfl dX8_close_31 ?_
    refine lv_iconst (v := 1) hx hb dX8_close_34 (by decide) ?_
    refine lv_iadd hx hb dX8_close_35 ?_
    refine fputxN (ref := "") (w := ((σ (44 + 57 * (bz ((σ 0) 1)))) 0) + 1) hx hb ht inG0 tyX0 tyX0_ok nmX0 hown hK hP hI hS (k := (44 + 57 * (bz ((σ 0) 1)))) (by have b0_ : (bz ((σ 0) 1)) < 2 := (bz_lt _); omega) (sh_book _ _ (bz_lt _)) rfl 0 (by decide) (hN.get 215 nw_215 rfl) rfl rfl rfl (Nat.le_of_ble_eq_true rfl) (sh_book _ _ (bz_lt _)) dX8_close_36 (fun H locs hP hS => ?_)
    refine lv_aload_n hx hb dX8_close_39 rfl (lv_at hl 1 rfl) ?_
    refine fgetx hx hb ht inG8 hown hK hP (k := 0) (by decide) (x := (σ 0)) ((s2_nk _ _ _ (by omega)).trans (setlM_ne30 _ _ _ (by omega))) (sh_desk _ _) rfl 3 (by decide) gw_354 (v := .ref (ad 6)) rfl dX8_close_40 ?_
    refine lv_iconst (v := 3) hx hb dX8_close_43 (by decide) ?_
    refine lv_iconst (v := 0) hx hb dX8_close_44 (by decide) ?_
    refine lv_iconst (v := 0) hx hb dX8_close_45 (by decide) ?_
    refine lv_iconst (v := 0) hx hb dX8_close_46 (by decide) ?_
    refine lv_iconst (v := 0) hx hb dX8_close_47 (by decide) ?_
    refine callv (y := yX3_keep) ⟨hx, hb, hml, hown, ht⟩ hK hN hP hS (k := 6) (c_X3_keep l D ca ad hI (s2 (setlM σ (bz ((σ 0) 1)) (kmin (σ 12 1) 30)) (44 + 57 * (bz ((σ 0) 1))) 0 (((σ (44 + 57 * (bz ((σ 0) 1)))) 0) + 1)) (setlT σ τ (bz ((σ 0) 1)) (kmin (σ 12 1) 30)) (3 : Int32) (0 : Int32) (0 : Int32) (0 : Int32) (0 : Int32)) (by decide) (sh_hist _ _) rfl ok_X3_keep gw_725 ⟨by decide, by decide⟩ rfl hl.1 rfl (Nat.le_of_ble_eq_true rfl) ⟨by decide, by decide⟩ dX8_close_48 (fun v_ S_ T_ H locs hp3 hP hS => ?_)
    obtain ⟨rfl, rfl, rfl⟩ := hp3
    try dsimp only [Option.toList, List.cons_append, List.nil_append]
    refine lv_iload_n hx hb dX8_close_51 rfl (lv_at hl 0 rfl) ?_
    exact ret_i hx hb hr hlk hP hS dX8_close_52 (⟨by first | with_reducible rfl | (simp only [clR, clM, clT, c1, ↓reduceIte, Bool.false_eq_true]; done) | (simp only [clR, clM, clT, c1, ↓reduceIte, Bool.false_eq_true]; rfl), by first | with_reducible rfl | (simp only [clR, clM, clT, c1, ↓reduceIte, Bool.false_eq_true]; done) | (simp only [clR, clM, clT, c1, ↓reduceIte, Bool.false_eq_true]; rfl), by first | with_reducible rfl | (simp only [clR, clM, clT, c1, ↓reduceIte, Bool.false_eq_true]; done) | (simp only [clR, clM, clT, c1, ↓reduceIte, Bool.false_eq_true]; rfl)⟩)
  · have dc1 := c1
    rw [i_lt] at dc1
    refine lv_iconst (v := -1) hx hb dX8_close_12 (by decide) ?_
    exact ret_i hx hb hr hlk hP hS dX8_close_13 (⟨by first | with_reducible rfl | (simp only [clR, clM, clT, c1, ↓reduceIte, Bool.false_eq_true]; done) | (simp only [clR, clM, clT, c1, ↓reduceIte, Bool.false_eq_true]; rfl), by first | with_reducible rfl | (simp only [clR, clM, clT, c1, ↓reduceIte, Bool.false_eq_true]; done) | (simp only [clR, clM, clT, c1, ↓reduceIte, Bool.false_eq_true]; rfl), by first | with_reducible rfl | (simp only [clR, clM, clT, c1, ↓reduceIte, Bool.false_eq_true]; done) | (simp only [clR, clM, clT, c1, ↓reduceIte, Bool.false_eq_true]; rfl)⟩)
set_option maxHeartbeats 4000000 in
set_option maxRecDepth 100000 in
theorem c_X8_takeBackValue (l : Launch) (D : va_G) (ca : Nat → ClassId) (ad : Nat → Nat) (hI : Inj 158 ad) (σ : MI) (τ : ML) {sl : Int32} (hsl : vp_in sl 8) : CT l D (TY ca) 158 ad (cxf ca ad) yX8_takeBackValue cX8_takeBackValue 3 none 2 43 [.ref (ad 0), .int sl] σ τ (fun v_ S_ T_ => none = v_ ∧ (tbV σ sl) = S_ ∧ τ = T_) := by
  refine CT.of (by decide) (Nat.le_of_ble_eq_true rfl) ?_
  intro p e s m args below meth c hx hb hr ht hown hlk hml hP hK hN hS ls hl
  have hl : lv_has ls 3 [(0, .ref (ad 0)), (1, .int sl)] := hl
  have hbz := bz_lt (σ 0 1)
  refine lv_aload_n hx hb dX8_takeBackValue_0 rfl (lv_at hl 0 rfl) ?_
  refine fgetx hx hb ht inG8 hown hK hP (k := 0) (by decide) (x := (σ 0)) rfl (sh_desk _ _) rfl 1 (by decide) gw_352 (v := .ref (ad (44 + 57 * (bz ((σ 0) 1))))) rfl dX8_takeBackValue_1 ?_
  refine lv_aload_n hx hb dX8_takeBackValue_4 rfl (lv_at hl 0 rfl) ?_
  refine fgetx hx hb ht inG8 hown hK hP (k := 0) (by decide) (x := (σ 0)) rfl (sh_desk _ _) rfl 3 (by decide) gw_354 (v := .ref (ad 6)) rfl dX8_takeBackValue_5 ?_
  refine fgetxN hx hb ht inG3 hown hK hP (k := 6) (by decide) (x := (σ 6)) rfl (sh_hist _ _) rfl 1 (by decide) (hN.get 326 nw_326 rfl) (v := .ref (ad 8)) rfl dX8_takeBackValue_8 ?_
  refine lv_iload_n hx hb dX8_takeBackValue_11 rfl (lv_at hl 1 rfl) ?_
  refine aldj hx hb hK hP (k := 8) (by decide) (x := (σ 8)) rfl 0 (sh_h8 _ _) rfl hsl (j := sl.toNatClampNeg) rfl dX8_takeBackValue_12 ?_
  refine callv (y := yX0_indexAt) ⟨hx, hb, hml, hown, ht⟩ hK hN hP hS (k := (44 + 57 * (bz ((σ 0) 1)))) (c_X0_indexAt l D ca ad hI σ τ (bz_lt _) ((σ 8) sl.toNatClampNeg)) (by have b0_ : (bz ((σ 0) 1)) < 2 := (bz_lt _); omega) (sh_book _ _ (bz_lt _)) rfl ok_X0_indexAt gw_609 ⟨by decide, by decide⟩ rfl hl.1 rfl (Nat.le_of_ble_eq_true rfl) ⟨by decide, by decide⟩ dX8_takeBackValue_13 (fun v_ S_ T_ H locs hp1 hP hS => ?_)
  rcases hp1 with ⟨hp1, rfl, rfl, rfl⟩ | ⟨hp1, rfl, rfl, rfl⟩
  · try dsimp only [Option.toList, List.cons_append, List.nil_append]
    refine lv_astore_nN (lv' := [(2, .null), (0, .ref (ad 0)), (1, .int sl)]) hx hb dX8_takeBackValue_16 rfl hl (by decide) rfl (fun ls hl => ?_)
    refine lv_aload_nN hx hb dX8_takeBackValue_17 rfl (lv_at hl 0 rfl) ?_
    refine lv_ifnullN (tgt := 52) hx hb dX8_takeBackValue_18 (by decide) ?_
    exact ret_v hx hb hr hlk hP hS dX8_takeBackValue_52 (⟨by first | with_reducible rfl | (simp only [tbV, hp1, ↓reduceIte, Bool.false_eq_true]; done) | (simp only [tbV, hp1, ↓reduceIte, Bool.false_eq_true]; rfl) | rfl, by first | with_reducible rfl | (simp only [tbV, hp1, ↓reduceIte, Bool.false_eq_true]; done) | (simp only [tbV, hp1, ↓reduceIte, Bool.false_eq_true]; rfl) | rfl, rfl⟩)
  · try dsimp only [Option.toList, List.cons_append, List.nil_append]
    have hXhp1 := (inC_6 hp1)
    refine lv_astore_n (lv' := [(2, .ref (ad (47 + 57 * (bz ((σ 0) 1)) + 6 * ((σ 8) sl.toNatClampNeg).toNatClampNeg))), (0, .ref (ad 0)), (1, .int sl)]) hx hb dX8_takeBackValue_16 rfl hl (by decide) rfl (fun ls hl => ?_)
    refine lv_aload_n hx hb dX8_takeBackValue_17 rfl (lv_at hl 0 rfl) ?_
    refine lv_ifnull hx hb dX8_takeBackValue_18 ?_
    refine lv_aload_n hx hb dX8_takeBackValue_21 rfl (lv_at hl 0 rfl) ?_
    refine lv_aload_n hx hb dX8_takeBackValue_22 rfl (lv_at hl 1 rfl) ?_
    refine fgetx hx hb ht inG8 hown hK hP (k := 0) (by decide) (x := (σ 0)) rfl (sh_desk _ _) rfl 3 (by decide) gw_354 (v := .ref (ad 6)) rfl dX8_takeBackValue_23 ?_
    refine fgetxN hx hb ht inG3 hown hK hP (k := 6) (by decide) (x := (σ 6)) rfl (sh_hist _ _) rfl 2 (by decide) (hN.get 328 nw_328 rfl) (v := .ref (ad 9)) rfl dX8_takeBackValue_26 ?_
    refine lv_iload_n hx hb dX8_takeBackValue_29 rfl (lv_at hl 2 rfl) ?_
    refine aldj hx hb hK hP (k := 9) (by decide) (x := (σ 9)) rfl 0 (sh_h9 _ _) rfl hsl (j := sl.toNatClampNeg) rfl dX8_takeBackValue_30 ?_
    refine lv_aload_n hx hb dX8_takeBackValue_31 rfl (lv_at hl 1 rfl) ?_
    refine fgetx hx hb ht inG8 hown hK hP (k := 0) (by decide) (x := (σ 0)) rfl (sh_desk _ _) rfl 3 (by decide) gw_354 (v := .ref (ad 6)) rfl dX8_takeBackValue_32 ?_
    refine fgetxN hx hb ht inG3 hown hK hP (k := 6) (by decide) (x := (σ 6)) rfl (sh_hist _ _) rfl 3 (by decide) (hN.get 330 nw_330 rfl) (v := .ref (ad 10)) rfl dX8_takeBackValue_35 ?_
    refine lv_iload_n hx hb dX8_takeBackValue_38 rfl (lv_at hl 2 rfl) ?_
    refine aldj hx hb hK hP (k := 10) (by decide) (x := (σ 10)) rfl 0 (sh_h10 _ _) rfl hsl (j := sl.toNatClampNeg) rfl dX8_takeBackValue_39 ?_
    refine lv_aload_n hx hb dX8_takeBackValue_40 rfl (lv_at hl 1 rfl) ?_
    refine fgetx hx hb ht inG8 hown hK hP (k := 0) (by decide) (x := (σ 0)) rfl (sh_desk _ _) rfl 3 (by decide) gw_354 (v := .ref (ad 6)) rfl dX8_takeBackValue_41 ?_
    refine fgetxN hx hb ht inG3 hown hK hP (k := 6) (by decide) (x := (σ 6)) rfl (sh_hist _ _) rfl 4 (by decide) (hN.get 332 nw_332 rfl) (v := .ref (ad 11)) rfl dX8_takeBackValue_44 ?_
    refine lv_iload_n hx hb dX8_takeBackValue_47 rfl (lv_at hl 2 rfl) ?_
    refine aldj hx hb hK hP (k := 11) (by decide) (x := (σ 11)) rfl 0 (sh_h11 _ _) rfl hsl (j := sl.toNatClampNeg) rfl dX8_takeBackValue_48 ?_
    refine callv (y := yX4_put) ⟨hx, hb, hml, hown, ht⟩ hK hN hP hS (k := (47 + 57 * (bz ((σ 0) 1)) + 6 * ((σ 8) sl.toNatClampNeg).toNatClampNeg)) (c_X4_put l D ca ad hI σ τ (bz_lt _) (inC_6 hp1) ((σ 9) sl.toNatClampNeg) ((σ 10) sl.toNatClampNeg) ((σ 11) sl.toNatClampNeg)) (by have b0_ : (bz ((σ 0) 1)) < 2 := (bz_lt _); have b1_ : ((σ 8) sl.toNatClampNeg).toNatClampNeg < 6 := (inC_6 hp1); omega) (sh_indx _ _ (bz_lt _) (inC_6 hp1)) rfl ok_X4_put gw_730 ⟨by decide, by decide⟩ rfl hl.1 rfl (Nat.le_of_ble_eq_true rfl) ⟨by decide, by decide⟩ dX8_takeBackValue_49 (fun v_ S_ T_ H locs hp2 hP hS => ?_)
    obtain ⟨rfl, rfl, rfl⟩ := hp2
    try dsimp only [Option.toList, List.cons_append, List.nil_append]
    exact ret_v hx hb hr hlk hP hS dX8_takeBackValue_52 (⟨by first | with_reducible rfl | (simp only [tbV, hp1, ↓reduceIte, Bool.false_eq_true]; done) | (simp only [tbV, hp1, ↓reduceIte, Bool.false_eq_true]; rfl) | rfl, by first | with_reducible rfl | (simp only [tbV, hp1, ↓reduceIte, Bool.false_eq_true]; done) | (simp only [tbV, hp1, ↓reduceIte, Bool.false_eq_true]; rfl) | rfl, rfl⟩)
set_option maxHeartbeats 4000000 in
set_option maxRecDepth 100000 in
theorem c_X8_takeBackRebasing (l : Launch) (D : va_G) (ca : Nat → ClassId) (ad : Nat → Nat) (hI : Inj 158 ad) (σ : MI) (τ : ML) {sl : Int32} (hsl : vp_in sl 8) : CT l D (TY ca) 158 ad (cxf ca ad) yX8_takeBackRebasing cX8_takeBackRebasing 3 none 1 21 [.ref (ad 0), .int sl] σ τ (fun v_ S_ T_ => none = v_ ∧ (tbR σ sl) = S_ ∧ τ = T_) := by
  refine CT.of (by decide) (Nat.le_of_ble_eq_true rfl) ?_
  intro p e s m args below meth c hx hb hr ht hown hlk hml hP hK hN hS ls hl
  have hl : lv_has ls 3 [(0, .ref (ad 0)), (1, .int sl)] := hl
  have hbz := bz_lt (σ 0 1)
  refine lv_aload_n hx hb dX8_takeBackRebasing_0 rfl (lv_at hl 0 rfl) ?_
  refine fgetx hx hb ht inG8 hown hK hP (k := 0) (by decide) (x := (σ 0)) rfl (sh_desk _ _) rfl 1 (by decide) gw_352 (v := .ref (ad (44 + 57 * (bz ((σ 0) 1))))) rfl dX8_takeBackRebasing_1 ?_
  refine lv_aload_n hx hb dX8_takeBackRebasing_4 rfl (lv_at hl 0 rfl) ?_
  refine fgetx hx hb ht inG8 hown hK hP (k := 0) (by decide) (x := (σ 0)) rfl (sh_desk _ _) rfl 3 (by decide) gw_354 (v := .ref (ad 6)) rfl dX8_takeBackRebasing_5 ?_
  refine fgetxN hx hb ht inG3 hown hK hP (k := 6) (by decide) (x := (σ 6)) rfl (sh_hist _ _) rfl 1 (by decide) (hN.get 326 nw_326 rfl) (v := .ref (ad 8)) rfl dX8_takeBackRebasing_8 ?_
  refine lv_iload_n hx hb dX8_takeBackRebasing_11 rfl (lv_at hl 1 rfl) ?_
  refine aldj hx hb hK hP (k := 8) (by decide) (x := (σ 8)) rfl 0 (sh_h8 _ _) rfl hsl (j := sl.toNatClampNeg) rfl dX8_takeBackRebasing_12 ?_
  refine callv (y := yX0_indexAt) ⟨hx, hb, hml, hown, ht⟩ hK hN hP hS (k := (44 + 57 * (bz ((σ 0) 1)))) (c_X0_indexAt l D ca ad hI σ τ (bz_lt _) ((σ 8) sl.toNatClampNeg)) (by have b0_ : (bz ((σ 0) 1)) < 2 := (bz_lt _); omega) (sh_book _ _ (bz_lt _)) rfl ok_X0_indexAt gw_609 ⟨by decide, by decide⟩ rfl hl.1 rfl (Nat.le_of_ble_eq_true rfl) ⟨by decide, by decide⟩ dX8_takeBackRebasing_13 (fun v_ S_ T_ H locs hp1 hP hS => ?_)
  rcases hp1 with ⟨hp1, rfl, rfl, rfl⟩ | ⟨hp1, rfl, rfl, rfl⟩
  · try dsimp only [Option.toList, List.cons_append, List.nil_append]
    refine lv_astore_nN (lv' := [(2, .null), (0, .ref (ad 0)), (1, .int sl)]) hx hb dX8_takeBackRebasing_16 rfl hl (by decide) rfl (fun ls hl => ?_)
    refine lv_aload_nN hx hb dX8_takeBackRebasing_17 rfl (lv_at hl 0 rfl) ?_
    refine lv_ifnullN (tgt := 38) hx hb dX8_takeBackRebasing_18 (by decide) ?_
    exact ret_v hx hb hr hlk hP hS dX8_takeBackRebasing_38 (⟨by first | with_reducible rfl | (simp only [tbR, hp1, ↓reduceIte, Bool.false_eq_true]; done) | (simp only [tbR, hp1, ↓reduceIte, Bool.false_eq_true]; rfl) | rfl, by first | with_reducible rfl | (simp only [tbR, hp1, ↓reduceIte, Bool.false_eq_true]; done) | (simp only [tbR, hp1, ↓reduceIte, Bool.false_eq_true]; rfl) | rfl, rfl⟩)
  · try dsimp only [Option.toList, List.cons_append, List.nil_append]
    have hXhp1 := (inC_6 hp1)
    refine lv_astore_n (lv' := [(2, .ref (ad (47 + 57 * (bz ((σ 0) 1)) + 6 * ((σ 8) sl.toNatClampNeg).toNatClampNeg))), (0, .ref (ad 0)), (1, .int sl)]) hx hb dX8_takeBackRebasing_16 rfl hl (by decide) rfl (fun ls hl => ?_)
    refine lv_aload_n hx hb dX8_takeBackRebasing_17 rfl (lv_at hl 0 rfl) ?_
    refine lv_ifnull hx hb dX8_takeBackRebasing_18 ?_
    refine lv_aload_n hx hb dX8_takeBackRebasing_21 rfl (lv_at hl 0 rfl) ?_
    refine fgetxN hx hb ht inG4 hown hK hP (k := (47 + 57 * (bz ((σ 0) 1)) + 6 * ((σ 8) sl.toNatClampNeg).toNatClampNeg)) (by have b0_ : (bz ((σ 0) 1)) < 2 := (bz_lt _); have b1_ : ((σ 8) sl.toNatClampNeg).toNatClampNeg < 6 := (inC_6 hp1); omega) (x := (σ (47 + 57 * (bz ((σ 0) 1)) + 6 * ((σ 8) sl.toNatClampNeg).toNatClampNeg))) rfl (sh_indx _ _ (bz_lt _) (inC_6 hp1)) rfl 5 (by decide) (hN.get 144 nw_144 rfl) (v := .int ((σ (47 + 57 * (bz ((σ 0) 1)) + 6 * ((σ 8) sl.toNatClampNeg).toNatClampNeg)) 5)) rfl dX8_takeBackRebasing_22 ?_
    refine lv_if_le (tgt := 38) hx hb dX8_takeBackRebasing_25 (by decide) (fun c2 => ?_) (fun c2 => ?_)
    · have dc2 := c2
      rw [i_le] at dc2
      exact ret_v hx hb hr hlk hP hS dX8_takeBackRebasing_38 (⟨by first | with_reducible rfl | (simp only [tbR, hp1, c2, ↓reduceIte, Bool.false_eq_true]; done) | (simp only [tbR, hp1, c2, ↓reduceIte, Bool.false_eq_true]; rfl) | rfl, by first | with_reducible rfl | (simp only [tbR, hp1, c2, ↓reduceIte, Bool.false_eq_true]; done) | (simp only [tbR, hp1, c2, ↓reduceIte, Bool.false_eq_true]; rfl) | rfl, rfl⟩)
    · have dc2 := c2
      rw [i_le] at dc2
      refine lv_aload_n hx hb dX8_takeBackRebasing_28 rfl (lv_at hl 0 rfl) ?_
      refine lv_dup hx hb dX8_takeBackRebasing_29 rfl ?_
      refine fgetxN hx hb ht inG4 hown hK hP (k := (47 + 57 * (bz ((σ 0) 1)) + 6 * ((σ 8) sl.toNatClampNeg).toNatClampNeg)) (by have b0_ : (bz ((σ 0) 1)) < 2 := (bz_lt _); have b1_ : ((σ 8) sl.toNatClampNeg).toNatClampNeg < 6 := (inC_6 hp1); omega) (x := (σ (47 + 57 * (bz ((σ 0) 1)) + 6 * ((σ 8) sl.toNatClampNeg).toNatClampNeg))) rfl (sh_indx _ _ (bz_lt _) (inC_6 hp1)) rfl 5 (by decide) (hN.get 144 nw_144 rfl) (v := .int ((σ (47 + 57 * (bz ((σ 0) 1)) + 6 * ((σ 8) sl.toNatClampNeg).toNatClampNeg)) 5)) rfl dX8_takeBackRebasing_30 ?_
      refine lv_iconst (v := 1) hx hb dX8_takeBackRebasing_33 (by decide) ?_
      refine lv_isub hx hb dX8_takeBackRebasing_34 ?_
      refine fputxN (ref := "") (w := ((σ (47 + 57 * (bz ((σ 0) 1)) + 6 * ((σ 8) sl.toNatClampNeg).toNatClampNeg)) 5) - 1) hx hb ht inG4 tyX4 tyX4_ok nmX4 hown hK hP hI hS (k := (47 + 57 * (bz ((σ 0) 1)) + 6 * ((σ 8) sl.toNatClampNeg).toNatClampNeg)) (by have b0_ : (bz ((σ 0) 1)) < 2 := (bz_lt _); have b1_ : ((σ 8) sl.toNatClampNeg).toNatClampNeg < 6 := (inC_6 hp1); omega) (sh_indx _ _ (bz_lt _) (inC_6 hp1)) rfl 5 (by decide) (hN.get 144 nw_144 rfl) rfl rfl rfl (Nat.le_of_ble_eq_true rfl) (sh_indx _ _ (bz_lt _) (inC_6 hp1)) dX8_takeBackRebasing_35 (fun H locs hP hS => ?_)
      exact ret_v hx hb hr hlk hP hS dX8_takeBackRebasing_38 (⟨by first | with_reducible rfl | (simp only [tbR, hp1, c2, ↓reduceIte, Bool.false_eq_true]; done) | (simp only [tbR, hp1, c2, ↓reduceIte, Bool.false_eq_true]; rfl) | rfl, by first | with_reducible rfl | (simp only [tbR, hp1, c2, ↓reduceIte, Bool.false_eq_true]; done) | (simp only [tbR, hp1, c2, ↓reduceIte, Bool.false_eq_true]; rfl) | rfl, rfl⟩)
set_option maxHeartbeats 4000000 in
set_option maxRecDepth 100000 in
theorem c_X8_takeBackClose (l : Launch) (D : va_G) (ca : Nat → ClassId) (ad : Nat → Nat) (hI : Inj 158 ad) (σ : MI) (τ : ML)  : CT l D (TY ca) 158 ad (cxf ca ad) yX8_takeBackClose cX8_takeBackClose 1 none 2 42 [.ref (ad 0)] σ τ (fun v_ S_ T_ => none = v_ ∧ (tbC σ τ) = S_ ∧ (tbT σ τ) = T_) := by
  refine CT.of (by decide) (Nat.le_of_ble_eq_true rfl) ?_
  intro p e s m args below meth c hx hb hr ht hown hlk hml hP hK hN hS ls hl
  have hl : lv_has ls 1 [(0, .ref (ad 0))] := hl
  have hbz := bz_lt (σ 0 1)
  refine lv_aload_n hx hb dX8_takeBackClose_0 rfl (lv_at hl 0 rfl) ?_
  refine fgetx hx hb ht inG8 hown hK hP (k := 0) (by decide) (x := (σ 0)) rfl (sh_desk _ _) rfl 1 (by decide) gw_352 (v := .ref (ad (44 + 57 * (bz ((σ 0) 1))))) rfl dX8_takeBackClose_1 ?_
  refine fgetxN hx hb ht inG0 hown hK hP (k := (44 + 57 * (bz ((σ 0) 1)))) (by have b0_ : (bz ((σ 0) 1)) < 2 := (bz_lt _); omega) (x := (σ (44 + 57 * (bz ((σ 0) 1))))) rfl (sh_book _ _ (bz_lt _)) rfl 0 (by decide) (hN.get 215 nw_215 rfl) (v := .int ((σ (44 + 57 * (bz ((σ 0) 1)))) 0)) rfl dX8_takeBackClose_4 ?_
  refine lv_if_le (tgt := 37) hx hb dX8_takeBackClose_7 (by decide) (fun c1 => ?_) (fun c1 => ?_)
  · have dc1 := c1
    rw [i_le] at dc1
    exact ret_v hx hb hr hlk hP hS dX8_takeBackClose_37 (⟨by first | with_reducible rfl | (simp only [tbC, tbT, tbN, c1, ↓reduceIte, Bool.false_eq_true]; done) | (simp only [tbC, tbT, tbN, c1, ↓reduceIte, Bool.false_eq_true]; rfl), by first | with_reducible rfl | (simp only [tbC, tbT, tbN, c1, ↓reduceIte, Bool.false_eq_true]; done) | (simp only [tbC, tbT, tbN, c1, ↓reduceIte, Bool.false_eq_true]; rfl), by first | with_reducible rfl | (simp only [tbC, tbT, tbN, c1, ↓reduceIte, Bool.false_eq_true]; done) | (simp only [tbC, tbT, tbN, c1, ↓reduceIte, Bool.false_eq_true]; rfl)⟩)
  · have dc1 := c1
    rw [i_le] at dc1
    refine lv_aload_n hx hb dX8_takeBackClose_10 rfl (lv_at hl 0 rfl) ?_
    refine fgetx hx hb ht inG8 hown hK hP (k := 0) (by decide) (x := (σ 0)) rfl (sh_desk _ _) rfl 1 (by decide) gw_352 (v := .ref (ad (44 + 57 * (bz ((σ 0) 1))))) rfl dX8_takeBackClose_11 ?_
    refine lv_dup hx hb dX8_takeBackClose_14 rfl ?_
    refine fgetxN hx hb ht inG0 hown hK hP (k := (44 + 57 * (bz ((σ 0) 1)))) (by have b0_ : (bz ((σ 0) 1)) < 2 := (bz_lt _); omega) (x := (σ (44 + 57 * (bz ((σ 0) 1))))) rfl (sh_book _ _ (bz_lt _)) rfl 0 (by decide) (hN.get 215 nw_215 rfl) (v := .int ((σ (44 + 57 * (bz ((σ 0) 1)))) 0)) rfl dX8_takeBackClose_15 ?_
    refine lv_iconst (v := 1) hx hb dX8_takeBackClose_18 (by decide) ?_
    refine lv_isub hx hb dX8_takeBackClose_19 ?_
    refine fputxN (ref := "") (w := ((σ (44 + 57 * (bz ((σ 0) 1)))) 0) - 1) hx hb ht inG0 tyX0 tyX0_ok nmX0 hown hK hP hI hS (k := (44 + 57 * (bz ((σ 0) 1)))) (by have b0_ : (bz ((σ 0) 1)) < 2 := (bz_lt _); omega) (sh_book _ _ (bz_lt _)) rfl 0 (by decide) (hN.get 215 nw_215 rfl) rfl rfl rfl (Nat.le_of_ble_eq_true rfl) (sh_book _ _ (bz_lt _)) dX8_takeBackClose_20 (fun H locs hP hS => ?_)
    refine lv_aload_n hx hb dX8_takeBackClose_23 rfl (lv_at hl 0 rfl) ?_
    refine fgetx hx hb ht inG8 hown hK hP (k := 0) (by decide) (x := (σ 0)) (s2_nk _ _ _ (by omega)) (sh_desk _ _) rfl 2 (by decide) gw_353 (v := .ref (ad 12)) rfl dX8_takeBackClose_24 ?_
    refine lv_aload_n hx hb dX8_takeBackClose_27 rfl (lv_at hl 0 rfl) ?_
    refine fgetx hx hb ht inG8 hown hK hP (k := 0) (by decide) (x := (σ 0)) (s2_nk _ _ _ (by omega)) (sh_desk _ _) rfl 1 (by decide) gw_352 (v := .ref (ad (44 + 57 * (bz ((σ 0) 1))))) rfl dX8_takeBackClose_28 ?_
    refine fgetxN hx hb ht inG0 hown hK hP (k := (44 + 57 * (bz ((σ 0) 1)))) (by have b0_ : (bz ((σ 0) 1)) < 2 := (bz_lt _); omega) (x := (upd (σ (44 + 57 * (bz ((σ 0) 1)))) 0 (((σ (44 + 57 * (bz ((σ 0) 1)))) 0) - 1))) (s2_k _ _ _ _) (sh_book _ _ (bz_lt _)) rfl 0 (by decide) (hN.get 215 nw_215 rfl) (v := .int (((σ (44 + 57 * (bz ((σ 0) 1)))) 0) - 1)) rfl dX8_takeBackClose_31 ?_
    refine callv (y := yX5_unsettle) ⟨hx, hb, hml, hown, ht⟩ hK hN hP hS (k := 12) (c_X5_unsettle l D ca ad hI (s2 σ (44 + 57 * (bz ((σ 0) 1))) 0 (((σ (44 + 57 * (bz ((σ 0) 1)))) 0) - 1)) τ (((σ (44 + 57 * (bz ((σ 0) 1)))) 0) - 1)) (by decide) (sh_ledg _ _) rfl ok_X5_unsettle gw_807 ⟨by decide, by decide⟩ rfl hl.1 rfl (Nat.le_of_ble_eq_true rfl) ⟨by decide, by decide⟩ dX8_takeBackClose_34 (fun v_ S_ T_ H locs hp2 hP hS => ?_)
    obtain ⟨rfl, rfl, rfl⟩ := hp2
    try dsimp only [Option.toList, List.cons_append, List.nil_append]
    exact ret_v hx hb hr hlk hP hS dX8_takeBackClose_37 (⟨by first | with_reducible rfl | (simp only [tbC, tbT, tbN, c1, ↓reduceIte, Bool.false_eq_true]; done) | (simp only [tbC, tbT, tbN, c1, ↓reduceIte, Bool.false_eq_true]; rfl), by first | with_reducible rfl | (simp only [tbC, tbT, tbN, c1, ↓reduceIte, Bool.false_eq_true]; done) | (simp only [tbC, tbT, tbN, c1, ↓reduceIte, Bool.false_eq_true]; rfl), by first | with_reducible rfl | (simp only [tbC, tbT, tbN, c1, ↓reduceIte, Bool.false_eq_true]; done) | (simp only [tbC, tbT, tbN, c1, ↓reduceIte, Bool.false_eq_true]; rfl)⟩)
set_option maxHeartbeats 4000000 in
set_option maxRecDepth 100000 in
theorem c_X8_undo (l : Launch) (D : va_G) (ca : Nat → ClassId) (ad : Nat → Nat) (hI : Inj 158 ad) (σ : MI) (τ : ML)  : CT l D (TY ca) 158 ad (cxf ca ad) yX8_undo cX8_undo 2 (some .int) 3 65 [.ref (ad 0)] σ τ (fun v_ S_ T_ => some (.int (unR σ τ)) = v_ ∧ (unM σ τ) = S_ ∧ (unT σ τ) = T_) := by
  refine CT.of (by decide) (Nat.le_of_ble_eq_true rfl) ?_
  intro p e s m args below meth c hx hb hr ht hown hlk hml hP hK hN hS ls hl
  have hl : lv_has ls 2 [(0, .ref (ad 0))] := hl
  have hbz := bz_lt (σ 0 1)
  refine lv_aload_n hx hb dX8_undo_0 rfl (lv_at hl 0 rfl) ?_
  refine fgetx hx hb ht inG8 hown hK hP (k := 0) (by decide) (x := (σ 0)) rfl (sh_desk _ _) rfl 3 (by decide) gw_354 (v := .ref (ad 6)) rfl dX8_undo_1 ?_
  refine callv (y := yX3_takeLatest) ⟨hx, hb, hml, hown, ht⟩ hK hN hP hS (k := 6) (c_X3_takeLatest l D ca ad hI σ τ ) (by decide) (sh_hist _ _) rfl ok_X3_takeLatest gw_787 ⟨by decide, by decide⟩ rfl hl.1 rfl (Nat.le_of_ble_eq_true rfl) ⟨by decide, by decide⟩ dX8_undo_4 (fun v_ S_ T_ H locs hp1 hP hS => ?_)
  obtain ⟨rfl, rfl, rfl⟩ := hp1
  try dsimp only [Option.toList, List.cons_append, List.nil_append]
  refine lv_istore_n (lv' := [(1, .int (tlR σ)), (0, .ref (ad 0))]) hx hb dX8_undo_7 rfl hl (by decide) rfl (fun ls hl => ?_)
  refine lv_iload_n hx hb dX8_undo_8 rfl (lv_at hl 0 rfl) ?_
  refine lv_if_lt (tgt := 18) hx hb dX8_undo_9 (by decide) (fun c2 => ?_) (fun c2 => ?_)
  · have dc2 := c2
    rw [i_lt] at dc2
    refine lv_iconst (v := -1) hx hb dX8_undo_18 (by decide) ?_
    exact ret_i hx hb hr hlk hP hS dX8_undo_19 (⟨by first | with_reducible rfl | (simp only [unR, unM, unT, c2, ↓reduceIte, Bool.false_eq_true]; done) | (simp only [unR, unM, unT, c2, ↓reduceIte, Bool.false_eq_true]; rfl), by first | with_reducible rfl | (simp only [unR, unM, unT, c2, ↓reduceIte, Bool.false_eq_true]; done) | (simp only [unR, unM, unT, c2, ↓reduceIte, Bool.false_eq_true]; rfl), by first | with_reducible rfl | (simp only [unR, unM, unT, c2, ↓reduceIte, Bool.false_eq_true]; done) | (simp only [unR, unM, unT, c2, ↓reduceIte, Bool.false_eq_true]; rfl)⟩)
  · have dc2 := c2
    rw [i_lt] at dc2
    refine lv_iload_n hx hb dX8_undo_12 rfl (lv_at hl 0 rfl) ?_
    refine lv_bipush (v := 8) hx hb dX8_undo_13 (by decide) ?_
    refine lv_icmp_lt (tgt := 20) hx hb dX8_undo_15 (by decide) (fun c3 => ?_) (fun c3 => ?_)
    · have dc3 := c3
      rw [i_lt] at dc3
      refine lv_aload_n hx hb dX8_undo_20 rfl (lv_at hl 1 rfl) ?_
      refine fgetx hx hb ht inG8 hown hK hP (k := 0) (by decide) (x := (σ 0)) (tlS_ne _ (by omega)) (sh_desk _ _) rfl 3 (by decide) gw_354 (v := .ref (ad 6)) rfl dX8_undo_21 ?_
      refine fgetxN hx hb ht inG3 hown hK hP (k := 6) (by decide) (x := ((tlS σ) 6)) rfl (sh_hist _ _) rfl 0 (by decide) (hN.get 324 nw_324 rfl) (v := .ref (ad 7)) rfl dX8_undo_24 ?_
      refine lv_iload_n hx hb dX8_undo_27 rfl (lv_at hl 0 rfl) ?_
      refine aldj hx hb hK hP (k := 7) (by decide) (x := (σ 7)) (tlS_ne _ (by omega)) 0 (sh_h7 _ _) rfl (in_lt2 (n := 8) ‹_› ‹_› rfl) (j := (tlR σ).toNatClampNeg) rfl dX8_undo_28 ?_
      rcases tab_cases ((σ 7) ((tlR σ).toNatClampNeg)) 3 (by decide) with c4 | ⟨k_, hk_, c4⟩
      · refine lv_tableOut (tgt := 82) hx hb dX8_undo_29 (by omega) (by decide) ?_
        refine lv_aload_n hx hb dX8_undo_82 rfl (lv_at hl 1 rfl) ?_
        refine callv (y := yX8_takeBackClose) ⟨hx, hb, hml, hown, ht⟩ hK hN hP hS (k := 0) (c_X8_takeBackClose l D ca ad hI (tlS σ) τ ) (by decide) (sh_desk _ _) rfl ok_X8_takeBackClose gw_803 ⟨by decide, by decide⟩ rfl hl.1 rfl (Nat.le_of_ble_eq_true rfl) ⟨by decide, by decide⟩ dX8_undo_83 (fun v_ S_ T_ H locs hp5 hP hS => ?_)
        obtain ⟨rfl, rfl, rfl⟩ := hp5
        try dsimp only [Option.toList, List.cons_append, List.nil_append]
        refine lv_aload_n hx hb dX8_undo_86 rfl (lv_at hl 1 rfl) ?_
        refine fgetx hx hb ht inG8 hown hK hP (k := 0) (by decide) (x := ((tbC (tlS σ) τ) 0)) rfl (sh_desk _ _) rfl 3 (by decide) gw_354 (v := .ref (ad 6)) rfl dX8_undo_87 ?_
        refine fgetxN hx hb ht inG3 hown hK hP (k := 6) (by decide) (x := ((tbC (tlS σ) τ) 6)) rfl (sh_hist _ _) rfl 6 (by decide) (hN.get 335 nw_335 rfl) (v := .int (((tbC (tlS σ) τ) 6) 6)) rfl dX8_undo_90 ?_
        exact ret_i hx hb hr hlk hP hS dX8_undo_93 (⟨by first | with_reducible rfl | (simp only [unR, unM, unT, c2, c3, swt_out c4, ↓reduceIte, Bool.false_eq_true]; done) | (simp only [unR, unM, unT, c2, c3, swt_out c4, ↓reduceIte, Bool.false_eq_true]; rfl), by first | with_reducible rfl | (simp only [unR, unM, unT, c2, c3, swt_out c4, ↓reduceIte, Bool.false_eq_true]; done) | (simp only [unR, unM, unT, c2, c3, swt_out c4, ↓reduceIte, Bool.false_eq_true]; rfl), by first | with_reducible rfl | (simp only [unR, unM, unT, c2, c3, swt_out c4, ↓reduceIte, Bool.false_eq_true]; done) | (simp only [unR, unM, unT, c2, c3, swt_out c4, ↓reduceIte, Bool.false_eq_true]; rfl)⟩)
      · rcases (by omega : k_ = 0 ∨ k_ = 1 ∨ k_ = 2) with rfl | rfl | rfl
        · refine lv_tableIn (tgt := 56) hx hb dX8_undo_29 (by rw [c4]; decide) (by rw [c4]; decide) (by rw [c4]; rfl) (by decide) ?_
          refine lv_aload_n hx hb dX8_undo_56 rfl (lv_at hl 1 rfl) ?_
          refine lv_iload_n hx hb dX8_undo_57 rfl (lv_at hl 0 rfl) ?_
          refine callv (y := yX8_takeBackValue) ⟨hx, hb, hml, hown, ht⟩ hK hN hP hS (k := 0) (c_X8_takeBackValue l D ca ad hI (tlS σ) τ (in_lt2 (n := 8) ‹_› ‹_› rfl)) (by decide) (sh_desk _ _) rfl ok_X8_takeBackValue gw_791 ⟨by decide, by decide⟩ rfl hl.1 rfl (Nat.le_of_ble_eq_true rfl) ⟨by decide, by decide⟩ dX8_undo_58 (fun v_ S_ T_ H locs hp6 hP hS => ?_)
          obtain ⟨rfl, rfl, rfl⟩ := hp6
          try dsimp only [Option.toList, List.cons_append, List.nil_append]
          refine lv_goto (tgt := 86) hx hb dX8_undo_61 (by decide) ?_
          refine lv_aload_n hx hb dX8_undo_86 rfl (lv_at hl 1 rfl) ?_
          refine fgetx hx hb ht inG8 hown hK hP (k := 0) (by decide) (x := ((tbV (tlS σ) (tlR σ)) 0)) rfl (sh_desk _ _) rfl 3 (by decide) gw_354 (v := .ref (ad 6)) rfl dX8_undo_87 ?_
          refine fgetxN hx hb ht inG3 hown hK hP (k := 6) (by decide) (x := ((tbV (tlS σ) (tlR σ)) 6)) rfl (sh_hist _ _) rfl 6 (by decide) (hN.get 335 nw_335 rfl) (v := .int (((tbV (tlS σ) (tlR σ)) 6) 6)) rfl dX8_undo_90 ?_
          exact ret_i hx hb hr hlk hP hS dX8_undo_93 (⟨by first | with_reducible rfl | (simp only [unR, unM, unT, c2, c3, c4, ↓reduceIte, Bool.false_eq_true]; done) | (simp only [unR, unM, unT, c2, c3, c4, ↓reduceIte, Bool.false_eq_true]; rfl), by first | with_reducible rfl | (simp only [unR, unM, unT, c2, c3, c4, ↓reduceIte, Bool.false_eq_true]; done) | (simp only [unR, unM, unT, c2, c3, c4, ↓reduceIte, Bool.false_eq_true]; rfl), by first | with_reducible rfl | (simp only [unR, unM, unT, c2, c3, c4, ↓reduceIte, Bool.false_eq_true]; done) | (simp only [unR, unM, unT, c2, c3, c4, ↓reduceIte, Bool.false_eq_true]; rfl)⟩)
        · refine lv_tableIn (tgt := 64) hx hb dX8_undo_29 (by rw [c4]; decide) (by rw [c4]; decide) (by rw [c4]; rfl) (by decide) ?_
          refine lv_aload_n hx hb dX8_undo_64 rfl (lv_at hl 1 rfl) ?_
          refine lv_iload_n hx hb dX8_undo_65 rfl (lv_at hl 0 rfl) ?_
          refine callv (y := yX8_takeBackRebasing) ⟨hx, hb, hml, hown, ht⟩ hK hN hP hS (k := 0) (c_X8_takeBackRebasing l D ca ad hI (tlS σ) τ (in_lt2 (n := 8) ‹_› ‹_› rfl)) (by decide) (sh_desk _ _) rfl ok_X8_takeBackRebasing gw_795 ⟨by decide, by decide⟩ rfl hl.1 rfl (Nat.le_of_ble_eq_true rfl) ⟨by decide, by decide⟩ dX8_undo_66 (fun v_ S_ T_ H locs hp7 hP hS => ?_)
          obtain ⟨rfl, rfl, rfl⟩ := hp7
          try dsimp only [Option.toList, List.cons_append, List.nil_append]
          refine lv_goto (tgt := 86) hx hb dX8_undo_69 (by decide) ?_
          refine lv_aload_n hx hb dX8_undo_86 rfl (lv_at hl 1 rfl) ?_
          refine fgetx hx hb ht inG8 hown hK hP (k := 0) (by decide) (x := ((tbR (tlS σ) (tlR σ)) 0)) rfl (sh_desk _ _) rfl 3 (by decide) gw_354 (v := .ref (ad 6)) rfl dX8_undo_87 ?_
          refine fgetxN hx hb ht inG3 hown hK hP (k := 6) (by decide) (x := ((tbR (tlS σ) (tlR σ)) 6)) rfl (sh_hist _ _) rfl 6 (by decide) (hN.get 335 nw_335 rfl) (v := .int (((tbR (tlS σ) (tlR σ)) 6) 6)) rfl dX8_undo_90 ?_
          exact ret_i hx hb hr hlk hP hS dX8_undo_93 (⟨by first | with_reducible rfl | (simp only [unR, unM, unT, c2, c3, c4, ↓reduceIte, Bool.false_eq_true]; done) | (simp only [unR, unM, unT, c2, c3, c4, ↓reduceIte, Bool.false_eq_true]; rfl), by first | with_reducible rfl | (simp only [unR, unM, unT, c2, c3, c4, ↓reduceIte, Bool.false_eq_true]; done) | (simp only [unR, unM, unT, c2, c3, c4, ↓reduceIte, Bool.false_eq_true]; rfl), by first | with_reducible rfl | (simp only [unR, unM, unT, c2, c3, c4, ↓reduceIte, Bool.false_eq_true]; done) | (simp only [unR, unM, unT, c2, c3, c4, ↓reduceIte, Bool.false_eq_true]; rfl)⟩)
        · refine lv_tableIn (tgt := 72) hx hb dX8_undo_29 (by rw [c4]; decide) (by rw [c4]; decide) (by rw [c4]; rfl) (by decide) ?_
          refine lv_aload_n hx hb dX8_undo_72 rfl (lv_at hl 1 rfl) ?_
          refine fgetx hx hb ht inG8 hown hK hP (k := 0) (by decide) (x := (σ 0)) (tlS_ne _ (by omega)) (sh_desk _ _) rfl 2 (by decide) gw_353 (v := .ref (ad 12)) rfl dX8_undo_73 ?_
          refine callv (y := yX5_dropLatest) ⟨hx, hb, hml, hown, ht⟩ hK hN hP hS (k := 12) (c_X5_dropLatest l D ca ad hI (tlS σ) τ ) (by decide) (sh_ledg _ _) rfl ok_X5_dropLatest gw_799 ⟨by decide, by decide⟩ rfl hl.1 rfl (Nat.le_of_ble_eq_true rfl) ⟨by decide, by decide⟩ dX8_undo_76 (fun v_ S_ T_ H locs hp8 hP hS => ?_)
          obtain ⟨rfl, rfl, rfl⟩ := hp8
          try dsimp only [Option.toList, List.cons_append, List.nil_append]
          refine lv_goto (tgt := 86) hx hb dX8_undo_79 (by decide) ?_
          refine lv_aload_n hx hb dX8_undo_86 rfl (lv_at hl 1 rfl) ?_
          refine fgetx hx hb ht inG8 hown hK hP (k := 0) (by decide) (x := ((drS (tlS σ)) 0)) rfl (sh_desk _ _) rfl 3 (by decide) gw_354 (v := .ref (ad 6)) rfl dX8_undo_87 ?_
          refine fgetxN hx hb ht inG3 hown hK hP (k := 6) (by decide) (x := ((drS (tlS σ)) 6)) rfl (sh_hist _ _) rfl 6 (by decide) (hN.get 335 nw_335 rfl) (v := .int (((drS (tlS σ)) 6) 6)) rfl dX8_undo_90 ?_
          exact ret_i hx hb hr hlk hP hS dX8_undo_93 (⟨by first | with_reducible rfl | (simp only [unR, unM, unT, c2, c3, c4, ↓reduceIte, Bool.false_eq_true]; done) | (simp only [unR, unM, unT, c2, c3, c4, ↓reduceIte, Bool.false_eq_true]; rfl), by first | with_reducible rfl | (simp only [unR, unM, unT, c2, c3, c4, ↓reduceIte, Bool.false_eq_true]; done) | (simp only [unR, unM, unT, c2, c3, c4, ↓reduceIte, Bool.false_eq_true]; rfl), by first | with_reducible rfl | (simp only [unR, unM, unT, c2, c3, c4, ↓reduceIte, Bool.false_eq_true]; done) | (simp only [unR, unM, unT, c2, c3, c4, ↓reduceIte, Bool.false_eq_true]; rfl)⟩)
    · have dc3 := c3
      rw [i_lt] at dc3
      refine lv_iconst (v := -1) hx hb dX8_undo_18 (by decide) ?_
      exact ret_i hx hb hr hlk hP hS dX8_undo_19 (⟨by first | with_reducible rfl | (simp only [unR, unM, unT, c2, c3, ↓reduceIte, Bool.false_eq_true]; done) | (simp only [unR, unM, unT, c2, c3, ↓reduceIte, Bool.false_eq_true]; rfl), by first | with_reducible rfl | (simp only [unR, unM, unT, c2, c3, ↓reduceIte, Bool.false_eq_true]; done) | (simp only [unR, unM, unT, c2, c3, ↓reduceIte, Bool.false_eq_true]; rfl), by first | with_reducible rfl | (simp only [unR, unM, unT, c2, c3, ↓reduceIte, Bool.false_eq_true]; done) | (simp only [unR, unM, unT, c2, c3, ↓reduceIte, Bool.false_eq_true]; rfl)⟩)
