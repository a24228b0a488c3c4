set_option maxHeartbeats 4000000 in
set_option maxRecDepth 100000 in
theorem lp_X9_con2 {l : Launch} {D : va_G} {ca : Nat → ClassId} {ad : Nat → Nat} (hI : Inj 6 ad) {σ : MI} {τ : ML} {c_ : Nat} (h4 : σ 3 494 = nI c_) (hc6 : c_ ≤ 6) (h0 : rg (σ 3 0) 0 35) (h1 : rg (σ 3 1) 0 6) (hk0 : c_ < 6 → σ 3 (495 + 19 * c_ + 6) = 0) (hT : TI σ) {p : Program} {e : Env} {s : State} {m : MethodId} {args : Array Value} {below : List Frame} {meth : Method} {c : Code} (hx : p.tables.exec = Jvm.exec) (hb : c.code = cX9_readContract) (hr : meth.sig.returnType = (some .boolean)) (ht : ∀ w ∈ GG, w.before args s = true) (hown : s.vm.findClass yX9_readContract.cls = some m.cls) (hlk : meth.locks = false) (hml : c.maxLocals = 3) (hK : va_K D vwCl (TY ca) s) (hN : NW s) : ∀ (n : Nat) (hn : 0 < n) (ρ : MI) (υ : ML) (hT : TI ρ) (hc5 : c_ < 6) (h4r : ρ 3 494 = nI c_) (hR : mcC c_ ρ υ = mcP c_ σ τ) (H : Heap) (locs : List Loc) (hP : PW D 6 ad (mxf ca ad) ρ υ H) (hS : va_S (AA 6 ad) s.heap H locs) (ls : Array Slot) (hl : lv_has ls 3 [(1, .int (nI (495 + 19 * c_))), (0, .ref (ad 0))]), W p l e { frames := 4, cells := 0, slots := 0, locals := 92 } s m args below meth c H locs 0 0 (MQ below (QD D 6 ad (mxf ca ad) (fun v_ S_ T_ => some (.int (b2i ((mcP c_ σ τ).1))) = v_ ∧ ((mcP c_ σ τ).2.1) = S_ ∧ ((mcP c_ σ τ).2.2) = T_)) args s 0 0 (AA 6 ad)) (F0 m 106 ls []) := by
  intro n
  induction n with
  | zero => intro hn ρ υ hT hc5 h4r hR H locs hP hS ls hl; exfalso; omega
  | succ n ih =>
    intro hn ρ υ hT hc5 h4r hR H locs hP hS ls hl
    refine lv_aload_n hx hb dX9_readContract_106 rfl (lv_at hl 1 rfl) ?_
    refine lv_iconst (v := 5) hx hb dX9_readContract_107 (by decide) ?_
    refine callv (y := yX9_is) ⟨hx, hb, hml, hown, ht⟩ hK hN hP hS (k := 0) (c_X9_is l D ca ad hI ρ υ (5 : Int32)) (by decide) (sm_obj _ _) rfl ok_X9_is gw_1016 ⟨by decide, by decide⟩ rfl hl.1 rfl (Nat.le_of_ble_eq_true rfl) ⟨by decide, by decide⟩ dX9_readContract_108 (fun v_ S_ T_ H locs hp1 hP hS => ?_)
    obtain ⟨rfl, rfl, rfl⟩ := hp1
    try dsimp only [Option.toList, List.cons_append, List.nil_append]
    refine lv_istore_n (lv' := [(2, .int (b2i (mIs ρ υ (5 : Int32)))), (1, .int (nI (495 + 19 * c_))), (0, .ref (ad 0))]) hx hb dX9_readContract_111 rfl hl (by decide) rfl (fun ls hl => ?_)
    refine lv_iload_n hx hb dX9_readContract_112 rfl (lv_at hl 0 rfl) ?_
    refine br_ne (tgt := 130) hx hb dX9_readContract_113 (by decide) (fun c2 => ?_) (fun c2 => ?_)
    · refine lv_aload_n hx hb dX9_readContract_130 rfl (lv_at hl 2 rfl) ?_
      refine fgetx hx hb ht inG9 hown hK hP (k := 0) (by decide) (x := (ρ 0)) rfl (sm_obj _ _) rfl 13 (by decide) gw_952 (v := .ref (ad 3)) rfl dX9_readContract_131 ?_
      refine lv_iload_n hx hb dX9_readContract_134 rfl (lv_at hl 1 rfl) ?_
      refine lv_iconst (v := 5) hx hb dX9_readContract_135 (by decide) ?_
      refine lv_iadd hx hb dX9_readContract_136 ?_
      refine lv_iload_n hx hb dX9_readContract_137 rfl (lv_at hl 0 rfl) ?_
      refine br_eq (tgt := 145) hx hb dX9_readContract_138 (by decide) (fun c3 => ?_) (fun c3 => ?_)
      · exact absurd (c2.symm.trans c3) (by decide)
      · refine lv_iconst (v := 1) hx hb dX9_readContract_141 (by decide) ?_
        refine lv_goto (tgt := 146) hx hb dX9_readContract_142 (by decide) ?_
        refine astj hx hb hK hP hI hS (k := 3) (by decide) 0 (fun f => sm_read f _ ) rfl (by rw [ixC (J := 5) 5 rfl]; exact vp_in_nI (by omega) (by decide)) (j := (495 + 19 * c_ + 5)) (by rw [ixC (J := 5) 5 rfl]; exact nI_clamp (by omega)) dX9_readContract_146 (fun H locs hP hS => ?_)
        refine lv_aload_n hx hb dX9_readContract_147 rfl (lv_at hl 2 rfl) ?_
        refine callv (y := yX9_go) ⟨hx, hb, hml, hown, ht⟩ hK hN hP hS (k := 0) (c_X9_go l D ca ad hI (s2 ρ 3 (495 + 19 * c_ + 5) 1) υ (TI_k (by decide) hT _ _)) (by decide) (sm_obj _ _) rfl ok_X9_go gw_996 ⟨by decide, by decide⟩ rfl hl.1 rfl (Nat.le_of_ble_eq_true rfl) ⟨by decide, by decide⟩ dX9_readContract_148 (fun v_ S_ T_ H locs hp4 hP hS => ?_)
        obtain ⟨rfl, rfl, rfl⟩ := hp4
        try dsimp only [Option.toList, List.cons_append, List.nil_append]
        refine lv_aload_n hx hb dX9_readContract_151 rfl (lv_at hl 2 rfl) ?_
        refine lv_iload_n hx hb dX9_readContract_152 rfl (lv_at hl 1 rfl) ?_
        refine lv_iconst (v := 3) hx hb dX9_readContract_153 (by decide) ?_
        refine lv_iadd hx hb dX9_readContract_154 ?_
        refine lv_iconst (v := 0) hx hb dX9_readContract_155 (by decide) ?_
        refine lv_sipush (v := 999) hx hb dX9_readContract_156 (by decide) ?_
        refine callv (y := yX9_told) ⟨hx, hb, hml, hown, ht⟩ hK hN hP hS (k := 0) (c_X9_told l D ca ad hI (goM (s2 ρ 3 (495 + 19 * c_ + 5) 1)) (goT (s2 ρ 3 (495 + 19 * c_ + 5) 1) υ) ((nI (495 + 19 * c_)) + 3) (0 : Int32) (999 : Int32) (ixC (J := 3) 3 rfl _) (by omega) (TI_go (TI_k (by decide) hT _ _))) (by decide) (sm_obj _ _) rfl ok_X9_told gw_1038 ⟨by decide, by decide⟩ rfl hl.1 rfl (Nat.le_of_ble_eq_true rfl) ⟨by decide, by decide⟩ dX9_readContract_159 (fun v_ S_ T_ H locs hp5 hP hS => ?_)
        obtain ⟨rfl, rfl, rfl⟩ := hp5
        try dsimp only [Option.toList, List.cons_append, List.nil_append]
        refine br_eq (tgt := 187) hx hb dX9_readContract_162 (by decide) (fun c6 => ?_) (fun c6 => ?_)
        · refine lv_iconst (v := 0) hx hb dX9_readContract_187 (by decide) ?_
          exact ret_z hx hb hr hlk hP hS dX9_readContract_188 (b := false) rfl (⟨by rw [← hR]; simp only [mcC, mcD, mcE, mcF, c2, c6, ↓reduceIte, Bool.false_eq_true], by rw [← hR]; simp only [mcC, mcD, mcE, mcF, c2, c6, ↓reduceIte, Bool.false_eq_true], by rw [← hR]; simp only [mcC, mcD, mcE, mcF, c2, c6, ↓reduceIte, Bool.false_eq_true]⟩)
        · refine lv_aload_n hx hb dX9_readContract_165 rfl (lv_at hl 2 rfl) ?_
          refine lv_bipush (v := 6) hx hb dX9_readContract_166 (by decide) ?_
          refine callv (y := yX9_readWord) ⟨hx, hb, hml, hown, ht⟩ hK hN hP hS (k := 0) (c_X9_readWord l D ca ad hI (tdM (goM (s2 ρ 3 (495 + 19 * c_ + 5) 1)) (495 + 19 * c_ + 3) (0 : Int32) (999 : Int32)) (tdT (goM (s2 ρ 3 (495 + 19 * c_ + 5) 1)) (goT (s2 ρ 3 (495 + 19 * c_ + 5) 1) υ) (495 + 19 * c_ + 3) (0 : Int32) (999 : Int32)) (6 : Int32) (TI_td (TI_go (TI_k (by decide) hT _ _)) _ _ _)) (by decide) (sm_obj _ _) rfl ok_X9_readWord gw_1073 ⟨by decide, by decide⟩ rfl hl.1 rfl (Nat.le_of_ble_eq_true rfl) ⟨by decide, by decide⟩ dX9_readContract_168 (fun v_ S_ T_ H locs hp7 hP hS => ?_)
          obtain ⟨rfl, rfl, rfl⟩ := hp7
          try dsimp only [Option.toList, List.cons_append, List.nil_append]
          refine br_eq (tgt := 187) hx hb dX9_readContract_171 (by decide) (fun c8 => ?_) (fun c8 => ?_)
          · refine lv_iconst (v := 0) hx hb dX9_readContract_187 (by decide) ?_
            exact ret_z hx hb hr hlk hP hS dX9_readContract_188 (b := false) rfl (⟨by rw [← hR]; simp only [mcC, mcD, mcE, mcF, c2, c6, c8, ↓reduceIte, Bool.false_eq_true], by rw [← hR]; simp only [mcC, mcD, mcE, mcF, c2, c6, c8, ↓reduceIte, Bool.false_eq_true], by rw [← hR]; simp only [mcC, mcD, mcE, mcF, c2, c6, c8, ↓reduceIte, Bool.false_eq_true]⟩)
          · refine lv_aload_n hx hb dX9_readContract_174 rfl (lv_at hl 2 rfl) ?_
            refine lv_iload_n hx hb dX9_readContract_175 rfl (lv_at hl 1 rfl) ?_
            refine lv_iconst (v := 4) hx hb dX9_readContract_176 (by decide) ?_
            refine lv_iadd hx hb dX9_readContract_177 ?_
            refine lv_iconst (v := 0) hx hb dX9_readContract_178 (by decide) ?_
            refine lv_bipush (v := 100) hx hb dX9_readContract_179 (by decide) ?_
            refine callv (y := yX9_told) ⟨hx, hb, hml, hown, ht⟩ hK hN hP hS (k := 0) (c_X9_told l D ca ad hI (mwM (tdM (goM (s2 ρ 3 (495 + 19 * c_ + 5) 1)) (495 + 19 * c_ + 3) (0 : Int32) (999 : Int32)) (tdT (goM (s2 ρ 3 (495 + 19 * c_ + 5) 1)) (goT (s2 ρ 3 (495 + 19 * c_ + 5) 1) υ) (495 + 19 * c_ + 3) (0 : Int32) (999 : Int32)) (6 : Int32)) (mwT (tdM (goM (s2 ρ 3 (495 + 19 * c_ + 5) 1)) (495 + 19 * c_ + 3) (0 : Int32) (999 : Int32)) (tdT (goM (s2 ρ 3 (495 + 19 * c_ + 5) 1)) (goT (s2 ρ 3 (495 + 19 * c_ + 5) 1) υ) (495 + 19 * c_ + 3) (0 : Int32) (999 : Int32)) (6 : Int32)) ((nI (495 + 19 * c_)) + 4) (0 : Int32) (100 : Int32) (ixC (J := 4) 4 rfl _) (by omega) (TI_mw (TI_td (TI_go (TI_k (by decide) hT _ _)) _ _ _) _ _)) (by decide) (sm_obj _ _) rfl ok_X9_told gw_1038 ⟨by decide, by decide⟩ rfl hl.1 rfl (Nat.le_of_ble_eq_true rfl) ⟨by decide, by decide⟩ dX9_readContract_181 (fun v_ S_ T_ H locs hp9 hP hS => ?_)
            obtain ⟨rfl, rfl, rfl⟩ := hp9
            try dsimp only [Option.toList, List.cons_append, List.nil_append]
            refine br_ne (tgt := 189) hx hb dX9_readContract_184 (by decide) (fun c10 => ?_) (fun c10 => ?_)
            · refine lv_aload_n hx hb dX9_readContract_189 rfl (lv_at hl 2 rfl) ?_
              refine fgetx hx hb ht inG9 hown hK hP (k := 0) (by decide) (x := ((tdM (mwM (tdM (goM (s2 ρ 3 (495 + 19 * c_ + 5) 1)) (495 + 19 * c_ + 3) (0 : Int32) (999 : Int32)) (tdT (goM (s2 ρ 3 (495 + 19 * c_ + 5) 1)) (goT (s2 ρ 3 (495 + 19 * c_ + 5) 1) υ) (495 + 19 * c_ + 3) (0 : Int32) (999 : Int32)) (6 : Int32)) (495 + 19 * c_ + 4) (0 : Int32) (100 : Int32)) 0)) rfl (sm_obj _ _) rfl 13 (by decide) gw_952 (v := .ref (ad 3)) rfl dX9_readContract_190 ?_
              refine lv_sipush (v := 494) hx hb dX9_readContract_193 (by decide) ?_
              refine lv_dup2_11 hx hb dX9_readContract_196 rfl rfl ?_
              refine aldj hx hb hK hP (k := 3) (by decide) (x := ((tdM (mwM (tdM (goM (s2 ρ 3 (495 + 19 * c_ + 5) 1)) (495 + 19 * c_ + 3) (0 : Int32) (999 : Int32)) (tdT (goM (s2 ρ 3 (495 + 19 * c_ + 5) 1)) (goT (s2 ρ 3 (495 + 19 * c_ + 5) 1) υ) (495 + 19 * c_ + 3) (0 : Int32) (999 : Int32)) (6 : Int32)) (495 + 19 * c_ + 4) (0 : Int32) (100 : Int32)) 3)) rfl 0 (sm_read _ _) rfl (by rw [vp_in_iff]; decide) (j := 494) rfl dX9_readContract_197 ?_
              refine stk_i (v := (nI c_)) (by rw [tdM_nj _ _ _ (by omega), mwM_ne _ _ _ (by decide), tdM_nj _ _ _ (by omega), goM_ne _ (by decide), s2_nj _ _ _ (by omega)]; exact h4r) ?_
              refine lv_iconst (v := 1) hx hb dX9_readContract_198 (by decide) ?_
              refine lv_iadd hx hb dX9_readContract_199 ?_
              refine astj hx hb hK hP hI hS (k := 3) (by decide) 0 (fun f => sm_read f _ ) rfl (by rw [vp_in_iff]; decide) (j := 494) rfl dX9_readContract_200 (fun H locs hP hS => ?_)
              rw [nI_1] at hP
              refine lv_iconst (v := 1) hx hb dX9_readContract_201 (by decide) ?_
              exact ret_z hx hb hr hlk hP hS dX9_readContract_202 (b := true) rfl (⟨by rw [← hR]; simp only [mcC, mcD, mcE, mcF, c2, c6, c8, c10, ↓reduceIte, Bool.false_eq_true], by rw [← hR]; simp only [mcC, mcD, mcE, mcF, c2, c6, c8, c10, ↓reduceIte, Bool.false_eq_true], by rw [← hR]; simp only [mcC, mcD, mcE, mcF, c2, c6, c8, c10, ↓reduceIte, Bool.false_eq_true]⟩)
            · refine lv_iconst (v := 0) hx hb dX9_readContract_187 (by decide) ?_
              exact ret_z hx hb hr hlk hP hS dX9_readContract_188 (b := false) rfl (⟨by rw [← hR]; simp only [mcC, mcD, mcE, mcF, c2, c6, c8, c10, ↓reduceIte, Bool.false_eq_true], by rw [← hR]; simp only [mcC, mcD, mcE, mcF, c2, c6, c8, c10, ↓reduceIte, Bool.false_eq_true], by rw [← hR]; simp only [mcC, mcD, mcE, mcF, c2, c6, c8, c10, ↓reduceIte, Bool.false_eq_true]⟩)
    · refine lv_aload_n hx hb dX9_readContract_116 rfl (lv_at hl 2 rfl) ?_
      refine lv_iconst (v := 4) hx hb dX9_readContract_117 (by decide) ?_
      refine callv (y := yX9_is) ⟨hx, hb, hml, hown, ht⟩ hK hN hP hS (k := 0) (c_X9_is l D ca ad hI ρ υ (4 : Int32)) (by decide) (sm_obj _ _) rfl ok_X9_is gw_1016 ⟨by decide, by decide⟩ rfl hl.1 rfl (Nat.le_of_ble_eq_true rfl) ⟨by decide, by decide⟩ dX9_readContract_118 (fun v_ S_ T_ H locs hp11 hP hS => ?_)
      obtain ⟨rfl, rfl, rfl⟩ := hp11
      try dsimp only [Option.toList, List.cons_append, List.nil_append]
      refine br_ne (tgt := 130) hx hb dX9_readContract_121 (by decide) (fun c12 => ?_) (fun c12 => ?_)
      · refine lv_aload_n hx hb dX9_readContract_130 rfl (lv_at hl 2 rfl) ?_
        refine fgetx hx hb ht inG9 hown hK hP (k := 0) (by decide) (x := (ρ 0)) rfl (sm_obj _ _) rfl 13 (by decide) gw_952 (v := .ref (ad 3)) rfl dX9_readContract_131 ?_
        refine lv_iload_n hx hb dX9_readContract_134 rfl (lv_at hl 1 rfl) ?_
        refine lv_iconst (v := 5) hx hb dX9_readContract_135 (by decide) ?_
        refine lv_iadd hx hb dX9_readContract_136 ?_
        refine lv_iload_n hx hb dX9_readContract_137 rfl (lv_at hl 0 rfl) ?_
        refine br_eq (tgt := 145) hx hb dX9_readContract_138 (by decide) (fun c13 => ?_) (fun c13 => ?_)
        · refine lv_iconst (v := 0) hx hb dX9_readContract_145 (by decide) ?_
          refine astj hx hb hK hP hI hS (k := 3) (by decide) 0 (fun f => sm_read f _ ) rfl (by rw [ixC (J := 5) 5 rfl]; exact vp_in_nI (by omega) (by decide)) (j := (495 + 19 * c_ + 5)) (by rw [ixC (J := 5) 5 rfl]; exact nI_clamp (by omega)) dX9_readContract_146 (fun H locs hP hS => ?_)
          refine lv_aload_n hx hb dX9_readContract_147 rfl (lv_at hl 2 rfl) ?_
          refine callv (y := yX9_go) ⟨hx, hb, hml, hown, ht⟩ hK hN hP hS (k := 0) (c_X9_go l D ca ad hI (s2 ρ 3 (495 + 19 * c_ + 5) 0) υ (TI_k (by decide) hT _ _)) (by decide) (sm_obj _ _) rfl ok_X9_go gw_996 ⟨by decide, by decide⟩ rfl hl.1 rfl (Nat.le_of_ble_eq_true rfl) ⟨by decide, by decide⟩ dX9_readContract_148 (fun v_ S_ T_ H locs hp14 hP hS => ?_)
          obtain ⟨rfl, rfl, rfl⟩ := hp14
          try dsimp only [Option.toList, List.cons_append, List.nil_append]
          refine lv_aload_n hx hb dX9_readContract_151 rfl (lv_at hl 2 rfl) ?_
          refine lv_iload_n hx hb dX9_readContract_152 rfl (lv_at hl 1 rfl) ?_
          refine lv_iconst (v := 3) hx hb dX9_readContract_153 (by decide) ?_
          refine lv_iadd hx hb dX9_readContract_154 ?_
          refine lv_iconst (v := 0) hx hb dX9_readContract_155 (by decide) ?_
          refine lv_sipush (v := 999) hx hb dX9_readContract_156 (by decide) ?_
          refine callv (y := yX9_told) ⟨hx, hb, hml, hown, ht⟩ hK hN hP hS (k := 0) (c_X9_told l D ca ad hI (goM (s2 ρ 3 (495 + 19 * c_ + 5) 0)) (goT (s2 ρ 3 (495 + 19 * c_ + 5) 0) υ) ((nI (495 + 19 * c_)) + 3) (0 : Int32) (999 : Int32) (ixC (J := 3) 3 rfl _) (by omega) (TI_go (TI_k (by decide) hT _ _))) (by decide) (sm_obj _ _) rfl ok_X9_told gw_1038 ⟨by decide, by decide⟩ rfl hl.1 rfl (Nat.le_of_ble_eq_true rfl) ⟨by decide, by decide⟩ dX9_readContract_159 (fun v_ S_ T_ H locs hp15 hP hS => ?_)
          obtain ⟨rfl, rfl, rfl⟩ := hp15
          try dsimp only [Option.toList, List.cons_append, List.nil_append]
          refine br_eq (tgt := 187) hx hb dX9_readContract_162 (by decide) (fun c16 => ?_) (fun c16 => ?_)
          · refine lv_iconst (v := 0) hx hb dX9_readContract_187 (by decide) ?_
            exact ret_z hx hb hr hlk hP hS dX9_readContract_188 (b := false) rfl (⟨by rw [← hR]; simp only [mcC, mcD, mcE, mcF, c2, c12, c16, ↓reduceIte, Bool.false_eq_true], by rw [← hR]; simp only [mcC, mcD, mcE, mcF, c2, c12, c16, ↓reduceIte, Bool.false_eq_true], by rw [← hR]; simp only [mcC, mcD, mcE, mcF, c2, c12, c16, ↓reduceIte, Bool.false_eq_true]⟩)
          · refine lv_aload_n hx hb dX9_readContract_165 rfl (lv_at hl 2 rfl) ?_
            refine lv_bipush (v := 6) hx hb dX9_readContract_166 (by decide) ?_
            refine callv (y := yX9_readWord) ⟨hx, hb, hml, hown, ht⟩ hK hN hP hS (k := 0) (c_X9_readWord l D ca ad hI (tdM (goM (s2 ρ 3 (495 + 19 * c_ + 5) 0)) (495 + 19 * c_ + 3) (0 : Int32) (999 : Int32)) (tdT (goM (s2 ρ 3 (495 + 19 * c_ + 5) 0)) (goT (s2 ρ 3 (495 + 19 * c_ + 5) 0) υ) (495 + 19 * c_ + 3) (0 : Int32) (999 : Int32)) (6 : Int32) (TI_td (TI_go (TI_k (by decide) hT _ _)) _ _ _)) (by decide) (sm_obj _ _) rfl ok_X9_readWord gw_1073 ⟨by decide, by decide⟩ rfl hl.1 rfl (Nat.le_of_ble_eq_true rfl) ⟨by decide, by decide⟩ dX9_readContract_168 (fun v_ S_ T_ H locs hp17 hP hS => ?_)
            obtain ⟨rfl, rfl, rfl⟩ := hp17
            try dsimp only [Option.toList, List.cons_append, List.nil_append]
            refine br_eq (tgt := 187) hx hb dX9_readContract_171 (by decide) (fun c18 => ?_) (fun c18 => ?_)
            · refine lv_iconst (v := 0) hx hb dX9_readContract_187 (by decide) ?_
              exact ret_z hx hb hr hlk hP hS dX9_readContract_188 (b := false) rfl (⟨by rw [← hR]; simp only [mcC, mcD, mcE, mcF, c2, c12, c16, c18, ↓reduceIte, Bool.false_eq_true], by rw [← hR]; simp only [mcC, mcD, mcE, mcF, c2, c12, c16, c18, ↓reduceIte, Bool.false_eq_true], by rw [← hR]; simp only [mcC, mcD, mcE, mcF, c2, c12, c16, c18, ↓reduceIte, Bool.false_eq_true]⟩)
            · refine lv_aload_n hx hb dX9_readContract_174 rfl (lv_at hl 2 rfl) ?_
              refine lv_iload_n hx hb dX9_readContract_175 rfl (lv_at hl 1 rfl) ?_
              refine lv_iconst (v := 4) hx hb dX9_readContract_176 (by decide) ?_
              refine lv_iadd hx hb dX9_readContract_177 ?_
              refine lv_iconst (v := 0) hx hb dX9_readContract_178 (by decide) ?_
              refine lv_bipush (v := 100) hx hb dX9_readContract_179 (by decide) ?_
              refine callv (y := yX9_told) ⟨hx, hb, hml, hown, ht⟩ hK hN hP hS (k := 0) (c_X9_told l D ca ad hI (mwM (tdM (goM (s2 ρ 3 (495 + 19 * c_ + 5) 0)) (495 + 19 * c_ + 3) (0 : Int32) (999 : Int32)) (tdT (goM (s2 ρ 3 (495 + 19 * c_ + 5) 0)) (goT (s2 ρ 3 (495 + 19 * c_ + 5) 0) υ) (495 + 19 * c_ + 3) (0 : Int32) (999 : Int32)) (6 : Int32)) (mwT (tdM (goM (s2 ρ 3 (495 + 19 * c_ + 5) 0)) (495 + 19 * c_ + 3) (0 : Int32) (999 : Int32)) (tdT (goM (s2 ρ 3 (495 + 19 * c_ + 5) 0)) (goT (s2 ρ 3 (495 + 19 * c_ + 5) 0) υ) (495 + 19 * c_ + 3) (0 : Int32) (999 : Int32)) (6 : Int32)) ((nI (495 + 19 * c_)) + 4) (0 : Int32) (100 : Int32) (ixC (J := 4) 4 rfl _) (by omega) (TI_mw (TI_td (TI_go (TI_k (by decide) hT _ _)) _ _ _) _ _)) (by decide) (sm_obj _ _) rfl ok_X9_told gw_1038 ⟨by decide, by decide⟩ rfl hl.1 rfl (Nat.le_of_ble_eq_true rfl) ⟨by decide, by decide⟩ dX9_readContract_181 (fun v_ S_ T_ H locs hp19 hP hS => ?_)
              obtain ⟨rfl, rfl, rfl⟩ := hp19
              try dsimp only [Option.toList, List.cons_append, List.nil_append]
              refine br_ne (tgt := 189) hx hb dX9_readContract_184 (by decide) (fun c20 => ?_) (fun c20 => ?_)
              · refine lv_aload_n hx hb dX9_readContract_189 rfl (lv_at hl 2 rfl) ?_
                refine fgetx hx hb ht inG9 hown hK hP (k := 0) (by decide) (x := ((tdM (mwM (tdM (goM (s2 ρ 3 (495 + 19 * c_ + 5) 0)) (495 + 19 * c_ + 3) (0 : Int32) (999 : Int32)) (tdT (goM (s2 ρ 3 (495 + 19 * c_ + 5) 0)) (goT (s2 ρ 3 (495 + 19 * c_ + 5) 0) υ) (495 + 19 * c_ + 3) (0 : Int32) (999 : Int32)) (6 : Int32)) (495 + 19 * c_ + 4) (0 : Int32) (100 : Int32)) 0)) rfl (sm_obj _ _) rfl 13 (by decide) gw_952 (v := .ref (ad 3)) rfl dX9_readContract_190 ?_
                refine lv_sipush (v := 494) hx hb dX9_readContract_193 (by decide) ?_
                refine lv_dup2_11 hx hb dX9_readContract_196 rfl rfl ?_
                refine aldj hx hb hK hP (k := 3) (by decide) (x := ((tdM (mwM (tdM (goM (s2 ρ 3 (495 + 19 * c_ + 5) 0)) (495 + 19 * c_ + 3) (0 : Int32) (999 : Int32)) (tdT (goM (s2 ρ 3 (495 + 19 * c_ + 5) 0)) (goT (s2 ρ 3 (495 + 19 * c_ + 5) 0) υ) (495 + 19 * c_ + 3) (0 : Int32) (999 : Int32)) (6 : Int32)) (495 + 19 * c_ + 4) (0 : Int32) (100 : Int32)) 3)) rfl 0 (sm_read _ _) rfl (by rw [vp_in_iff]; decide) (j := 494) rfl dX9_readContract_197 ?_
                refine stk_i (v := (nI c_)) (by rw [tdM_nj _ _ _ (by omega), mwM_ne _ _ _ (by decide), tdM_nj _ _ _ (by omega), goM_ne _ (by decide), s2_nj _ _ _ (by omega)]; exact h4r) ?_
                refine lv_iconst (v := 1) hx hb dX9_readContract_198 (by decide) ?_
                refine lv_iadd hx hb dX9_readContract_199 ?_
                refine astj hx hb hK hP hI hS (k := 3) (by decide) 0 (fun f => sm_read f _ ) rfl (by rw [vp_in_iff]; decide) (j := 494) rfl dX9_readContract_200 (fun H locs hP hS => ?_)
                rw [nI_1] at hP
                refine lv_iconst (v := 1) hx hb dX9_readContract_201 (by decide) ?_
                exact ret_z hx hb hr hlk hP hS dX9_readContract_202 (b := true) rfl (⟨by rw [← hR]; simp only [mcC, mcD, mcE, mcF, c2, c12, c16, c18, c20, ↓reduceIte, Bool.false_eq_true], by rw [← hR]; simp only [mcC, mcD, mcE, mcF, c2, c12, c16, c18, c20, ↓reduceIte, Bool.false_eq_true], by rw [← hR]; simp only [mcC, mcD, mcE, mcF, c2, c12, c16, c18, c20, ↓reduceIte, Bool.false_eq_true]⟩)
              · refine lv_iconst (v := 0) hx hb dX9_readContract_187 (by decide) ?_
                exact ret_z hx hb hr hlk hP hS dX9_readContract_188 (b := false) rfl (⟨by rw [← hR]; simp only [mcC, mcD, mcE, mcF, c2, c12, c16, c18, c20, ↓reduceIte, Bool.false_eq_true], by rw [← hR]; simp only [mcC, mcD, mcE, mcF, c2, c12, c16, c18, c20, ↓reduceIte, Bool.false_eq_true], by rw [← hR]; simp only [mcC, mcD, mcE, mcF, c2, c12, c16, c18, c20, ↓reduceIte, Bool.false_eq_true]⟩)
        · exact absurd (c2.symm.trans c13) (by decide)
      · refine lv_aload_n hx hb dX9_readContract_124 rfl (lv_at hl 2 rfl) ?_
        refine lv_iconst (v := 1) hx hb dX9_readContract_125 (by decide) ?_
        refine callv (y := yX9_bad) ⟨hx, hb, hml, hown, ht⟩ hK hN hP hS (k := 0) (c_X9_bad l D ca ad hI ρ υ (1 : Int32)) (by decide) (sm_obj _ _) rfl ok_X9_bad gw_1034 ⟨by decide, by decide⟩ rfl hl.1 rfl (Nat.le_of_ble_eq_true rfl) ⟨by decide, by decide⟩ dX9_readContract_126 (fun v_ S_ T_ H locs hp21 hP hS => ?_)
        obtain ⟨rfl, rfl, rfl⟩ := hp21
        try dsimp only [Option.toList, List.cons_append, List.nil_append]
        exact ret_z hx hb hr hlk hP hS dX9_readContract_129 (b := false) rfl (⟨by rw [← hR]; simp only [mcC, mcD, mcE, mcF, c2, c12, ↓reduceIte, Bool.false_eq_true], by rw [← hR]; simp only [mcC, mcD, mcE, mcF, c2, c12, ↓reduceIte, Bool.false_eq_true], by rw [← hR]; simp only [mcC, mcD, mcE, mcF, c2, c12, ↓reduceIte, Bool.false_eq_true]⟩)
set_option maxHeartbeats 4000000 in
set_option maxRecDepth 100000 in
theorem c_X9_readContract (l : Launch) (D : va_G) (ca : Nat → ClassId) (ad : Nat → Nat) (hI : Inj 6 ad) (σ : MI) (τ : ML) {c_ : Nat} (h4 : σ 3 494 = nI c_) (hc6 : c_ ≤ 6) (h0 : rg (σ 3 0) 0 35) (h1 : rg (σ 3 1) 0 6) (hk0 : c_ < 6 → σ 3 (495 + 19 * c_ + 6) = 0) (hT : TI σ) : CT l D (TY ca) 6 ad (mxf ca ad) yX9_readContract cX9_readContract 3 (some .boolean) 4 92 [.ref (ad 0)] σ τ (fun v_ S_ T_ => some (.int (b2i ((mcP c_ σ τ).1))) = v_ ∧ ((mcP c_ σ τ).2.1) = S_ ∧ ((mcP c_ σ τ).2.2) = T_) := by
  refine CT.of (by decide) (Nat.le_of_ble_eq_true rfl) ?_
  intro p e s m args below meth c hx hb hr ht hown hlk hml hP hK hN hS ls hl
  have hl : lv_has ls 3 [(0, .ref (ad 0))] := hl
  refine lv_aload_n hx hb dX9_readContract_0 rfl (lv_at hl 0 rfl) ?_
  refine fgetx hx hb ht inG9 hown hK hP (k := 0) (by decide) (x := (σ 0)) rfl (sm_obj _ _) rfl 13 (by decide) gw_952 (v := .ref (ad 3)) rfl dX9_readContract_1 ?_
  refine lv_sipush (v := 494) hx hb dX9_readContract_4 (by decide) ?_
  refine aldj hx hb hK hP (k := 3) (by decide) (x := (σ 3)) rfl 0 (sm_read _ _) rfl (by rw [vp_in_iff]; decide) (j := 494) rfl dX9_readContract_7 ?_
  refine stk_i (v := (nI c_)) h4 ?_
  refine lv_bipush (v := 6) hx hb dX9_readContract_8 (by decide) ?_
  refine lv_icmp_ne (tgt := 19) hx hb dX9_readContract_10 (by decide) (fun c1 => ?_) (fun c1 => ?_)
  · have dc1 := c1
    rw [i_eq] at dc1
    have hc5 : c_ < 6 := by rcases (by omega : c_ < 6 ∨ c_ = 6) with q | q; exact q; exact absurd (by rw [q]; rfl) c1
    have h46 : ¬ σ 3 494 = 6 := by rw [h4]; exact c1
    refine lv_aload_n hx hb dX9_readContract_19 rfl (lv_at hl 0 rfl) ?_
    refine callv (y := yX9_go) ⟨hx, hb, hml, hown, ht⟩ hK hN hP hS (k := 0) (c_X9_go l D ca ad hI σ τ hT) (by decide) (sm_obj _ _) rfl ok_X9_go gw_996 ⟨by decide, by decide⟩ rfl hl.1 rfl (Nat.le_of_ble_eq_true rfl) ⟨by decide, by decide⟩ dX9_readContract_20 (fun v_ S_ T_ H locs hp2 hP hS => ?_)
    obtain ⟨rfl, rfl, rfl⟩ := hp2
    try dsimp only [Option.toList, List.cons_append, List.nil_append]
    refine lv_sipush (v := 495) hx hb dX9_readContract_23 (by decide) ?_
    refine lv_bipush (v := 19) hx hb dX9_readContract_26 (by decide) ?_
    refine lv_aload_n hx hb dX9_readContract_28 rfl (lv_at hl 0 rfl) ?_
    refine fgetx hx hb ht inG9 hown hK hP (k := 0) (by decide) (x := ((goM σ) 0)) rfl (sm_obj _ _) rfl 13 (by decide) gw_952 (v := .ref (ad 3)) rfl dX9_readContract_29 ?_
    refine lv_sipush (v := 494) hx hb dX9_readContract_32 (by decide) ?_
    refine aldj hx hb hK hP (k := 3) (by decide) (x := (σ 3)) (goM_ne _ (by decide)) 0 (sm_read _ _) rfl (by rw [vp_in_iff]; decide) (j := 494) rfl dX9_readContract_35 ?_
    refine stk_i (v := (nI c_)) h4 ?_
    refine lv_imul hx hb dX9_readContract_36 ?_
    refine lv_iadd hx hb dX9_readContract_37 ?_
    refine stk_i (v := (nI (495 + 19 * c_))) (by rw [show (495 : Int32) = nI 495 from rfl, show (19 : Int32) = nI 19 from rfl, pk_mul, nI_add]) ?_
    refine lv_istore_n (lv' := [(1, .int (nI (495 + 19 * c_))), (0, .ref (ad 0))]) hx hb dX9_readContract_38 rfl hl (by decide) rfl (fun ls hl => ?_)
    refine lv_aload_n hx hb dX9_readContract_39 rfl (lv_at hl 1 rfl) ?_
    refine lv_iload_n hx hb dX9_readContract_40 rfl (lv_at hl 0 rfl) ?_
    refine lv_iconst (v := 0) hx hb dX9_readContract_41 (by decide) ?_
    refine lv_iadd hx hb dX9_readContract_42 ?_
    refine lv_iconst (v := 1) hx hb dX9_readContract_43 (by decide) ?_
    refine lv_sipush (v := 9999) hx hb dX9_readContract_44 (by decide) ?_
    refine callv (y := yX9_told) ⟨hx, hb, hml, hown, ht⟩ hK hN hP hS (k := 0) (c_X9_told l D ca ad hI (goM σ) (goT σ τ) ((nI (495 + 19 * c_)) + 0) (1 : Int32) (9999 : Int32) (ixC (J := 0) 0 rfl _) (by omega) (TI_go hT)) (by decide) (sm_obj _ _) rfl ok_X9_told gw_1038 ⟨by decide, by decide⟩ rfl hl.1 rfl (Nat.le_of_ble_eq_true rfl) ⟨by decide, by decide⟩ dX9_readContract_47 (fun v_ S_ T_ H locs hp3 hP hS => ?_)
    obtain ⟨rfl, rfl, rfl⟩ := hp3
    try dsimp only [Option.toList, List.cons_append, List.nil_append]
    refine br_ne (tgt := 55) hx hb dX9_readContract_50 (by decide) (fun c4 => ?_) (fun c4 => ?_)
    · refine lv_aload_n hx hb dX9_readContract_55 rfl (lv_at hl 1 rfl) ?_
      refine lv_bipush (v := 61) hx hb dX9_readContract_56 (by decide) ?_
      refine callv (y := yX9_isSign) ⟨hx, hb, hml, hown, ht⟩ hK hN hP hS (k := 0) (c_X9_isSign l D ca ad hI (tdM (goM σ) (495 + 19 * c_ + 0) (1 : Int32) (9999 : Int32)) (tdT (goM σ) (goT σ τ) (495 + 19 * c_ + 0) (1 : Int32) (9999 : Int32)) (61 : Int32)) (by decide) (sm_obj _ _) rfl ok_X9_isSign gw_1061 ⟨by decide, by decide⟩ rfl hl.1 rfl (Nat.le_of_ble_eq_true rfl) ⟨by decide, by decide⟩ dX9_readContract_58 (fun v_ S_ T_ H locs hp5 hP hS => ?_)
      obtain ⟨rfl, rfl, rfl⟩ := hp5
      try dsimp only [Option.toList, List.cons_append, List.nil_append]
      refine br_ne (tgt := 70) hx hb dX9_readContract_61 (by decide) (fun c6 => ?_) (fun c6 => ?_)
      · refine lv_aload_n hx hb dX9_readContract_70 rfl (lv_at hl 1 rfl) ?_
        refine callv (y := yX9_go) ⟨hx, hb, hml, hown, ht⟩ hK hN hP hS (k := 0) (c_X9_go l D ca ad hI (tdM (goM σ) (495 + 19 * c_ + 0) (1 : Int32) (9999 : Int32)) (tdT (goM σ) (goT σ τ) (495 + 19 * c_ + 0) (1 : Int32) (9999 : Int32)) (TI_td (TI_go hT) _ _ _)) (by decide) (sm_obj _ _) rfl ok_X9_go gw_996 ⟨by decide, by decide⟩ rfl hl.1 rfl (Nat.le_of_ble_eq_true rfl) ⟨by decide, by decide⟩ dX9_readContract_71 (fun v_ S_ T_ H locs hp7 hP hS => ?_)
        obtain ⟨rfl, rfl, rfl⟩ := hp7
        try dsimp only [Option.toList, List.cons_append, List.nil_append]
        refine lv_aload_n hx hb dX9_readContract_74 rfl (lv_at hl 1 rfl) ?_
        refine lv_iload_n hx hb dX9_readContract_75 rfl (lv_at hl 0 rfl) ?_
        refine lv_iconst (v := 1) hx hb dX9_readContract_76 (by decide) ?_
        refine lv_iadd hx hb dX9_readContract_77 ?_
        refine lv_iconst (v := 0) hx hb dX9_readContract_78 (by decide) ?_
        refine lv_sipush (v := 1000) hx hb dX9_readContract_79 (by decide) ?_
        refine callv (y := yX9_told) ⟨hx, hb, hml, hown, ht⟩ hK hN hP hS (k := 0) (c_X9_told l D ca ad hI (goM (tdM (goM σ) (495 + 19 * c_ + 0) (1 : Int32) (9999 : Int32))) (goT (tdM (goM σ) (495 + 19 * c_ + 0) (1 : Int32) (9999 : Int32)) (tdT (goM σ) (goT σ τ) (495 + 19 * c_ + 0) (1 : Int32) (9999 : Int32))) ((nI (495 + 19 * c_)) + 1) (0 : Int32) (1000 : Int32) (ixC (J := 1) 1 rfl _) (by omega) (TI_go (TI_td (TI_go hT) _ _ _))) (by decide) (sm_obj _ _) rfl ok_X9_told gw_1038 ⟨by decide, by decide⟩ rfl hl.1 rfl (Nat.le_of_ble_eq_true rfl) ⟨by decide, by decide⟩ dX9_readContract_82 (fun v_ S_ T_ H locs hp8 hP hS => ?_)
        obtain ⟨rfl, rfl, rfl⟩ := hp8
        try dsimp only [Option.toList, List.cons_append, List.nil_append]
        refine br_eq (tgt := 104) hx hb dX9_readContract_85 (by decide) (fun c9 => ?_) (fun c9 => ?_)
        · refine lv_iconst (v := 0) hx hb dX9_readContract_104 (by decide) ?_
          exact ret_z hx hb hr hlk hP hS dX9_readContract_105 (b := false) rfl (⟨by simp only [mcP, mcQ, mcA, mcB, h46, c4, c6, c9, ↓reduceIte, Bool.false_eq_true], by simp only [mcP, mcQ, mcA, mcB, h46, c4, c6, c9, ↓reduceIte, Bool.false_eq_true], by simp only [mcP, mcQ, mcA, mcB, h46, c4, c6, c9, ↓reduceIte, Bool.false_eq_true]⟩)
        · have hM := mtP_ok hc5 (σ := (tdM (goM (tdM (goM σ) (495 + 19 * c_ + 0) (1 : Int32) (9999 : Int32))) (495 + 19 * c_ + 1) (0 : Int32) (1000 : Int32))) (tdT (goM (tdM (goM σ) (495 + 19 * c_ + 0) (1 : Int32) (9999 : Int32))) (goT (tdM (goM σ) (495 + 19 * c_ + 0) (1 : Int32) (9999 : Int32)) (tdT (goM σ) (goT σ τ) (495 + 19 * c_ + 0) (1 : Int32) (9999 : Int32))) (495 + 19 * c_ + 1) (0 : Int32) (1000 : Int32)) (by rw [tdM_nj _ _ _ (by omega), goM_ne _ (by decide), tdM_nj _ _ _ (by omega), goM_ne _ (by decide)]; exact h1) (by rw [tdM_nj _ _ _ (by omega), goM_ne _ (by decide), tdM_nj _ _ _ (by omega), goM_ne _ (by decide)]; exact hk0 hc5) (TI_td (TI_go (TI_td (TI_go hT) _ _ _)) _ _ _) (by have v := tdM_3 (a := 495 + 19 * c_ + 1) c9; rw [v.1]; exact v.2)
          refine lv_aload_n hx hb dX9_readContract_88 rfl (lv_at hl 1 rfl) ?_
          refine lv_iload_n hx hb dX9_readContract_89 rfl (lv_at hl 0 rfl) ?_
          refine callv (y := yX9_readTerms) ⟨hx, hb, hml, hown, ht⟩ hK hN hP hS (k := 0) (c_X9_readTerms l D ca ad hI (tdM (goM (tdM (goM σ) (495 + 19 * c_ + 0) (1 : Int32) (9999 : Int32))) (495 + 19 * c_ + 1) (0 : Int32) (1000 : Int32)) (tdT (goM (tdM (goM σ) (495 + 19 * c_ + 0) (1 : Int32) (9999 : Int32))) (goT (tdM (goM σ) (495 + 19 * c_ + 0) (1 : Int32) (9999 : Int32)) (tdT (goM σ) (goT σ τ) (495 + 19 * c_ + 0) (1 : Int32) (9999 : Int32))) (495 + 19 * c_ + 1) (0 : Int32) (1000 : Int32)) hc5 (by rw [tdM_nj _ _ _ (by omega), goM_ne _ (by decide), tdM_nj _ _ _ (by omega), goM_ne _ (by decide)]; exact h1) (by rw [tdM_nj _ _ _ (by omega), goM_ne _ (by decide), tdM_nj _ _ _ (by omega), goM_ne _ (by decide)]; exact hk0 hc5) (TI_td (TI_go (TI_td (TI_go hT) _ _ _)) _ _ _)) (by decide) (sm_obj _ _) rfl ok_X9_readTerms gw_1065 ⟨by decide, by decide⟩ rfl hl.1 rfl (Nat.le_of_ble_eq_true rfl) ⟨by decide, by decide⟩ dX9_readContract_90 (fun v_ S_ T_ H locs hp10 hP hS => ?_)
          obtain ⟨rfl, rfl, rfl⟩ := hp10
          try dsimp only [Option.toList, List.cons_append, List.nil_append]
          refine br_eq (tgt := 104) hx hb dX9_readContract_93 (by decide) (fun c11 => ?_) (fun c11 => ?_)
          · refine lv_iconst (v := 0) hx hb dX9_readContract_104 (by decide) ?_
            exact ret_z hx hb hr hlk hP hS dX9_readContract_105 (b := false) rfl (⟨by simp only [mcP, mcQ, mcA, mcB, h46, c4, c6, c9, c11, ↓reduceIte, Bool.false_eq_true], by simp only [mcP, mcQ, mcA, mcB, h46, c4, c6, c9, c11, ↓reduceIte, Bool.false_eq_true], by simp only [mcP, mcQ, mcA, mcB, h46, c4, c6, c9, c11, ↓reduceIte, Bool.false_eq_true]⟩)
          · obtain ⟨k9, hk9, z6, zX, -, -⟩ := hM.2.2.2 c11
            have z1 := hM.2.2.1 1 (by omega)
            have z0 := hM.2.2.1 0 (by omega)
            have hr1 : rg ((tdM (goM (tdM (goM σ) (495 + 19 * c_ + 0) (1 : Int32) (9999 : Int32))) (495 + 19 * c_ + 1) (0 : Int32) (1000 : Int32)) 3 1) 0 6 := by rw [tdM_nj _ _ _ (by omega), goM_ne _ (by decide), tdM_nj _ _ _ (by omega), goM_ne _ (by decide)]; exact h1
            unfold rg at hr1
            refine lv_aload_n hx hb dX9_readContract_96 rfl (lv_at hl 1 rfl) ?_
            refine lv_iload_n hx hb dX9_readContract_97 rfl (lv_at hl 0 rfl) ?_
            refine callv (y := yX9_readBase) ⟨hx, hb, hml, hown, ht⟩ hK hN hP hS (k := 0) (c_X9_readBase l D ca ad hI ((mtP c_ (tdM (goM (tdM (goM σ) (495 + 19 * c_ + 0) (1 : Int32) (9999 : Int32))) (495 + 19 * c_ + 1) (0 : Int32) (1000 : Int32)) (tdT (goM (tdM (goM σ) (495 + 19 * c_ + 0) (1 : Int32) (9999 : Int32))) (goT (tdM (goM σ) (495 + 19 * c_ + 0) (1 : Int32) (9999 : Int32)) (tdT (goM σ) (goT σ τ) (495 + 19 * c_ + 0) (1 : Int32) (9999 : Int32))) (495 + 19 * c_ + 1) (0 : Int32) (1000 : Int32))).2.1) ((mtP c_ (tdM (goM (tdM (goM σ) (495 + 19 * c_ + 0) (1 : Int32) (9999 : Int32))) (495 + 19 * c_ + 1) (0 : Int32) (1000 : Int32)) (tdT (goM (tdM (goM σ) (495 + 19 * c_ + 0) (1 : Int32) (9999 : Int32))) (goT (tdM (goM σ) (495 + 19 * c_ + 0) (1 : Int32) (9999 : Int32)) (tdT (goM σ) (goT σ τ) (495 + 19 * c_ + 0) (1 : Int32) (9999 : Int32))) (495 + 19 * c_ + 1) (0 : Int32) (1000 : Int32))).2.2) hc5 (by rw [z0, tdM_nj _ _ _ (by omega), goM_ne _ (by decide), tdM_nj _ _ _ (by omega), goM_ne _ (by decide)]; exact h0) (by rw [z6]; unfold rg; rw [nI_toInt (by omega)]; omega) (fun n hn => by rw [z6, nI_clamp (by omega)] at hn; have q := zX n hn; unfold mtX at q; rw [z1] at q; rw [vp_in_iff]; omega) hM.1) (by decide) (sm_obj _ _) rfl ok_X9_readBase gw_1069 ⟨by decide, by decide⟩ rfl hl.1 rfl (Nat.le_of_ble_eq_true rfl) ⟨by decide, by decide⟩ dX9_readContract_98 (fun v_ S_ T_ H locs hp12 hP hS => ?_)
            obtain ⟨rfl, rfl, rfl⟩ := hp12
            try dsimp only [Option.toList, List.cons_append, List.nil_append]
            refine br_ne (tgt := 106) hx hb dX9_readContract_101 (by decide) (fun c13 => ?_) (fun c13 => ?_)
            · have hB := mbP_ok (c := c_) ((mtP c_ (tdM (goM (tdM (goM σ) (495 + 19 * c_ + 0) (1 : Int32) (9999 : Int32))) (495 + 19 * c_ + 1) (0 : Int32) (1000 : Int32)) (tdT (goM (tdM (goM σ) (495 + 19 * c_ + 0) (1 : Int32) (9999 : Int32))) (goT (tdM (goM σ) (495 + 19 * c_ + 0) (1 : Int32) (9999 : Int32)) (tdT (goM σ) (goT σ τ) (495 + 19 * c_ + 0) (1 : Int32) (9999 : Int32))) (495 + 19 * c_ + 1) (0 : Int32) (1000 : Int32))).2.2) hM.1
              exact lp_X9_con2 hI h4 hc6 h0 h1 hk0 hT hx hb hr ht hown hlk hml hK hN 1 (by omega) _ _ hB.1 hc5 (by rw [hB.2.2.1 494 (by omega), hM.2.2.1 494 (by omega), tdM_nj _ _ _ (by omega), goM_ne _ (by decide), tdM_nj _ _ _ (by omega), goM_ne _ (by decide)]; exact h4) (by simp only [mcP, mcQ, mcA, mcB, h46, c4, c6, c9, c11, c13, ↓reduceIte, Bool.false_eq_true]) _ _ hP hS ls (lv_sub hl [0, 1] rfl)
            · refine lv_iconst (v := 0) hx hb dX9_readContract_104 (by decide) ?_
              exact ret_z hx hb hr hlk hP hS dX9_readContract_105 (b := false) rfl (⟨by simp only [mcP, mcQ, mcA, mcB, h46, c4, c6, c9, c11, c13, ↓reduceIte, Bool.false_eq_true], by simp only [mcP, mcQ, mcA, mcB, h46, c4, c6, c9, c11, c13, ↓reduceIte, Bool.false_eq_true], by simp only [mcP, mcQ, mcA, mcB, h46, c4, c6, c9, c11, c13, ↓reduceIte, Bool.false_eq_true]⟩)
      · refine lv_aload_n hx hb dX9_readContract_64 rfl (lv_at hl 1 rfl) ?_
        refine lv_iconst (v := 1) hx hb dX9_readContract_65 (by decide) ?_
        refine callv (y := yX9_bad) ⟨hx, hb, hml, hown, ht⟩ hK hN hP hS (k := 0) (c_X9_bad l D ca ad hI (tdM (goM σ) (495 + 19 * c_ + 0) (1 : Int32) (9999 : Int32)) (tdT (goM σ) (goT σ τ) (495 + 19 * c_ + 0) (1 : Int32) (9999 : Int32)) (1 : Int32)) (by decide) (sm_obj _ _) rfl ok_X9_bad gw_1034 ⟨by decide, by decide⟩ rfl hl.1 rfl (Nat.le_of_ble_eq_true rfl) ⟨by decide, by decide⟩ dX9_readContract_66 (fun v_ S_ T_ H locs hp14 hP hS => ?_)
        obtain ⟨rfl, rfl, rfl⟩ := hp14
        try dsimp only [Option.toList, List.cons_append, List.nil_append]
        exact ret_z hx hb hr hlk hP hS dX9_readContract_69 (b := false) rfl (⟨by simp only [mcP, mcQ, mcA, mcB, h46, c4, c6, ↓reduceIte, Bool.false_eq_true], by simp only [mcP, mcQ, mcA, mcB, h46, c4, c6, ↓reduceIte, Bool.false_eq_true], by simp only [mcP, mcQ, mcA, mcB, h46, c4, c6, ↓reduceIte, Bool.false_eq_true]⟩)
    · refine lv_iconst (v := 0) hx hb dX9_readContract_53 (by decide) ?_
      exact ret_z hx hb hr hlk hP hS dX9_readContract_54 (b := false) rfl (⟨by simp only [mcP, mcQ, mcA, mcB, h46, c4, ↓reduceIte, Bool.false_eq_true], by simp only [mcP, mcQ, mcA, mcB, h46, c4, ↓reduceIte, Bool.false_eq_true], by simp only [mcP, mcQ, mcA, mcB, h46, c4, ↓reduceIte, Bool.false_eq_true]⟩)
  · have dc1 := c1
    rw [i_eq] at dc1
    have h46 : σ 3 494 = 6 := by rw [h4]; exact c1
    refine lv_aload_n hx hb dX9_readContract_13 rfl (lv_at hl 0 rfl) ?_
    refine lv_iconst (v := 4) hx hb dX9_readContract_14 (by decide) ?_
    refine callv (y := yX9_bad) ⟨hx, hb, hml, hown, ht⟩ hK hN hP hS (k := 0) (c_X9_bad l D ca ad hI σ τ (4 : Int32)) (by decide) (sm_obj _ _) rfl ok_X9_bad gw_1034 ⟨by decide, by decide⟩ rfl hl.1 rfl (Nat.le_of_ble_eq_true rfl) ⟨by decide, by decide⟩ dX9_readContract_15 (fun v_ S_ T_ H locs hp15 hP hS => ?_)
    obtain ⟨rfl, rfl, rfl⟩ := hp15
    try dsimp only [Option.toList, List.cons_append, List.nil_append]
    exact ret_z hx hb hr hlk hP hS dX9_readContract_18 (b := false) rfl (⟨by simp only [mcP, mcQ, mcA, mcB, h46, ↓reduceIte, Bool.false_eq_true], by simp only [mcP, mcQ, mcA, mcB, h46, ↓reduceIte, Bool.false_eq_true], by simp only [mcP, mcQ, mcA, mcB, h46, ↓reduceIte, Bool.false_eq_true]⟩)
