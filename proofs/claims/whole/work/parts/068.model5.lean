set_option maxHeartbeats 4000000 in
set_option maxRecDepth 100000 in
theorem lp_X9_state {l : Launch} {D : va_G} {ca : Nat → ClassId} {ad : Nat → Nat} (hI : Inj 6 ad) {σ : MI} {τ : ML} (hR : RI (σ 2)) (m_ w_ : Int32) {p : Program} {e : Env} {s : State} {m : MethodId} {args : Array Value} {below : List Frame} {meth : Method} {c : Code} (hx : p.tables.exec = Jvm.exec) (hb : c.code = cX9_statement) (hr : meth.sig.returnType = (some .long)) (ht : ∀ w ∈ GG, w.before args s = true) (hown : s.vm.findClass yX9_statement.cls = some m.cls) (hlk : meth.locks = false) (hml : c.maxLocals = 8) (hK : va_K D vwCl (TY ca) s) (hN : NW s) : ∀ (n : Nat) (k : Nat) (hk : k ≤ (σ 2 609).toNatClampNeg) (hn : (σ 2 609).toNatClampNeg - k < n) (hok : mStC m_ w_ = true) (u : Int64) (hu : mStS (σ 2) m_ w_ k = u) (H : Heap) (locs : List Loc) (hP : PW D 6 ad (mxf ca ad) (s2 σ 0 0 0) τ H) (hS : va_S (AA 6 ad) s.heap H locs) (ls : Array Slot) (hl : lv_has ls 8 [(5, .int (nI k)), (3, .long u), (0, .ref (ad 0)), (1, .int m_), (2, .int w_)]), W p l e { frames := 2, cells := 0, slots := 0, locals := 43 } s m args below meth c H locs 0 0 (MQ below (QD D 6 ad (mxf ca ad) (fun v_ S_ T_ => some (.long (mStR (σ 2) m_ w_)) = v_ ∧ (if mStC m_ w_ = true then s2 σ 0 0 0 else s2 (s2 σ 0 0 0) 0 0 1) = S_ ∧ τ = T_)) args s 0 0 (AA 6 ad)) (F0 m 32 ls []) := by
  intro n
  induction n with
  | zero => intro k hk hn hok u hu H locs hP hS ls hl; exfalso; omega
  | succ n ih =>
    intro k hk hn hok u hu H locs hP hS ls hl
    have h9 := hR.2.2.2.1
    unfold rg at h9
    have hc := clampI (σ 2 609)
    have ek : (nI k).toInt = k := nI_toInt (by omega)
    have h138 : ∀ (hkc : (k : Int) < (σ 2 609).toInt) (H : Heap) (locs : List Loc) (hP : PW D 6 ad (mxf ca ad) (s2 σ 0 0 0) τ H) (hS : va_S (AA 6 ad) s.heap H locs) (ls : Array Slot) (hl : lv_has ls 8 [(7, .int (b2i (mStE (σ 2) m_ w_ k))), (6, .int (b2i (mStW (σ 2) m_ w_ k))), (5, .int (nI k)), (3, .long u), (0, .ref (ad 0)), (1, .int m_), (2, .int w_)]), W p l e { frames := 2, cells := 0, slots := 0, locals := 43 } s m args below meth c H locs 0 0 (MQ below (QD D 6 ad (mxf ca ad) (fun v_ S_ T_ => some (.long (mStR (σ 2) m_ w_)) = v_ ∧ (if mStC m_ w_ = true then s2 σ 0 0 0 else s2 (s2 σ 0 0 0) 0 0 1) = S_ ∧ τ = T_)) args s 0 0 (AA 6 ad)) (F0 m 138 ls []) := by
      intro hkc H locs hP hS ls hl
      refine lv_iload hx hb dX9_statement_138 (lv_at hl 1 rfl) ?_
      refine br_eq (tgt := 157) hx hb dX9_statement_140 (by decide) (fun c1 => ?_) (fun c1 => ?_)
      · refine lv_iload hx hb dX9_statement_157 (lv_at hl 0 rfl) ?_
        refine br_eq (tgt := 178) hx hb dX9_statement_159 (by decide) (fun c2 => ?_) (fun c2 => ?_)
        · refine lv_iinc (v := (nI k) + 1) (lv' := [(5, .int ((nI k) + 1)), (7, .int (b2i (mStE (σ 2) m_ w_ k))), (6, .int (b2i (mStW (σ 2) m_ w_ k))), (3, .long u), (0, .ref (ad 0)), (1, .int m_), (2, .int w_)]) hx hb dX9_statement_178 hl (k := 2) rfl rfl (by decide) rfl (fun ls hl => ?_)
          refine lv_goto (tgt := 32) hx hb dX9_statement_181 (by decide) ?_
          rw [nI_1] at hl
          exact ih (k + 1) (by omega) (by omega) hok (u) (by rw [mStS, hu]; simp only [mSt1, mSt2, mBil, c1, c2, ↓reduceIte, Bool.false_eq_true]) _ _ hP hS ls (lv_sub hl [0, 3, 4, 5, 6] rfl)
        · refine lv_iload_n hx hb dX9_statement_162 rfl (lv_at hl 6 rfl) ?_
          refine lv_if_eq (tgt := 178) hx hb dX9_statement_163 (by decide) (fun c3 => ?_) (fun c3 => ?_)
          · have dc3 := c3
            rw [i_eq] at dc3
            refine lv_iinc (v := (nI k) + 1) (lv' := [(5, .int ((nI k) + 1)), (7, .int (b2i (mStE (σ 2) m_ w_ k))), (6, .int (b2i (mStW (σ 2) m_ w_ k))), (3, .long u), (0, .ref (ad 0)), (1, .int m_), (2, .int w_)]) hx hb dX9_statement_178 hl (k := 2) rfl rfl (by decide) rfl (fun ls hl => ?_)
            refine lv_goto (tgt := 32) hx hb dX9_statement_181 (by decide) ?_
            rw [nI_1] at hl
            exact ih (k + 1) (by omega) (by omega) hok (u) (by rw [mStS, hu]; simp only [mSt1, mSt2, mBil, c1, c2, (eq_true c3), ↓reduceIte, Bool.false_eq_true]) _ _ hP hS ls (lv_sub hl [0, 3, 4, 5, 6] rfl)
          · have dc3 := c3
            rw [i_eq] at dc3
            refine lv_lload_n hx hb dX9_statement_166 rfl (lv_at hl 3 rfl) ?_
            refine lv_aload_n hx hb dX9_statement_167 rfl (lv_at hl 4 rfl) ?_
            refine lv_iload hx hb dX9_statement_168 (lv_at hl 2 rfl) ?_
            refine lv_bipush (v := 8) hx hb dX9_statement_170 (by decide) ?_
            refine callv (y := yX9_its) ⟨hx, hb, hml, hown, ht⟩ hK hN hP hS (k := 0) (c_X9_its l D ca ad hI (s2 σ 0 0 0) τ (nI k) (8 : Int32) (nI_clamp (by omega)) (vp_in_nI (by omega) (by decide)) (show Int32.toNatClampNeg 8 = 8 from rfl) (by rw [vp_in_iff]; decide)) (by decide) (sm_obj _ _) rfl ok_X9_its gw_1097 ⟨by decide, by decide⟩ rfl hl.1 rfl (Nat.le_of_ble_eq_true rfl) ⟨by decide, by decide⟩ dX9_statement_172 (fun v_ S_ T_ H locs hp4 hP hS => ?_)
            obtain ⟨rfl, rfl, rfl⟩ := hp4
            try dsimp only [Option.toList, List.cons_append, List.nil_append]
            refine stk_i (v := ((σ 2) (610 + 9 * k + 8))) (by first | (rw [(show (s2 σ 0 0 0) 2 = (σ 2) from (s2_nk _ _ _ (by omega)))]; done) | (rw [(show (s2 σ 0 0 0) 2 = (σ 2) from (s2_nk _ _ _ (by omega)))]; rfl)) ?_
            refine lv_i2l (v := ((σ 2) (610 + 9 * k + 8)).toInt64) hx hb dX9_statement_175 rfl ?_
            refine lv_ladd hx hb dX9_statement_176 ?_
            refine lv_lstore_n (lv' := [(3, .long (u + (((σ 2) (610 + 9 * k + 8)).toInt64))), (7, .int (b2i (mStE (σ 2) m_ w_ k))), (6, .int (b2i (mStW (σ 2) m_ w_ k))), (5, .int (nI k)), (0, .ref (ad 0)), (1, .int m_), (2, .int w_)]) hx hb dX9_statement_177 rfl hl (by decide) rfl (fun ls hl => ?_)
            refine lv_iinc (v := (nI k) + 1) (lv' := [(5, .int ((nI k) + 1)), (3, .long (u + (((σ 2) (610 + 9 * k + 8)).toInt64))), (7, .int (b2i (mStE (σ 2) m_ w_ k))), (6, .int (b2i (mStW (σ 2) m_ w_ k))), (0, .ref (ad 0)), (1, .int m_), (2, .int w_)]) hx hb dX9_statement_178 hl (k := 3) rfl rfl (by decide) rfl (fun ls hl => ?_)
            refine lv_goto (tgt := 32) hx hb dX9_statement_181 (by decide) ?_
            rw [nI_1] at hl
            exact ih (k + 1) (by omega) (by omega) hok (u + (((σ 2) (610 + 9 * k + 8)).toInt64)) (by rw [mStS, hu]; simp only [mSt1, mSt2, mBil, c1, c2, c3, ↓reduceIte, Bool.false_eq_true]) _ _ hP hS ls (lv_sub hl [0, 1, 4, 5, 6] rfl)
      · refine lv_iload_n hx hb dX9_statement_143 rfl (lv_at hl 6 rfl) ?_
        refine lv_iconst (v := 1) hx hb dX9_statement_144 (by decide) ?_
        refine lv_icmp_eq (tgt := 157) hx hb dX9_statement_145 (by decide) (fun c5 => ?_) (fun c5 => ?_)
        · have dc5 := c5
          rw [i_eq] at dc5
          refine lv_iload hx hb dX9_statement_157 (lv_at hl 0 rfl) ?_
          refine br_eq (tgt := 178) hx hb dX9_statement_159 (by decide) (fun c6 => ?_) (fun c6 => ?_)
          · refine lv_iinc (v := (nI k) + 1) (lv' := [(5, .int ((nI k) + 1)), (7, .int (b2i (mStE (σ 2) m_ w_ k))), (6, .int (b2i (mStW (σ 2) m_ w_ k))), (3, .long u), (0, .ref (ad 0)), (1, .int m_), (2, .int w_)]) hx hb dX9_statement_178 hl (k := 2) rfl rfl (by decide) rfl (fun ls hl => ?_)
            refine lv_goto (tgt := 32) hx hb dX9_statement_181 (by decide) ?_
            rw [nI_1] at hl
            exact ih (k + 1) (by omega) (by omega) hok (u) (by rw [mStS, hu]; simp only [mSt1, mSt2, mBil, c1, (eq_true c5), c6, ↓reduceIte, Bool.false_eq_true]) _ _ hP hS ls (lv_sub hl [0, 3, 4, 5, 6] rfl)
          · refine lv_iload_n hx hb dX9_statement_162 rfl (lv_at hl 6 rfl) ?_
            refine lv_if_eq (tgt := 178) hx hb dX9_statement_163 (by decide) (fun c7 => ?_) (fun c7 => ?_)
            · have dc7 := c7
              rw [i_eq] at dc7
              refine lv_iinc (v := (nI k) + 1) (lv' := [(5, .int ((nI k) + 1)), (7, .int (b2i (mStE (σ 2) m_ w_ k))), (6, .int (b2i (mStW (σ 2) m_ w_ k))), (3, .long u), (0, .ref (ad 0)), (1, .int m_), (2, .int w_)]) hx hb dX9_statement_178 hl (k := 2) rfl rfl (by decide) rfl (fun ls hl => ?_)
              refine lv_goto (tgt := 32) hx hb dX9_statement_181 (by decide) ?_
              rw [nI_1] at hl
              exact ih (k + 1) (by omega) (by omega) hok (u) (by rw [mStS, hu]; simp only [mSt1, mSt2, mBil, c1, (eq_true c5), c6, (eq_true c7), ↓reduceIte, Bool.false_eq_true]) _ _ hP hS ls (lv_sub hl [0, 3, 4, 5, 6] rfl)
            · have dc7 := c7
              rw [i_eq] at dc7
              refine lv_lload_n hx hb dX9_statement_166 rfl (lv_at hl 3 rfl) ?_
              refine lv_aload_n hx hb dX9_statement_167 rfl (lv_at hl 4 rfl) ?_
              refine lv_iload hx hb dX9_statement_168 (lv_at hl 2 rfl) ?_
              refine lv_bipush (v := 8) hx hb dX9_statement_170 (by decide) ?_
              refine callv (y := yX9_its) ⟨hx, hb, hml, hown, ht⟩ hK hN hP hS (k := 0) (c_X9_its l D ca ad hI (s2 σ 0 0 0) τ (nI k) (8 : Int32) (nI_clamp (by omega)) (vp_in_nI (by omega) (by decide)) (show Int32.toNatClampNeg 8 = 8 from rfl) (by rw [vp_in_iff]; decide)) (by decide) (sm_obj _ _) rfl ok_X9_its gw_1097 ⟨by decide, by decide⟩ rfl hl.1 rfl (Nat.le_of_ble_eq_true rfl) ⟨by decide, by decide⟩ dX9_statement_172 (fun v_ S_ T_ H locs hp8 hP hS => ?_)
              obtain ⟨rfl, rfl, rfl⟩ := hp8
              try dsimp only [Option.toList, List.cons_append, List.nil_append]
              refine stk_i (v := ((σ 2) (610 + 9 * k + 8))) (by first | (rw [(show (s2 σ 0 0 0) 2 = (σ 2) from (s2_nk _ _ _ (by omega)))]; done) | (rw [(show (s2 σ 0 0 0) 2 = (σ 2) from (s2_nk _ _ _ (by omega)))]; rfl)) ?_
              refine lv_i2l (v := ((σ 2) (610 + 9 * k + 8)).toInt64) hx hb dX9_statement_175 rfl ?_
              refine lv_ladd hx hb dX9_statement_176 ?_
              refine lv_lstore_n (lv' := [(3, .long (u + (((σ 2) (610 + 9 * k + 8)).toInt64))), (7, .int (b2i (mStE (σ 2) m_ w_ k))), (6, .int (b2i (mStW (σ 2) m_ w_ k))), (5, .int (nI k)), (0, .ref (ad 0)), (1, .int m_), (2, .int w_)]) hx hb dX9_statement_177 rfl hl (by decide) rfl (fun ls hl => ?_)
              refine lv_iinc (v := (nI k) + 1) (lv' := [(5, .int ((nI k) + 1)), (3, .long (u + (((σ 2) (610 + 9 * k + 8)).toInt64))), (7, .int (b2i (mStE (σ 2) m_ w_ k))), (6, .int (b2i (mStW (σ 2) m_ w_ k))), (0, .ref (ad 0)), (1, .int m_), (2, .int w_)]) hx hb dX9_statement_178 hl (k := 3) rfl rfl (by decide) rfl (fun ls hl => ?_)
              refine lv_goto (tgt := 32) hx hb dX9_statement_181 (by decide) ?_
              rw [nI_1] at hl
              exact ih (k + 1) (by omega) (by omega) hok (u + (((σ 2) (610 + 9 * k + 8)).toInt64)) (by rw [mStS, hu]; simp only [mSt1, mSt2, mBil, c1, (eq_true c5), c6, c7, ↓reduceIte, Bool.false_eq_true]) _ _ hP hS ls (lv_sub hl [0, 1, 4, 5, 6] rfl)
        · have dc5 := c5
          rw [i_eq] at dc5
          refine lv_lload_n hx hb dX9_statement_148 rfl (lv_at hl 3 rfl) ?_
          refine lv_aload_n hx hb dX9_statement_149 rfl (lv_at hl 4 rfl) ?_
          refine lv_iload hx hb dX9_statement_150 (lv_at hl 2 rfl) ?_
          refine callv (y := yX9_billed) ⟨hx, hb, hml, hown, ht⟩ hK hN hP hS (k := 0) (c_X9_billed l D ca ad hI (s2 σ 0 0 0) τ (nI k) (nI_clamp (by omega)) (vp_in_nI (by omega) (by decide))) (by decide) (sm_obj _ _) rfl ok_X9_billed gw_1207 ⟨by decide, by decide⟩ rfl hl.1 rfl (Nat.le_of_ble_eq_true rfl) ⟨by decide, by decide⟩ dX9_statement_152 (fun v_ S_ T_ H locs hp9 hP hS => ?_)
          obtain ⟨rfl, rfl, rfl⟩ := hp9
          try dsimp only [Option.toList, List.cons_append, List.nil_append]
          refine stk_l (v := (((σ 2) (610 + 9 * k + 3)).toInt64 * ((σ 2) (610 + 9 * k + 5)).toInt64)) (by first | (rw [(show (s2 σ 0 0 0) 2 = (σ 2) from (s2_nk _ _ _ (by omega)))]; done) | (rw [(show (s2 σ 0 0 0) 2 = (σ 2) from (s2_nk _ _ _ (by omega)))]; rfl)) ?_
          refine lv_ladd hx hb dX9_statement_155 ?_
          refine lv_lstore_n (lv' := [(3, .long (u + (((σ 2) (610 + 9 * k + 3)).toInt64 * ((σ 2) (610 + 9 * k + 5)).toInt64))), (7, .int (b2i (mStE (σ 2) m_ w_ k))), (6, .int (b2i (mStW (σ 2) m_ w_ k))), (5, .int (nI k)), (0, .ref (ad 0)), (1, .int m_), (2, .int w_)]) hx hb dX9_statement_156 rfl hl (by decide) rfl (fun ls hl => ?_)
          refine lv_iload hx hb dX9_statement_157 (lv_at hl 1 rfl) ?_
          refine br_eq (tgt := 178) hx hb dX9_statement_159 (by decide) (fun c10 => ?_) (fun c10 => ?_)
          · refine lv_iinc (v := (nI k) + 1) (lv' := [(5, .int ((nI k) + 1)), (3, .long (u + (((σ 2) (610 + 9 * k + 3)).toInt64 * ((σ 2) (610 + 9 * k + 5)).toInt64))), (7, .int (b2i (mStE (σ 2) m_ w_ k))), (6, .int (b2i (mStW (σ 2) m_ w_ k))), (0, .ref (ad 0)), (1, .int m_), (2, .int w_)]) hx hb dX9_statement_178 hl (k := 3) rfl rfl (by decide) rfl (fun ls hl => ?_)
            refine lv_goto (tgt := 32) hx hb dX9_statement_181 (by decide) ?_
            rw [nI_1] at hl
            exact ih (k + 1) (by omega) (by omega) hok (u + (((σ 2) (610 + 9 * k + 3)).toInt64 * ((σ 2) (610 + 9 * k + 5)).toInt64)) (by rw [mStS, hu]; simp only [mSt1, mSt2, mBil, c1, c5, c10, ↓reduceIte, Bool.false_eq_true]) _ _ hP hS ls (lv_sub hl [0, 1, 4, 5, 6] rfl)
          · refine lv_iload_n hx hb dX9_statement_162 rfl (lv_at hl 6 rfl) ?_
            refine lv_if_eq (tgt := 178) hx hb dX9_statement_163 (by decide) (fun c11 => ?_) (fun c11 => ?_)
            · have dc11 := c11
              rw [i_eq] at dc11
              refine lv_iinc (v := (nI k) + 1) (lv' := [(5, .int ((nI k) + 1)), (3, .long (u + (((σ 2) (610 + 9 * k + 3)).toInt64 * ((σ 2) (610 + 9 * k + 5)).toInt64))), (7, .int (b2i (mStE (σ 2) m_ w_ k))), (6, .int (b2i (mStW (σ 2) m_ w_ k))), (0, .ref (ad 0)), (1, .int m_), (2, .int w_)]) hx hb dX9_statement_178 hl (k := 3) rfl rfl (by decide) rfl (fun ls hl => ?_)
              refine lv_goto (tgt := 32) hx hb dX9_statement_181 (by decide) ?_
              rw [nI_1] at hl
              exact ih (k + 1) (by omega) (by omega) hok (u + (((σ 2) (610 + 9 * k + 3)).toInt64 * ((σ 2) (610 + 9 * k + 5)).toInt64)) (by rw [mStS, hu]; simp only [mSt1, mSt2, mBil, c1, c5, c10, (eq_true c11), ↓reduceIte, Bool.false_eq_true]) _ _ hP hS ls (lv_sub hl [0, 1, 4, 5, 6] rfl)
            · have dc11 := c11
              rw [i_eq] at dc11
              refine lv_lload_n hx hb dX9_statement_166 rfl (lv_at hl 0 rfl) ?_
              refine lv_aload_n hx hb dX9_statement_167 rfl (lv_at hl 4 rfl) ?_
              refine lv_iload hx hb dX9_statement_168 (lv_at hl 3 rfl) ?_
              refine lv_bipush (v := 8) hx hb dX9_statement_170 (by decide) ?_
              refine callv (y := yX9_its) ⟨hx, hb, hml, hown, ht⟩ hK hN hP hS (k := 0) (c_X9_its l D ca ad hI (s2 σ 0 0 0) τ (nI k) (8 : Int32) (nI_clamp (by omega)) (vp_in_nI (by omega) (by decide)) (show Int32.toNatClampNeg 8 = 8 from rfl) (by rw [vp_in_iff]; decide)) (by decide) (sm_obj _ _) rfl ok_X9_its gw_1097 ⟨by decide, by decide⟩ rfl hl.1 rfl (Nat.le_of_ble_eq_true rfl) ⟨by decide, by decide⟩ dX9_statement_172 (fun v_ S_ T_ H locs hp12 hP hS => ?_)
              obtain ⟨rfl, rfl, rfl⟩ := hp12
              try dsimp only [Option.toList, List.cons_append, List.nil_append]
              refine stk_i (v := ((σ 2) (610 + 9 * k + 8))) (by first | (rw [(show (s2 σ 0 0 0) 2 = (σ 2) from (s2_nk _ _ _ (by omega)))]; done) | (rw [(show (s2 σ 0 0 0) 2 = (σ 2) from (s2_nk _ _ _ (by omega)))]; rfl)) ?_
              refine lv_i2l (v := ((σ 2) (610 + 9 * k + 8)).toInt64) hx hb dX9_statement_175 rfl ?_
              refine lv_ladd hx hb dX9_statement_176 ?_
              refine lv_lstore_n (lv' := [(3, .long ((u + (((σ 2) (610 + 9 * k + 3)).toInt64 * ((σ 2) (610 + 9 * k + 5)).toInt64)) + (((σ 2) (610 + 9 * k + 8)).toInt64))), (7, .int (b2i (mStE (σ 2) m_ w_ k))), (6, .int (b2i (mStW (σ 2) m_ w_ k))), (5, .int (nI k)), (0, .ref (ad 0)), (1, .int m_), (2, .int w_)]) hx hb dX9_statement_177 rfl hl (by decide) rfl (fun ls hl => ?_)
              refine lv_iinc (v := (nI k) + 1) (lv' := [(5, .int ((nI k) + 1)), (3, .long ((u + (((σ 2) (610 + 9 * k + 3)).toInt64 * ((σ 2) (610 + 9 * k + 5)).toInt64)) + (((σ 2) (610 + 9 * k + 8)).toInt64))), (7, .int (b2i (mStE (σ 2) m_ w_ k))), (6, .int (b2i (mStW (σ 2) m_ w_ k))), (0, .ref (ad 0)), (1, .int m_), (2, .int w_)]) hx hb dX9_statement_178 hl (k := 3) rfl rfl (by decide) rfl (fun ls hl => ?_)
              refine lv_goto (tgt := 32) hx hb dX9_statement_181 (by decide) ?_
              rw [nI_1] at hl
              exact ih (k + 1) (by omega) (by omega) hok ((u + (((σ 2) (610 + 9 * k + 3)).toInt64 * ((σ 2) (610 + 9 * k + 5)).toInt64)) + (((σ 2) (610 + 9 * k + 8)).toInt64)) (by rw [mStS, hu]; simp only [mSt1, mSt2, mBil, c1, c5, c10, c11, ↓reduceIte, Bool.false_eq_true]) _ _ hP hS ls (lv_sub hl [0, 1, 4, 5, 6] rfl)
    have h87 : ∀ (hkc : (k : Int) < (σ 2 609).toInt) (H : Heap) (locs : List Loc) (hP : PW D 6 ad (mxf ca ad) (s2 σ 0 0 0) τ H) (hS : va_S (AA 6 ad) s.heap H locs) (ls : Array Slot) (hl : lv_has ls 8 [(6, .int (b2i (mStW (σ 2) m_ w_ k))), (5, .int (nI k)), (3, .long u), (0, .ref (ad 0)), (1, .int m_), (2, .int w_)]), W p l e { frames := 2, cells := 0, slots := 0, locals := 43 } s m args below meth c H locs 0 0 (MQ below (QD D 6 ad (mxf ca ad) (fun v_ S_ T_ => some (.long (mStR (σ 2) m_ w_)) = v_ ∧ (if mStC m_ w_ = true then s2 σ 0 0 0 else s2 (s2 σ 0 0 0) 0 0 1) = S_ ∧ τ = T_)) args s 0 0 (AA 6 ad)) (F0 m 87 ls []) := by
      intro hkc H locs hP hS ls hl
      refine lv_aload_n hx hb dX9_statement_87 rfl (lv_at hl 3 rfl) ?_
      refine lv_iload hx hb dX9_statement_88 (lv_at hl 1 rfl) ?_
      refine lv_bipush (v := 6) hx hb dX9_statement_90 (by decide) ?_
      refine callv (y := yX9_its) ⟨hx, hb, hml, hown, ht⟩ hK hN hP hS (k := 0) (c_X9_its l D ca ad hI (s2 σ 0 0 0) τ (nI k) (6 : Int32) (nI_clamp (by omega)) (vp_in_nI (by omega) (by decide)) (show Int32.toNatClampNeg 6 = 6 from rfl) (by rw [vp_in_iff]; decide)) (by decide) (sm_obj _ _) rfl ok_X9_its gw_1097 ⟨by decide, by decide⟩ rfl hl.1 rfl (Nat.le_of_ble_eq_true rfl) ⟨by decide, by decide⟩ dX9_statement_92 (fun v_ S_ T_ H locs hp13 hP hS => ?_)
      obtain ⟨rfl, rfl, rfl⟩ := hp13
      try dsimp only [Option.toList, List.cons_append, List.nil_append]
      refine stk_i (v := ((σ 2) (610 + 9 * k + 6))) (by first | (rw [(show (s2 σ 0 0 0) 2 = (σ 2) from (s2_nk _ _ _ (by omega)))]; done) | (rw [(show (s2 σ 0 0 0) 2 = (σ 2) from (s2_nk _ _ _ (by omega)))]; rfl)) ?_
      refine lv_iconst (v := 1) hx hb dX9_statement_95 (by decide) ?_
      refine lv_icmp_ne (tgt := 135) hx hb dX9_statement_96 (by decide) (fun c14 => ?_) (fun c14 => ?_)
      · have dc14 := c14
        rw [i_eq] at dc14
        refine lv_iconst (v := 0) hx hb dX9_statement_135 (by decide) ?_
        refine lv_istore (lv' := [(7, .int 0), (6, .int (b2i (mStW (σ 2) m_ w_ k))), (5, .int (nI k)), (3, .long u), (0, .ref (ad 0)), (1, .int m_), (2, .int w_)]) hx hb dX9_statement_136 hl (by decide) rfl (fun ls hl => ?_)
        have hE : (mStE (σ 2) m_ w_ k) = false := by simp only [mStE, c14, ↓reduceIte]
        exact h138 hkc _ _ hP hS ls (by rw [hE]; exact lv_sub hl [0, 1, 2, 3, 4, 5, 6] rfl)
      · have dc14 := c14
        rw [i_eq] at dc14
        refine lv_iload_n hx hb dX9_statement_99 rfl (lv_at hl 5 rfl) ?_
        refine lv_iconst (v := 3) hx hb dX9_statement_100 (by decide) ?_
        refine lv_icmp_ne (tgt := 119) hx hb dX9_statement_101 (by decide) (fun c15 => ?_) (fun c15 => ?_)
        · have dc15 := c15
          rw [i_eq] at dc15
          refine lv_aload_n hx hb dX9_statement_119 rfl (lv_at hl 3 rfl) ?_
          refine lv_iload hx hb dX9_statement_120 (lv_at hl 1 rfl) ?_
          refine lv_bipush (v := 7) hx hb dX9_statement_122 (by decide) ?_
          refine callv (y := yX9_its) ⟨hx, hb, hml, hown, ht⟩ hK hN hP hS (k := 0) (c_X9_its l D ca ad hI (s2 σ 0 0 0) τ (nI k) (7 : Int32) (nI_clamp (by omega)) (vp_in_nI (by omega) (by decide)) (show Int32.toNatClampNeg 7 = 7 from rfl) (by rw [vp_in_iff]; decide)) (by decide) (sm_obj _ _) rfl ok_X9_its gw_1097 ⟨by decide, by decide⟩ rfl hl.1 rfl (Nat.le_of_ble_eq_true rfl) ⟨by decide, by decide⟩ dX9_statement_124 (fun v_ S_ T_ H locs hp16 hP hS => ?_)
          obtain ⟨rfl, rfl, rfl⟩ := hp16
          try dsimp only [Option.toList, List.cons_append, List.nil_append]
          refine stk_i (v := ((σ 2) (610 + 9 * k + 7))) (by first | (rw [(show (s2 σ 0 0 0) 2 = (σ 2) from (s2_nk _ _ _ (by omega)))]; done) | (rw [(show (s2 σ 0 0 0) 2 = (σ 2) from (s2_nk _ _ _ (by omega)))]; rfl)) ?_
          refine lv_iload_n hx hb dX9_statement_127 rfl (lv_at hl 4 rfl) ?_
          refine lv_icmp_ne (tgt := 135) hx hb dX9_statement_128 (by decide) (fun c17 => ?_) (fun c17 => ?_)
          · have dc17 := c17
            rw [i_eq] at dc17
            refine lv_iconst (v := 0) hx hb dX9_statement_135 (by decide) ?_
            refine lv_istore (lv' := [(7, .int 0), (6, .int (b2i (mStW (σ 2) m_ w_ k))), (5, .int (nI k)), (3, .long u), (0, .ref (ad 0)), (1, .int m_), (2, .int w_)]) hx hb dX9_statement_136 hl (by decide) rfl (fun ls hl => ?_)
            have hE : (mStE (σ 2) m_ w_ k) = false := by simp only [mStE, c14, c15, c17, ↓reduceIte]
            exact h138 hkc _ _ hP hS ls (by rw [hE]; exact lv_sub hl [0, 1, 2, 3, 4, 5, 6] rfl)
          · have dc17 := c17
            rw [i_eq] at dc17
            refine lv_iconst (v := 1) hx hb dX9_statement_131 (by decide) ?_
            refine lv_goto (tgt := 136) hx hb dX9_statement_132 (by decide) ?_
            refine lv_istore (lv' := [(7, .int 1), (6, .int (b2i (mStW (σ 2) m_ w_ k))), (5, .int (nI k)), (3, .long u), (0, .ref (ad 0)), (1, .int m_), (2, .int w_)]) hx hb dX9_statement_136 hl (by decide) rfl (fun ls hl => ?_)
            have hE : (mStE (σ 2) m_ w_ k) = true := by simp only [mStE, c14, c15, c17, ↓reduceIte]
            exact h138 hkc _ _ hP hS ls (by rw [hE]; exact lv_sub hl [0, 1, 2, 3, 4, 5, 6] rfl)
        · have dc15 := c15
          rw [i_eq] at dc15
          refine lv_aload_n hx hb dX9_statement_104 rfl (lv_at hl 3 rfl) ?_
          refine lv_iload hx hb dX9_statement_105 (lv_at hl 1 rfl) ?_
          refine lv_bipush (v := 7) hx hb dX9_statement_107 (by decide) ?_
          refine callv (y := yX9_its) ⟨hx, hb, hml, hown, ht⟩ hK hN hP hS (k := 0) (c_X9_its l D ca ad hI (s2 σ 0 0 0) τ (nI k) (7 : Int32) (nI_clamp (by omega)) (vp_in_nI (by omega) (by decide)) (show Int32.toNatClampNeg 7 = 7 from rfl) (by rw [vp_in_iff]; decide)) (by decide) (sm_obj _ _) rfl ok_X9_its gw_1097 ⟨by decide, by decide⟩ rfl hl.1 rfl (Nat.le_of_ble_eq_true rfl) ⟨by decide, by decide⟩ dX9_statement_109 (fun v_ S_ T_ H locs hp18 hP hS => ?_)
          obtain ⟨rfl, rfl, rfl⟩ := hp18
          try dsimp only [Option.toList, List.cons_append, List.nil_append]
          refine stk_i (v := ((σ 2) (610 + 9 * k + 7))) (by first | (rw [(show (s2 σ 0 0 0) 2 = (σ 2) from (s2_nk _ _ _ (by omega)))]; done) | (rw [(show (s2 σ 0 0 0) 2 = (σ 2) from (s2_nk _ _ _ (by omega)))]; rfl)) ?_
          refine lv_iload_n hx hb dX9_statement_112 rfl (lv_at hl 4 rfl) ?_
          refine lv_icmp_gt (tgt := 135) hx hb dX9_statement_113 (by decide) (fun c19 => ?_) (fun c19 => ?_)
          · have dc19 := c19
            rw [i_lt] at dc19
            refine lv_iconst (v := 0) hx hb dX9_statement_135 (by decide) ?_
            refine lv_istore (lv' := [(7, .int 0), (6, .int (b2i (mStW (σ 2) m_ w_ k))), (5, .int (nI k)), (3, .long u), (0, .ref (ad 0)), (1, .int m_), (2, .int w_)]) hx hb dX9_statement_136 hl (by decide) rfl (fun ls hl => ?_)
            have hE : (mStE (σ 2) m_ w_ k) = false := by simp only [mStE, c14, c15, c19, ↓reduceIte]
            exact h138 hkc _ _ hP hS ls (by rw [hE]; exact lv_sub hl [0, 1, 2, 3, 4, 5, 6] rfl)
          · have dc19 := c19
            rw [i_lt] at dc19
            refine lv_goto (tgt := 131) hx hb dX9_statement_116 (by decide) ?_
            refine lv_iconst (v := 1) hx hb dX9_statement_131 (by decide) ?_
            refine lv_goto (tgt := 136) hx hb dX9_statement_132 (by decide) ?_
            refine lv_istore (lv' := [(7, .int 1), (6, .int (b2i (mStW (σ 2) m_ w_ k))), (5, .int (nI k)), (3, .long u), (0, .ref (ad 0)), (1, .int m_), (2, .int w_)]) hx hb dX9_statement_136 hl (by decide) rfl (fun ls hl => ?_)
            have hE : (mStE (σ 2) m_ w_ k) = true := by simp only [mStE, c14, c15, c19, ↓reduceIte]
            exact h138 hkc _ _ hP hS ls (by rw [hE]; exact lv_sub hl [0, 1, 2, 3, 4, 5, 6] rfl)
    refine lv_iload hx hb dX9_statement_32 (lv_at hl 0 rfl) ?_
    refine lv_aload_n hx hb dX9_statement_34 rfl (lv_at hl 2 rfl) ?_
    refine fgetx hx hb ht inG9 hown hK hP (k := 0) (by decide) (x := (upd (σ 0) 0 0)) (s2_k _ _ _ _) (sm_obj _ _) rfl 12 (by decide) gw_951 (v := .ref (ad 2)) rfl dX9_statement_35 ?_
    refine lv_sipush (v := 609) hx hb dX9_statement_38 (by decide) ?_
    refine aldj hx hb hK hP (k := 2) (by decide) (x := (σ 2)) (s2_nk _ _ _ (by omega)) 0 (sm_now _ _) rfl (by rw [vp_in_iff]; decide) (j := 609) rfl dX9_statement_41 ?_
    refine lv_icmp_ge (tgt := 184) hx hb dX9_statement_42 (by decide) (fun c20 => ?_) (fun c20 => ?_)
    · have dc20 := c20
      rw [i_le] at dc20
      refine lv_lload_n hx hb dX9_statement_184 rfl (lv_at hl 1 rfl) ?_
      exact ret_l hx hb hr hlk hP hS dX9_statement_185 (⟨by rw [mStR, if_pos hok, ← hu, show (σ 2 609).toNatClampNeg = k by omega], by rw [if_pos hok], rfl⟩)
    · have dc20 := c20
      rw [i_le] at dc20
      have hkc : (k : Int) < (σ 2 609).toInt := by omega
      refine lv_iload_n hx hb dX9_statement_45 rfl (lv_at hl 4 rfl) ?_
      refine lv_iconst (v := 3) hx hb dX9_statement_46 (by decide) ?_
      refine lv_icmp_ne (tgt := 69) hx hb dX9_statement_47 (by decide) (fun c21 => ?_) (fun c21 => ?_)
      · have dc21 := c21
        rw [i_eq] at dc21
        refine lv_aload_n hx hb dX9_statement_69 rfl (lv_at hl 2 rfl) ?_
        refine lv_iload hx hb dX9_statement_70 (lv_at hl 0 rfl) ?_
        refine lv_iconst (v := 2) hx hb dX9_statement_72 (by decide) ?_
        refine callv (y := yX9_its) ⟨hx, hb, hml, hown, ht⟩ hK hN hP hS (k := 0) (c_X9_its l D ca ad hI (s2 σ 0 0 0) τ (nI k) (2 : Int32) (nI_clamp (by omega)) (vp_in_nI (by omega) (by decide)) (show Int32.toNatClampNeg 2 = 2 from rfl) (by rw [vp_in_iff]; decide)) (by decide) (sm_obj _ _) rfl ok_X9_its gw_1097 ⟨by decide, by decide⟩ rfl hl.1 rfl (Nat.le_of_ble_eq_true rfl) ⟨by decide, by decide⟩ dX9_statement_73 (fun v_ S_ T_ H locs hp22 hP hS => ?_)
        obtain ⟨rfl, rfl, rfl⟩ := hp22
        try dsimp only [Option.toList, List.cons_append, List.nil_append]
        refine stk_i (v := ((σ 2) (610 + 9 * k + 2))) (by first | (rw [(show (s2 σ 0 0 0) 2 = (σ 2) from (s2_nk _ _ _ (by omega)))]; done) | (rw [(show (s2 σ 0 0 0) 2 = (σ 2) from (s2_nk _ _ _ (by omega)))]; rfl)) ?_
        refine lv_iload_n hx hb dX9_statement_76 rfl (lv_at hl 3 rfl) ?_
        refine lv_icmp_ne (tgt := 84) hx hb dX9_statement_77 (by decide) (fun c23 => ?_) (fun c23 => ?_)
        · have dc23 := c23
          rw [i_eq] at dc23
          refine lv_iconst (v := 0) hx hb dX9_statement_84 (by decide) ?_
          refine lv_istore (lv' := [(6, .int 0), (5, .int (nI k)), (3, .long u), (0, .ref (ad 0)), (1, .int m_), (2, .int w_)]) hx hb dX9_statement_85 hl (by decide) rfl (fun ls hl => ?_)
          have hW : (mStW (σ 2) m_ w_ k) = false := by simp only [mStW, c21, c23, ↓reduceIte]
          exact h87 hkc _ _ hP hS ls (by rw [hW]; exact lv_sub hl [0, 1, 2, 3, 4, 5] rfl)
        · have dc23 := c23
          rw [i_eq] at dc23
          refine lv_iconst (v := 1) hx hb dX9_statement_80 (by decide) ?_
          refine lv_goto (tgt := 85) hx hb dX9_statement_81 (by decide) ?_
          refine lv_istore (lv' := [(6, .int 1), (5, .int (nI k)), (3, .long u), (0, .ref (ad 0)), (1, .int m_), (2, .int w_)]) hx hb dX9_statement_85 hl (by decide) rfl (fun ls hl => ?_)
          have hW : (mStW (σ 2) m_ w_ k) = true := by simp only [mStW, c21, c23, ↓reduceIte]
          exact h87 hkc _ _ hP hS ls (by rw [hW]; exact lv_sub hl [0, 1, 2, 3, 4, 5] rfl)
      · have dc21 := c21
        rw [i_eq] at dc21
        refine lv_aload_n hx hb dX9_statement_50 rfl (lv_at hl 2 rfl) ?_
        refine lv_iload hx hb dX9_statement_51 (lv_at hl 0 rfl) ?_
        refine lv_iconst (v := 2) hx hb dX9_statement_53 (by decide) ?_
        refine callv (y := yX9_its) ⟨hx, hb, hml, hown, ht⟩ hK hN hP hS (k := 0) (c_X9_its l D ca ad hI (s2 σ 0 0 0) τ (nI k) (2 : Int32) (nI_clamp (by omega)) (vp_in_nI (by omega) (by decide)) (show Int32.toNatClampNeg 2 = 2 from rfl) (by rw [vp_in_iff]; decide)) (by decide) (sm_obj _ _) rfl ok_X9_its gw_1097 ⟨by decide, by decide⟩ rfl hl.1 rfl (Nat.le_of_ble_eq_true rfl) ⟨by decide, by decide⟩ dX9_statement_54 (fun v_ S_ T_ H locs hp24 hP hS => ?_)
        obtain ⟨rfl, rfl, rfl⟩ := hp24
        try dsimp only [Option.toList, List.cons_append, List.nil_append]
        refine stk_i (v := ((σ 2) (610 + 9 * k + 2))) (by first | (rw [(show (s2 σ 0 0 0) 2 = (σ 2) from (s2_nk _ _ _ (by omega)))]; done) | (rw [(show (s2 σ 0 0 0) 2 = (σ 2) from (s2_nk _ _ _ (by omega)))]; rfl)) ?_
        refine lv_iload_n hx hb dX9_statement_57 rfl (lv_at hl 3 rfl) ?_
        refine lv_icmp_gt (tgt := 65) hx hb dX9_statement_58 (by decide) (fun c25 => ?_) (fun c25 => ?_)
        · have dc25 := c25
          rw [i_lt] at dc25
          refine lv_iconst (v := 0) hx hb dX9_statement_65 (by decide) ?_
          refine lv_goto (tgt := 85) hx hb dX9_statement_66 (by decide) ?_
          refine lv_istore (lv' := [(6, .int 0), (5, .int (nI k)), (3, .long u), (0, .ref (ad 0)), (1, .int m_), (2, .int w_)]) hx hb dX9_statement_85 hl (by decide) rfl (fun ls hl => ?_)
          have hW : (mStW (σ 2) m_ w_ k) = false := by simp only [mStW, c21, c25, ↓reduceIte]
          exact h87 hkc _ _ hP hS ls (by rw [hW]; exact lv_sub hl [0, 1, 2, 3, 4, 5] rfl)
        · have dc25 := c25
          rw [i_lt] at dc25
          refine lv_iconst (v := 1) hx hb dX9_statement_61 (by decide) ?_
          refine lv_goto (tgt := 85) hx hb dX9_statement_62 (by decide) ?_
          refine lv_istore (lv' := [(6, .int 1), (5, .int (nI k)), (3, .long u), (0, .ref (ad 0)), (1, .int m_), (2, .int w_)]) hx hb dX9_statement_85 hl (by decide) rfl (fun ls hl => ?_)
          have hW : (mStW (σ 2) m_ w_ k) = true := by simp only [mStW, c21, c25, ↓reduceIte]
          exact h87 hkc _ _ hP hS ls (by rw [hW]; exact lv_sub hl [0, 1, 2, 3, 4, 5] rfl)
set_option maxHeartbeats 4000000 in
set_option maxRecDepth 100000 in
theorem c_X9_statement (l : Launch) (D : va_G) (ca : Nat → ClassId) (ad : Nat → Nat) (hI : Inj 6 ad) (σ : MI) (τ : ML) (hR : RI (σ 2)) (m_ w_ : Int32) : CT l D (TY ca) 6 ad (mxf ca ad) yX9_statement cX9_statement 8 (some .long) 2 43 [.ref (ad 0), .int m_, .int w_] σ τ (fun v_ S_ T_ => some (.long (mStR (σ 2) m_ w_)) = v_ ∧ (if mStC m_ w_ = true then s2 σ 0 0 0 else s2 (s2 σ 0 0 0) 0 0 1) = S_ ∧ τ = T_) := by
  refine CT.of (by decide) (Nat.le_of_ble_eq_true rfl) ?_
  intro p e s m args below meth c hx hb hr ht hown hlk hml hP hK hN hS ls hl
  have hl : lv_has ls 8 [(0, .ref (ad 0)), (1, .int m_), (2, .int w_)] := hl
  refine lv_aload_n hx hb dX9_statement_0 rfl (lv_at hl 0 rfl) ?_
  refine lv_iconst (v := 0) hx hb dX9_statement_1 (by decide) ?_
  refine fputx (ref := "") (w := 0) hx hb ht inG9 tyX9 tyX9_ok nmX9 hown hK hP hI hS (k := 0) (by decide) (sm_obj _ _) rfl 0 (by decide) gw_939 rfl rfl rfl (Nat.le_of_ble_eq_true rfl) (sm_obj _ _) dX9_statement_2 (fun H locs hP hS => ?_)
  refine lv_iload_n hx hb dX9_statement_5 rfl (lv_at hl 1 rfl) ?_
  refine calls (y := yX9_isMonth) ⟨hx, hb, hml, hown, ht⟩ hK hN hP hS (c_X9_isMonth l D ca ad hI (s2 σ 0 0 0) τ m_) ok_X9_isMonth gw_1109 ⟨by decide, by decide⟩ rfl hl.1 rfl (Nat.le_of_ble_eq_true rfl) ⟨by decide, by decide⟩ dX9_statement_6 (fun v_ S_ T_ H locs hp1 hP hS => ?_)
  obtain ⟨rfl, rfl, rfl⟩ := hp1
  try dsimp only [Option.toList, List.cons_append, List.nil_append]
  refine br_eq (tgt := 21) hx hb dX9_statement_9 (by decide) (fun c2 => ?_) (fun c2 => ?_)
  · refine lv_aload_n hx hb dX9_statement_21 rfl (lv_at hl 0 rfl) ?_
    refine callv (y := yX9_refuse) ⟨hx, hb, hml, hown, ht⟩ hK hN hP hS (k := 0) (c_X9_refuse l D ca ad hI (s2 σ 0 0 0) τ ) (by decide) (sm_obj _ _) rfl ok_X9_refuse gw_1136 ⟨by decide, by decide⟩ rfl hl.1 rfl (Nat.le_of_ble_eq_true rfl) ⟨by decide, by decide⟩ dX9_statement_22 (fun v_ S_ T_ H locs hp3 hP hS => ?_)
    obtain ⟨rfl, rfl, rfl⟩ := hp3
    try dsimp only [Option.toList, List.cons_append, List.nil_append]
    refine lv_i2l (v := (0 : Int32).toInt64) hx hb dX9_statement_25 rfl ?_
    exact ret_l hx hb hr hlk hP hS dX9_statement_26 (⟨by first | with_reducible rfl | (simp only [mStR, mStC, c2, ↓reduceIte, Bool.false_eq_true]; done) | (simp only [mStR, mStC, c2, ↓reduceIte, Bool.false_eq_true]; rfl) | rfl, by first | with_reducible rfl | (simp only [mStR, mStC, c2, ↓reduceIte, Bool.false_eq_true]; done) | (simp only [mStR, mStC, c2, ↓reduceIte, Bool.false_eq_true]; rfl) | rfl, rfl⟩)
  · refine lv_iload_n hx hb dX9_statement_12 rfl (lv_at hl 2 rfl) ?_
    refine lv_iconst (v := 0) hx hb dX9_statement_13 (by decide) ?_
    refine lv_iconst (v := 3) hx hb dX9_statement_14 (by decide) ?_
    refine calls (y := yX9_isIn) ⟨hx, hb, hml, hown, ht⟩ hK hN hP hS (c_X9_isIn l D ca ad hI (s2 σ 0 0 0) τ w_ (0 : Int32) (3 : Int32)) ok_X9_isIn gw_1042 ⟨by decide, by decide⟩ rfl hl.1 rfl (Nat.le_of_ble_eq_true rfl) ⟨by decide, by decide⟩ dX9_statement_15 (fun v_ S_ T_ H locs hp4 hP hS => ?_)
    obtain ⟨rfl, rfl, rfl⟩ := hp4
    try dsimp only [Option.toList, List.cons_append, List.nil_append]
    refine br_ne (tgt := 27) hx hb dX9_statement_18 (by decide) (fun c5 => ?_) (fun c5 => ?_)
    · refine lv_lconst (v := 0) hx hb dX9_statement_27 (by decide) ?_
      refine lv_lstore_n (lv' := [(3, .long 0), (0, .ref (ad 0)), (1, .int m_), (2, .int w_)]) hx hb dX9_statement_28 rfl hl (by decide) rfl (fun ls hl => ?_)
      refine lv_iconst (v := 0) hx hb dX9_statement_29 (by decide) ?_
      refine lv_istore (lv' := [(5, .int 0), (3, .long 0), (0, .ref (ad 0)), (1, .int m_), (2, .int w_)]) hx hb dX9_statement_30 hl (by decide) rfl (fun ls hl => ?_)
      exact lp_X9_state hI hR m_ w_ hx hb hr ht hown hlk hml hK hN ((σ 2 609).toNatClampNeg + 1) 0 (by omega) (by omega) (by simp only [mStC, c2, c5, ↓reduceIte]) _ rfl _ _ hP hS ls hl
    · refine lv_aload_n hx hb dX9_statement_21 rfl (lv_at hl 0 rfl) ?_
      refine callv (y := yX9_refuse) ⟨hx, hb, hml, hown, ht⟩ hK hN hP hS (k := 0) (c_X9_refuse l D ca ad hI (s2 σ 0 0 0) τ ) (by decide) (sm_obj _ _) rfl ok_X9_refuse gw_1136 ⟨by decide, by decide⟩ rfl hl.1 rfl (Nat.le_of_ble_eq_true rfl) ⟨by decide, by decide⟩ dX9_statement_22 (fun v_ S_ T_ H locs hp6 hP hS => ?_)
      obtain ⟨rfl, rfl, rfl⟩ := hp6
      try dsimp only [Option.toList, List.cons_append, List.nil_append]
      refine lv_i2l (v := (0 : Int32).toInt64) hx hb dX9_statement_25 rfl ?_
      exact ret_l hx hb hr hlk hP hS dX9_statement_26 (⟨by first | with_reducible rfl | (simp only [mStR, mStC, c2, c5, ↓reduceIte, Bool.false_eq_true]; done) | (simp only [mStR, mStC, c2, c5, ↓reduceIte, Bool.false_eq_true]; rfl) | rfl, by first | with_reducible rfl | (simp only [mStR, mStC, c2, c5, ↓reduceIte, Bool.false_eq_true]; done) | (simp only [mStR, mStC, c2, c5, ↓reduceIte, Bool.false_eq_true]; rfl) | rfl, rfl⟩)
set_option maxHeartbeats 4000000 in
set_option maxRecDepth 100000 in
theorem lp_X9_lays {l : Launch} {D : va_G} {ca : Nat → ClassId} {ad : Nat → Nat} (hI : Inj 6 ad) {σ : MI} {τ : ML} (x : Int32) {a : Nat} (ea : σ 0 2 = nI a) (ha : a ≤ 736) {p : Program} {e : Env} {s : State} {m : MethodId} {args : Array Value} {below : List Frame} {meth : Method} {c : Code} (hx : p.tables.exec = Jvm.exec) (hb : c.code = cX9_lays) (hr : meth.sig.returnType = none) (ht : ∀ w ∈ GG, w.before args s = true) (hown : s.vm.findClass yX9_lays.cls = some m.cls) (hlk : meth.locks = false) (hml : c.maxLocals = 3) (hK : va_K D vwCl (TY ca) s) (hN : NW s) : ∀ (n : Nat) (k : Nat) (hk : k ≤ 4) (hn : 4 - k < n) (H : Heap) (locs : List Loc) (hP : PW D 6 ad (mxf ca ad) (lyS σ x k) τ H) (hS : va_S (AA 6 ad) s.heap H locs) (ls : Array Slot) (hl : lv_has ls 3 [(2, .int (shf k)), (0, .ref (ad 0)), (1, .int x)]), W p l e { frames := 0, cells := 0, slots := 0, locals := 0 } s m args below meth c H locs 0 0 (MQ below (QD D 6 ad (mxf ca ad) (fun v_ S_ T_ => none = v_ ∧ (lyS σ x 4) = S_ ∧ τ = T_)) args s 0 0 (AA 6 ad)) (F0 m 3 ls []) := by
  intro n
  induction n with
  | zero => intro k hk hn H locs hP hS ls hl; exfalso; omega
  | succ n ih =>
    intro k hk hn H locs hP hS ls hl
    have el : lyS σ x k 0 2 = nI (a + k) := by rw [lyS_len, ea, nI_add]
    refine lv_iload_n hx hb dX9_lays_3 rfl (lv_at hl 0 rfl) ?_
    refine lv_if_lt (tgt := 39) hx hb dX9_lays_4 (by decide) (fun c1 => ?_) (fun c1 => ?_)
    · have dc1 := c1
      rw [i_lt] at dc1
      obtain rfl : k = 4 := by rcases (by omega : k = 0 ∨ k = 1 ∨ k = 2 ∨ k = 3 ∨ k = 4) with rfl | rfl | rfl | rfl | rfl <;> first | rfl | exact absurd c1 (by decide)
      exact ret_v hx hb hr hlk hP hS dX9_lays_39 (⟨by first | with_reducible rfl | (simp only [c1, ↓reduceIte, Bool.false_eq_true]; done) | (simp only [c1, ↓reduceIte, Bool.false_eq_true]; rfl) | rfl, by first | with_reducible rfl | (simp only [c1, ↓reduceIte, Bool.false_eq_true]; done) | (simp only [c1, ↓reduceIte, Bool.false_eq_true]; rfl) | rfl, rfl⟩)
    · have dc1 := c1
      rw [i_lt] at dc1
      have hk3 : k ≤ 3 := by rcases (by omega : k = 4 ∨ k ≤ 3) with rfl | h; exact absurd (by decide) c1; exact h
      refine lv_aload_n hx hb dX9_lays_7 rfl (lv_at hl 1 rfl) ?_
      refine fgetx hx hb ht inG9 hown hK hP (k := 0) (by decide) (x := ((lyS σ x k) 0)) rfl (sm_obj _ _) rfl 1 (by decide) gw_940 (v := .ref (ad 1)) rfl dX9_lays_8 ?_
      refine lv_aload_n hx hb dX9_lays_11 rfl (lv_at hl 1 rfl) ?_
      refine fgetx hx hb ht inG9 hown hK hP (k := 0) (by decide) (x := ((lyS σ x k) 0)) rfl (sm_obj _ _) rfl 2 (by decide) gw_941 (v := .int (((lyS σ x k) 0) 2)) rfl dX9_lays_12 ?_
      refine lv_iload_n hx hb dX9_lays_15 rfl (lv_at hl 2 rfl) ?_
      refine lv_iload_n hx hb dX9_lays_16 rfl (lv_at hl 0 rfl) ?_
      refine lv_iushr (v := (x.toUInt32 >>> (((shf k) : Int32).toUInt32 &&& Int32.toUInt32 31)).toInt32) hx hb dX9_lays_17 rfl ?_
      refine lv_sipush (v := 255) hx hb dX9_lays_18 (by decide) ?_
      refine lv_iand hx hb dX9_lays_21 ?_
      refine astj hx hb hK hP hI hS (k := 1) (by decide) 0 (fun f => sm_tape f _ ) rfl (by rw [el]; exact vp_in_nI (by omega) (by decide)) (j := (((lyS σ x k) 0) 2).toNatClampNeg) rfl dX9_lays_22 (fun H locs hP hS => ?_)
      refine lv_aload_n hx hb dX9_lays_23 rfl (lv_at hl 1 rfl) ?_
      refine lv_dup hx hb dX9_lays_24 rfl ?_
      refine fgetx hx hb ht inG9 hown hK hP (k := 0) (by decide) (x := ((lyS σ x k) 0)) (s2_nk _ _ _ (by omega)) (sm_obj _ _) rfl 2 (by decide) gw_941 (v := .int (((lyS σ x k) 0) 2)) rfl dX9_lays_25 ?_
      refine lv_iconst (v := 1) hx hb dX9_lays_28 (by decide) ?_
      refine lv_iadd hx hb dX9_lays_29 ?_
      refine fputx (ref := "") (w := (((lyS σ x k) 0) 2) + 1) hx hb ht inG9 tyX9 tyX9_ok nmX9 hown hK hP hI hS (k := 0) (by decide) (sm_obj _ _) rfl 2 (by decide) gw_941 rfl rfl rfl (Nat.le_of_ble_eq_true rfl) (sm_obj _ _) dX9_lays_30 (fun H locs hP hS => ?_)
      refine lv_iinc (v := (shf k) + (-8)) (lv' := [(2, .int ((shf k) + (-8))), (0, .ref (ad 0)), (1, .int x)]) hx hb dX9_lays_33 hl (k := 0) rfl rfl (by decide) rfl (fun ls hl => ?_)
      refine lv_goto (tgt := 3) hx hb dX9_lays_36 (by decide) ?_
      rw [shf_dec k (by omega)] at hl
      exact ih (k + 1) (by omega) (by omega) _ _ hP hS ls (lv_sub hl [0, 1, 2] rfl)
set_option maxHeartbeats 4000000 in
set_option maxRecDepth 100000 in
theorem c_X9_lays (l : Launch) (D : va_G) (ca : Nat → ClassId) (ad : Nat → Nat) (hI : Inj 6 ad) (σ : MI) (τ : ML) (x : Int32) {a : Nat} (ea : σ 0 2 = nI a) (ha : a ≤ 736) : CT l D (TY ca) 6 ad (mxf ca ad) yX9_lays cX9_lays 3 none 0 0 [.ref (ad 0), .int x] σ τ (fun v_ S_ T_ => none = v_ ∧ (lyS σ x 4) = S_ ∧ τ = T_) := by
  refine CT.of (by decide) (Nat.le_of_ble_eq_true rfl) ?_
  intro p e s m args below meth c hx hb hr ht hown hlk hml hP hK hN hS ls hl
  have hl : lv_has ls 3 [(0, .ref (ad 0)), (1, .int x)] := hl
  refine lv_bipush (v := 24) hx hb dX9_lays_0 (by decide) ?_
  refine lv_istore_n (lv' := [(2, .int 24), (0, .ref (ad 0)), (1, .int x)]) hx hb dX9_lays_2 rfl hl (by decide) rfl (fun ls hl => ?_)
  exact lp_X9_lays hI x ea ha hx hb hr ht hown hlk hml hK hN 5 0 (by omega) (by omega) _ _ hP hS ls hl
set_option maxHeartbeats 4000000 in
set_option maxRecDepth 100000 in
theorem c_X9_feed (l : Launch) (D : va_G) (ca : Nat → ClassId) (ad : Nat → Nat) (hI : Inj 6 ad) (σ : MI) (τ : ML) (a b_ c_ d e_ : Int32) {t : Nat} (et : σ 0 2 = nI t) (ht7 : t ≤ 740) : CT l D (TY ca) 6 ad (mxf ca ad) yX9_feed cX9_feed 6 (some .int) 1 22 [.ref (ad 0), .int a, .int b_, .int c_, .int d, .int e_] σ τ (fun v_ S_ T_ => some (.int (mfR σ a b_ c_ d e_)) = v_ ∧ (mfM σ a b_ c_ d e_) = S_ ∧ τ = T_) := by
  refine CT.of (by decide) (Nat.le_of_ble_eq_true rfl) ?_
  intro p e s m args below meth c hx hb hr ht hown hlk hml hP hK hN hS ls hl
  have hl : lv_has ls 6 [(0, .ref (ad 0)), (1, .int a), (2, .int b_), (3, .int c_), (4, .int d), (5, .int e_)] := hl
  have e20 : (20 : Int32) = nI 20 := rfl
  have e740 : (740 : Int32).toInt = 740 := rfl
  have elen : (σ 0 2 + 20).toInt = t + 20 := by rw [et, e20, nI_add, nI_toInt (by omega)]; omega
  refine lv_aload_n hx hb dX9_feed_0 rfl (lv_at hl 0 rfl) ?_
  refine lv_iconst (v := 0) hx hb dX9_feed_1 (by decide) ?_
  refine fputx (ref := "") (w := 0) hx hb ht inG9 tyX9 tyX9_ok nmX9 hown hK hP hI hS (k := 0) (by decide) (sm_obj _ _) rfl 0 (by decide) gw_939 rfl rfl rfl (Nat.le_of_ble_eq_true rfl) (sm_obj _ _) dX9_feed_2 (fun H locs hP hS => ?_)
  refine lv_aload_n hx hb dX9_feed_5 rfl (lv_at hl 0 rfl) ?_
  refine fgetx hx hb ht inG9 hown hK hP (k := 0) (by decide) (x := (upd (σ 0) 0 0)) (s2_k _ _ _ _) (sm_obj _ _) rfl 2 (by decide) gw_941 (v := .int ((σ 0) 2)) rfl dX9_feed_6 ?_
  refine lv_bipush (v := 20) hx hb dX9_feed_9 (by decide) ?_
  refine lv_iadd hx hb dX9_feed_11 ?_
  refine lv_sipush (v := 740) hx hb dX9_feed_12 (by decide) ?_
  refine lv_icmp_le (tgt := 20) hx hb dX9_feed_15 (by decide) (fun c1 => ?_) (fun c1 => ?_)
  · have dc1 := c1
    rw [i_le] at dc1
    refine lv_aload_n hx hb dX9_feed_20 rfl (lv_at hl 0 rfl) ?_
    refine lv_iload_n hx hb dX9_feed_21 rfl (lv_at hl 1 rfl) ?_
    refine callv (y := yX9_lays) ⟨hx, hb, hml, hown, ht⟩ hK hN hP hS (k := 0) (c_X9_lays l D ca ad hI (s2 σ 0 0 0) τ a (by rw [s2_nj _ _ _ (by decide), et] : _ = nI (t)) (by omega)) (by decide) (sm_obj _ _) rfl ok_X9_lays gw_925 ⟨by decide, by decide⟩ rfl hl.1 rfl (Nat.le_of_ble_eq_true rfl) ⟨by decide, by decide⟩ dX9_feed_22 (fun v_ S_ T_ H locs hp2 hP hS => ?_)
    obtain ⟨rfl, rfl, rfl⟩ := hp2
    try dsimp only [Option.toList, List.cons_append, List.nil_append]
    refine lv_aload_n hx hb dX9_feed_25 rfl (lv_at hl 0 rfl) ?_
    refine lv_iload_n hx hb dX9_feed_26 rfl (lv_at hl 2 rfl) ?_
    refine callv (y := yX9_lays) ⟨hx, hb, hml, hown, ht⟩ hK hN hP hS (k := 0) (c_X9_lays l D ca ad hI (lyS (s2 σ 0 0 0) a 4) τ b_ (by rw [lyS_len, s2_nj _ _ _ (by decide), et]; simp only [nI_add] : _ = nI (t + 4)) (by omega)) (by decide) (sm_obj _ _) rfl ok_X9_lays gw_925 ⟨by decide, by decide⟩ rfl hl.1 rfl (Nat.le_of_ble_eq_true rfl) ⟨by decide, by decide⟩ dX9_feed_27 (fun v_ S_ T_ H locs hp3 hP hS => ?_)
    obtain ⟨rfl, rfl, rfl⟩ := hp3
    try dsimp only [Option.toList, List.cons_append, List.nil_append]
    refine lv_aload_n hx hb dX9_feed_30 rfl (lv_at hl 0 rfl) ?_
    refine lv_iload_n hx hb dX9_feed_31 rfl (lv_at hl 3 rfl) ?_
    refine callv (y := yX9_lays) ⟨hx, hb, hml, hown, ht⟩ hK hN hP hS (k := 0) (c_X9_lays l D ca ad hI (lyS (lyS (s2 σ 0 0 0) a 4) b_ 4) τ c_ (by rw [lyS_len, lyS_len, s2_nj _ _ _ (by decide), et]; simp only [nI_add] : _ = nI (t + 4 + 4)) (by omega)) (by decide) (sm_obj _ _) rfl ok_X9_lays gw_925 ⟨by decide, by decide⟩ rfl hl.1 rfl (Nat.le_of_ble_eq_true rfl) ⟨by decide, by decide⟩ dX9_feed_32 (fun v_ S_ T_ H locs hp4 hP hS => ?_)
    obtain ⟨rfl, rfl, rfl⟩ := hp4
    try dsimp only [Option.toList, List.cons_append, List.nil_append]
    refine lv_aload_n hx hb dX9_feed_35 rfl (lv_at hl 0 rfl) ?_
    refine lv_iload hx hb dX9_feed_36 (lv_at hl 4 rfl) ?_
    refine callv (y := yX9_lays) ⟨hx, hb, hml, hown, ht⟩ hK hN hP hS (k := 0) (c_X9_lays l D ca ad hI (lyS (lyS (lyS (s2 σ 0 0 0) a 4) b_ 4) c_ 4) τ d (by rw [lyS_len, lyS_len, lyS_len, s2_nj _ _ _ (by decide), et]; simp only [nI_add] : _ = nI (t + 4 + 4 + 4)) (by omega)) (by decide) (sm_obj _ _) rfl ok_X9_lays gw_925 ⟨by decide, by decide⟩ rfl hl.1 rfl (Nat.le_of_ble_eq_true rfl) ⟨by decide, by decide⟩ dX9_feed_38 (fun v_ S_ T_ H locs hp5 hP hS => ?_)
    obtain ⟨rfl, rfl, rfl⟩ := hp5
    try dsimp only [Option.toList, List.cons_append, List.nil_append]
    refine lv_aload_n hx hb dX9_feed_41 rfl (lv_at hl 0 rfl) ?_
    refine lv_iload hx hb dX9_feed_42 (lv_at hl 5 rfl) ?_
    refine callv (y := yX9_lays) ⟨hx, hb, hml, hown, ht⟩ hK hN hP hS (k := 0) (c_X9_lays l D ca ad hI (lyS (lyS (lyS (lyS (s2 σ 0 0 0) a 4) b_ 4) c_ 4) d 4) τ e_ (by rw [lyS_len, lyS_len, lyS_len, lyS_len, s2_nj _ _ _ (by decide), et]; simp only [nI_add] : _ = nI (t + 4 + 4 + 4 + 4)) (by omega)) (by decide) (sm_obj _ _) rfl ok_X9_lays gw_925 ⟨by decide, by decide⟩ rfl hl.1 rfl (Nat.le_of_ble_eq_true rfl) ⟨by decide, by decide⟩ dX9_feed_44 (fun v_ S_ T_ H locs hp6 hP hS => ?_)
    obtain ⟨rfl, rfl, rfl⟩ := hp6
    try dsimp only [Option.toList, List.cons_append, List.nil_append]
    refine lv_aload_n hx hb dX9_feed_47 rfl (lv_at hl 0 rfl) ?_
    refine fgetx hx hb ht inG9 hown hK hP (k := 0) (by decide) (x := ((lyS (lyS (lyS (lyS (lyS (s2 σ 0 0 0) a 4) b_ 4) c_ 4) d 4) e_ 4) 0)) rfl (sm_obj _ _) rfl 2 (by decide) gw_941 (v := .int (((lyS (lyS (lyS (lyS (lyS (s2 σ 0 0 0) a 4) b_ 4) c_ 4) d 4) e_ 4) 0) 2)) rfl dX9_feed_48 ?_
    exact ret_i hx hb hr hlk hP hS dX9_feed_51 (⟨by first | with_reducible rfl | (simp only [mfR, mfM, c1, ↓reduceIte, Bool.false_eq_true]; done) | (simp only [mfR, mfM, c1, ↓reduceIte, Bool.false_eq_true]; rfl) | rfl, by first | with_reducible rfl | (simp only [mfR, mfM, c1, ↓reduceIte, Bool.false_eq_true]; done) | (simp only [mfR, mfM, c1, ↓reduceIte, Bool.false_eq_true]; rfl) | rfl, rfl⟩)
  · have dc1 := c1
    rw [i_le] at dc1
    refine lv_iconst (v := -1) hx hb dX9_feed_18 (by decide) ?_
    exact ret_i hx hb hr hlk hP hS dX9_feed_19 (⟨by first | with_reducible rfl | (simp only [mfR, mfM, c1, ↓reduceIte, Bool.false_eq_true]; done) | (simp only [mfR, mfM, c1, ↓reduceIte, Bool.false_eq_true]; rfl) | rfl, by first | with_reducible rfl | (simp only [mfR, mfM, c1, ↓reduceIte, Bool.false_eq_true]; done) | (simp only [mfR, mfM, c1, ↓reduceIte, Bool.false_eq_true]; rfl) | rfl, rfl⟩)
set_option maxHeartbeats 4000000 in
set_option maxRecDepth 100000 in
theorem c_X9_tapeAt (l : Launch) (D : va_G) (ca : Nat → ClassId) (ad : Nat → Nat) (hI : Inj 6 ad) (σ : MI) (τ : ML) (p_ : Int32) (hp_ : ¬ σ 0 3 ≤ p_ → vp_in p_ 740) : CT l D (TY ca) 6 ad (mxf ca ad) yX9_tapeAt cX9_tapeAt 2 (some .int) 0 0 [.ref (ad 0), .int p_] σ τ (fun v_ S_ T_ => some (.int (mTape σ p_)) = v_ ∧ σ = S_ ∧ τ = T_) := by
  refine CT.of (by decide) (Nat.le_of_ble_eq_true rfl) ?_
  intro p e s m args below meth c hx hb hr ht hown hlk hml hP hK hN hS ls hl
  have hl : lv_has ls 2 [(0, .ref (ad 0)), (1, .int p_)] := hl
  refine lv_iload_n hx hb dX9_tapeAt_0 rfl (lv_at hl 1 rfl) ?_
  refine lv_aload_n hx hb dX9_tapeAt_1 rfl (lv_at hl 0 rfl) ?_
  refine fgetx hx hb ht inG9 hown hK hP (k := 0) (by decide) (x := (σ 0)) rfl (sm_obj _ _) rfl 3 (by decide) gw_942 (v := .int ((σ 0) 3)) rfl dX9_tapeAt_2 ?_
  refine lv_icmp_ge (tgt := 17) hx hb dX9_tapeAt_5 (by decide) (fun c1 => ?_) (fun c1 => ?_)
  · have dc1 := c1
    rw [i_le] at dc1
    refine lv_iconst (v := 0) hx hb dX9_tapeAt_17 (by decide) ?_
    exact ret_i hx hb hr hlk hP hS dX9_tapeAt_18 (⟨by first | with_reducible rfl | (simp only [mTape, c1, ↓reduceIte, Bool.false_eq_true]; done) | (simp only [mTape, c1, ↓reduceIte, Bool.false_eq_true]; rfl) | rfl, by first | with_reducible rfl | (simp only [mTape, c1, ↓reduceIte, Bool.false_eq_true]; done) | (simp only [mTape, c1, ↓reduceIte, Bool.false_eq_true]; rfl) | rfl, rfl⟩)
  · have dc1 := c1
    rw [i_le] at dc1
    refine lv_aload_n hx hb dX9_tapeAt_8 rfl (lv_at hl 0 rfl) ?_
    refine fgetx hx hb ht inG9 hown hK hP (k := 0) (by decide) (x := (σ 0)) rfl (sm_obj _ _) rfl 1 (by decide) gw_940 (v := .ref (ad 1)) rfl dX9_tapeAt_9 ?_
    refine lv_iload_n hx hb dX9_tapeAt_12 rfl (lv_at hl 1 rfl) ?_
    refine aldj hx hb hK hP (k := 1) (by decide) (x := (σ 1)) rfl 0 (sm_tape _ _) rfl (hp_ ‹_›) (j := p_.toNatClampNeg) rfl dX9_tapeAt_13 ?_
    refine lv_goto (tgt := 18) hx hb dX9_tapeAt_14 (by decide) ?_
    exact ret_i hx hb hr hlk hP hS dX9_tapeAt_18 (⟨by first | with_reducible rfl | (simp only [mTape, c1, ↓reduceIte, Bool.false_eq_true]; done) | (simp only [mTape, c1, ↓reduceIte, Bool.false_eq_true]; rfl) | rfl, by first | with_reducible rfl | (simp only [mTape, c1, ↓reduceIte, Bool.false_eq_true]; done) | (simp only [mTape, c1, ↓reduceIte, Bool.false_eq_true]; rfl) | rfl, rfl⟩)
set_option maxHeartbeats 4000000 in
set_option maxRecDepth 100000 in
theorem lp_X9_name {l : Launch} {D : va_G} {ca : Nat → ClassId} {ad : Nat → Nat} (hI : Inj 6 ad) {σ : MI} {τ : ML}  {p : Program} {e : Env} {s : State} {m : MethodId} {args : Array Value} {below : List Frame} {meth : Method} {c : Code} (hx : p.tables.exec = Jvm.exec) (hb : c.code = cX9_isName) (hr : meth.sig.returnType = (some .boolean)) (ht : ∀ w ∈ GG, w.before args s = true) (hown : s.vm.findClass yX9_isName.cls = some m.cls) (hlk : meth.locks = false) (hml : c.maxLocals = 3) (hK : va_K D vwCl (TY ca) s) (hN : NW s) : ∀ (n : Nat) (k : Nat) (hk : k ≤ 7) (hn : 7 - k < n) (H : Heap) (locs : List Loc) (hP : PW D 6 ad (mxf ca ad) σ τ H) (hS : va_S (AA 6 ad) s.heap H locs) (ls : Array Slot) (hl : lv_has ls 3 [(2, .int (nI k)), (1, .int (b2i (mNm (τ 0 11) k (if σ 0 6 = 2 then true else false)))), (0, .ref (ad 0))]), W p l e { frames := 2, cells := 0, slots := 0, locals := 43 } s m args below meth c H locs 0 0 (MQ below (QD D 6 ad (mxf ca ad) (fun v_ S_ T_ => some (.int (b2i (mName σ τ))) = v_ ∧ σ = S_ ∧ τ = T_)) args s 0 0 (AA 6 ad)) (F0 m 16 ls []) := by
  intro n
  induction n with
  | zero => intro k hk hn H locs hP hS ls hl; exfalso; omega
  | succ n ih =>
    intro k hk hn H locs hP hS ls hl
    have e6 : (6 : Int32).toInt = 6 := rfl
    have ek : (nI k).toInt = k := nI_toInt (by omega)
    refine lv_iload_n hx hb dX9_isName_16 rfl (lv_at hl 0 rfl) ?_
    refine lv_bipush (v := 6) hx hb dX9_isName_17 (by decide) ?_
    refine lv_icmp_gt (tgt := 50) hx hb dX9_isName_19 (by decide) (fun c1 => ?_) (fun c1 => ?_)
    · have dc1 := c1
      rw [i_lt] at dc1
      refine lv_iload_n hx hb dX9_isName_50 rfl (lv_at hl 1 rfl) ?_
      exact ret_z hx hb hr hlk hP hS dX9_isName_51 (b := (mNm (τ 0 11) k (if σ 0 6 = 2 then true else false))) rfl (⟨by rw [mName, show k = 7 by omega], rfl, rfl⟩)
    · have dc1 := c1
      rw [i_lt] at dc1
      refine lv_iload_n hx hb dX9_isName_22 rfl (lv_at hl 1 rfl) ?_
      refine br_eq (tgt := 42) hx hb dX9_isName_23 (by decide) (fun c2 => ?_) (fun c2 => ?_)
      · refine lv_iconst (v := 0) hx hb dX9_isName_42 (by decide) ?_
        refine lv_istore_n (lv' := [(1, .int 0), (2, .int (nI k)), (0, .ref (ad 0))]) hx hb dX9_isName_43 rfl hl (by decide) rfl (fun ls hl => ?_)
        refine lv_iinc (v := (nI k) + 1) (lv' := [(2, .int ((nI k) + 1)), (1, .int 0), (0, .ref (ad 0))]) hx hb dX9_isName_44 hl (k := 1) rfl rfl (by decide) rfl (fun ls hl => ?_)
        refine lv_goto (tgt := 16) hx hb dX9_isName_47 (by decide) ?_
        have hN7 : mNm (τ 0 11) (k + 1) (if σ 0 6 = 2 then true else false) = false := by simp only [mNm, c2, ↓reduceIte, Bool.false_eq_true]
        rw [nI_1] at hl
        exact ih (k + 1) (by omega) (by omega) _ _ hP hS ls (by rw [hN7]; exact lv_sub hl [0, 1, 2] rfl)
      · refine lv_aload_n hx hb dX9_isName_26 rfl (lv_at hl 2 rfl) ?_
        refine fgetx hx hb ht inG9 hown hK hP (k := 0) (by decide) (x := (σ 0)) rfl (sm_obj _ _) rfl 11 (by decide) gw_950 (v := .long (τ 0 11)) rfl dX9_isName_27 ?_
        refine lv_iload_n hx hb dX9_isName_30 rfl (lv_at hl 0 rfl) ?_
        refine calls (y := yX9_wordOf) ⟨hx, hb, hml, hown, ht⟩ hK hN hP hS (c_X9_wordOf l D ca ad hI σ τ (nI k)) ok_X9_wordOf gw_1020 ⟨by decide, by decide⟩ rfl hl.1 rfl (Nat.le_of_ble_eq_true rfl) ⟨by decide, by decide⟩ dX9_isName_31 (fun v_ S_ T_ H locs hp3 hP hS => ?_)
        obtain ⟨rfl, rfl, rfl⟩ := hp3
        try dsimp only [Option.toList, List.cons_append, List.nil_append]
        refine W.lcmp hx hb dX9_isName_34 ?_
        refine lv_if_eq (tgt := 42) hx hb dX9_isName_35 (by decide) (fun c4 => ?_) (fun c4 => ?_)
        · rw [lgc_eq] at c4
          refine lv_iconst (v := 0) hx hb dX9_isName_42 (by decide) ?_
          refine lv_istore_n (lv' := [(1, .int 0), (2, .int (nI k)), (0, .ref (ad 0))]) hx hb dX9_isName_43 rfl hl (by decide) rfl (fun ls hl => ?_)
          refine lv_iinc (v := (nI k) + 1) (lv' := [(2, .int ((nI k) + 1)), (1, .int 0), (0, .ref (ad 0))]) hx hb dX9_isName_44 hl (k := 1) rfl rfl (by decide) rfl (fun ls hl => ?_)
          refine lv_goto (tgt := 16) hx hb dX9_isName_47 (by decide) ?_
          have hN7 : mNm (τ 0 11) (k + 1) (if σ 0 6 = 2 then true else false) = false := by simp only [mNm, c2, (eq_true c4), ↓reduceIte, Bool.false_eq_true]
          rw [nI_1] at hl
          exact ih (k + 1) (by omega) (by omega) _ _ hP hS ls (by rw [hN7]; exact lv_sub hl [0, 1, 2] rfl)
        · rw [lgc_eq] at c4
          refine lv_iconst (v := 1) hx hb dX9_isName_38 (by decide) ?_
          refine lv_goto (tgt := 43) hx hb dX9_isName_39 (by decide) ?_
          refine lv_istore_n (lv' := [(1, .int 1), (2, .int (nI k)), (0, .ref (ad 0))]) hx hb dX9_isName_43 rfl hl (by decide) rfl (fun ls hl => ?_)
          refine lv_iinc (v := (nI k) + 1) (lv' := [(2, .int ((nI k) + 1)), (1, .int 1), (0, .ref (ad 0))]) hx hb dX9_isName_44 hl (k := 1) rfl rfl (by decide) rfl (fun ls hl => ?_)
          refine lv_goto (tgt := 16) hx hb dX9_isName_47 (by decide) ?_
          have hN7 : mNm (τ 0 11) (k + 1) (if σ 0 6 = 2 then true else false) = true := by simp only [mNm, c2, c4, ↓reduceIte, Bool.false_eq_true]
          rw [nI_1] at hl
          exact ih (k + 1) (by omega) (by omega) _ _ hP hS ls (by rw [hN7]; exact lv_sub hl [0, 1, 2] rfl)
set_option maxHeartbeats 4000000 in
set_option maxRecDepth 100000 in
theorem c_X9_isName (l : Launch) (D : va_G) (ca : Nat → ClassId) (ad : Nat → Nat) (hI : Inj 6 ad) (σ : MI) (τ : ML)  : CT l D (TY ca) 6 ad (mxf ca ad) yX9_isName cX9_isName 3 (some .boolean) 2 43 [.ref (ad 0)] σ τ (fun v_ S_ T_ => some (.int (b2i (mName σ τ))) = v_ ∧ σ = S_ ∧ τ = T_) := by
  refine CT.of (by decide) (Nat.le_of_ble_eq_true rfl) ?_
  intro p e s m args below meth c hx hb hr ht hown hlk hml hP hK hN hS ls hl
  have hl : lv_has ls 3 [(0, .ref (ad 0))] := hl
  refine lv_aload_n hx hb dX9_isName_0 rfl (lv_at hl 0 rfl) ?_
  refine fgetx hx hb ht inG9 hown hK hP (k := 0) (by decide) (x := (σ 0)) rfl (sm_obj _ _) rfl 6 (by decide) gw_945 (v := .int ((σ 0) 6)) rfl dX9_isName_1 ?_
  refine lv_iconst (v := 2) hx hb dX9_isName_4 (by decide) ?_
  refine lv_icmp_ne (tgt := 12) hx hb dX9_isName_5 (by decide) (fun c1 => ?_) (fun c1 => ?_)
  · have dc1 := c1
    rw [i_eq] at dc1
    refine lv_iconst (v := 0) hx hb dX9_isName_12 (by decide) ?_
    refine lv_istore_n (lv' := [(1, .int 0), (0, .ref (ad 0))]) hx hb dX9_isName_13 rfl hl (by decide) rfl (fun ls hl => ?_)
    refine lv_iconst (v := 0) hx hb dX9_isName_14 (by decide) ?_
    refine lv_istore_n (lv' := [(2, .int 0), (1, .int 0), (0, .ref (ad 0))]) hx hb dX9_isName_15 rfl hl (by decide) rfl (fun ls hl => ?_)
    exact lp_X9_name hI hx hb hr ht hown hlk hml hK hN 8 0 (by omega) (by omega) _ _ hP hS ls (by rw [mNm, if_neg c1]; exact lv_sub hl [0, 1, 2] rfl)
  · have dc1 := c1
    rw [i_eq] at dc1
    refine lv_iconst (v := 1) hx hb dX9_isName_8 (by decide) ?_
    refine lv_goto (tgt := 13) hx hb dX9_isName_9 (by decide) ?_
    refine lv_istore_n (lv' := [(1, .int 1), (0, .ref (ad 0))]) hx hb dX9_isName_13 rfl hl (by decide) rfl (fun ls hl => ?_)
    refine lv_iconst (v := 0) hx hb dX9_isName_14 (by decide) ?_
    refine lv_istore_n (lv' := [(2, .int 0), (1, .int 1), (0, .ref (ad 0))]) hx hb dX9_isName_15 rfl hl (by decide) rfl (fun ls hl => ?_)
    exact lp_X9_name hI hx hb hr ht hown hlk hml hK hN 8 0 (by omega) (by omega) _ _ hP hS ls (by rw [mNm, if_pos c1]; exact lv_sub hl [0, 1, 2] rfl)
