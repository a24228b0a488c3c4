set_option maxHeartbeats 4000000 in
set_option maxRecDepth 100000 in
theorem lp_X9_go2 {l : Launch} {D : va_G} {ca : Nat → ClassId} {ad : Nat → Nat} (hI : Inj 6 ad) {σ : MI} {τ : ML} (hT : TI σ) {p : Program} {e : Env} {s : State} {m : MethodId} {args : Array Value} {below : List Frame} {meth : Method} {c : Code} (hx : p.tables.exec = Jvm.exec) (hb : c.code = cX9_go) (hr : meth.sig.returnType = none) (ht : ∀ w ∈ GG, w.before args s = true) (hown : s.vm.findClass yX9_go.cls = some m.cls) (hlk : meth.locks = false) (hml : c.maxLocals = 5) (hK : va_K D vwCl (TY ca) s) (hN : NW s) : ∀ (n : Nat) (r t : Nat) (hn : r < n) (g : Bool) (w : Int64) (u : Int32) (hR : tkL σ (gT σ) (mLet (gC σ)) (r + 1) t g w u = gK σ) (N : Nat) (h3 : σ 0 3 = nI N) (hN7 : N ≤ 740) (hrt : t + r = N) (hg1 : gT σ < N) (hgx : gX σ = true) (hgm : goM σ = s2 (s2 (s2 (gO σ) 0 7 (gK σ).2.2.2) 0 4 (nI (gK σ).1)) 0 6 (tkS (gT σ) (mLet (gC σ)) (gK σ))) (H : Heap) (locs : List Loc) (hP : PW D 6 ad (mxf ca ad) (s2 (s2 (s2 (s2 σ 0 4 (nI (gT σ))) 0 5 (nI (gT σ))) 0 7 u) 0 4 (nI t)) (s2L τ 0 11 w) H) (hS : va_S (AA 6 ad) s.heap H locs) (ls : Array Slot) (hl : lv_has ls 5 [(3, .int (b2i g)), (2, .int (b2i (mLet (gC σ)))), (0, .ref (ad 0))]), W p l e { frames := 1, cells := 0, slots := 0, locals := 21 } s m args below meth c H locs 0 0 (MQ below (QD D 6 ad (mxf ca ad) (fun v_ S_ T_ => none = v_ ∧ (goM σ) = S_ ∧ (goT σ τ) = T_)) args s 0 0 (AA 6 ad)) (F0 m 194 ls []) := by
  intro n
  induction n with
  | zero => intro r t hn g w u hR N h3 hN7 hrt hg1 hgx hgm H locs hP hS ls hl; exfalso; omega
  | succ n ih =>
    intro r t hn g w u hR N h3 hN7 hrt hg1 hgx hgm H locs hP hS ls hl
    have ek : (nI t).toInt = t := nI_toInt (by omega)
    have h222 : ∀ (hc9 : tkC σ t = true) (H : Heap) (locs : List Loc) (hP : PW D 6 ad (mxf ca ad) (s2 (s2 (s2 (s2 σ 0 4 (nI (gT σ))) 0 5 (nI (gT σ))) 0 7 u) 0 4 (nI t)) (s2L τ 0 11 w) H) (hS : va_S (AA 6 ad) s.heap H locs) (ls : Array Slot) (hl : lv_has ls 5 [(3, .int (b2i g)), (2, .int (b2i (mLet (gC σ)))), (0, .ref (ad 0))]), W p l e { frames := 1, cells := 0, slots := 0, locals := 21 } s m args below meth c H locs 0 0 (MQ below (QD D 6 ad (mxf ca ad) (fun v_ S_ T_ => none = v_ ∧ (goM σ) = S_ ∧ (goT σ τ) = T_)) args s 0 0 (AA 6 ad)) (F0 m 222 ls []) := by
      intro hc9 H locs hP hS ls hl
      have htN := tkC_lt h3 hN7 (by omega) hc9
      obtain ⟨r', rfl⟩ : ∃ r', r = r' + 1 := ⟨r - 1, by omega⟩
      refine lv_aload_n hx hb dX9_go_222 rfl (lv_at hl 2 rfl) ?_
      refine fgetx hx hb ht inG9 hown hK hP (k := 0) (by decide) (x := (upd (upd (upd (upd (σ 0) 4 (nI (gT σ))) 5 (nI (gT σ))) 7 u) 4 (nI t))) ((s2_k _ _ _ _).trans (congrArg (fun f => upd f 4 (nI t)) ((s2_k _ _ _ _).trans (congrArg (fun f => upd f 7 u) ((s2_k _ _ _ _).trans (congrArg (fun f => upd f 5 (nI (gT σ))) (s2_k _ _ _ _))))))) (sm_obj _ _) rfl 1 (by decide) gw_940 (v := .ref (ad 1)) rfl dX9_go_223 ?_
      refine lv_aload_n hx hb dX9_go_226 rfl (lv_at hl 2 rfl) ?_
      refine fgetx hx hb ht inG9 hown hK hP (k := 0) (by decide) (x := (upd (upd (upd (upd (σ 0) 4 (nI (gT σ))) 5 (nI (gT σ))) 7 u) 4 (nI t))) ((s2_k _ _ _ _).trans (congrArg (fun f => upd f 4 (nI t)) ((s2_k _ _ _ _).trans (congrArg (fun f => upd f 7 u) ((s2_k _ _ _ _).trans (congrArg (fun f => upd f 5 (nI (gT σ))) (s2_k _ _ _ _))))))) (sm_obj _ _) rfl 4 (by decide) gw_943 (v := .int (nI t)) rfl dX9_go_227 ?_
      refine aldj hx hb hK hP (k := 1) (by decide) (x := (σ 1)) ((s2_nk _ _ _ (by omega)).trans ((s2_nk _ _ _ (by omega)).trans ((s2_nk _ _ _ (by omega)).trans (s2_nk _ _ _ (by omega))))) 0 (sm_tape _ _) rfl (vp_in_nI (by omega) (by decide)) (j := t) (nI_clamp (by omega)) dX9_go_230 ?_
      refine lv_istore (lv' := [(4, .int ((σ 1) t)), (3, .int (b2i g)), (2, .int (b2i (mLet (gC σ)))), (0, .ref (ad 0))]) hx hb dX9_go_231 hl (by decide) rfl (fun ls hl => ?_)
      refine lv_iload_n hx hb dX9_go_233 rfl (lv_at hl 1 rfl) ?_
      refine br_eq (tgt := 250) hx hb dX9_go_234 (by decide) (fun c1 => ?_) (fun c1 => ?_)
      · refine lv_iconst (v := 0) hx hb dX9_go_250 (by decide) ?_
        refine lv_istore_n (lv' := [(3, .int 0), (4, .int ((σ 1) t)), (2, .int (b2i (mLet (gC σ)))), (0, .ref (ad 0))]) hx hb dX9_go_251 rfl hl (by decide) rfl (fun ls hl => ?_)
        refine lv_aload_n hx hb dX9_go_252 rfl (lv_at hl 3 rfl) ?_
        refine fgetx hx hb ht inG9 hown hK hP (k := 0) (by decide) (x := (upd (upd (upd (upd (σ 0) 4 (nI (gT σ))) 5 (nI (gT σ))) 7 u) 4 (nI t))) ((s2_k _ _ _ _).trans (congrArg (fun f => upd f 4 (nI t)) ((s2_k _ _ _ _).trans (congrArg (fun f => upd f 7 u) ((s2_k _ _ _ _).trans (congrArg (fun f => upd f 5 (nI (gT σ))) (s2_k _ _ _ _))))))) (sm_obj _ _) rfl 4 (by decide) gw_943 (v := .int (nI t)) rfl dX9_go_253 ?_
        refine lv_aload_n hx hb dX9_go_256 rfl (lv_at hl 3 rfl) ?_
        refine fgetx hx hb ht inG9 hown hK hP (k := 0) (by decide) (x := (upd (upd (upd (upd (σ 0) 4 (nI (gT σ))) 5 (nI (gT σ))) 7 u) 4 (nI t))) ((s2_k _ _ _ _).trans (congrArg (fun f => upd f 4 (nI t)) ((s2_k _ _ _ _).trans (congrArg (fun f => upd f 7 u) ((s2_k _ _ _ _).trans (congrArg (fun f => upd f 5 (nI (gT σ))) (s2_k _ _ _ _))))))) (sm_obj _ _) rfl 5 (by decide) gw_944 (v := .int (nI (gT σ))) rfl dX9_go_257 ?_
        refine lv_isub hx hb dX9_go_260 ?_
        refine lv_bipush (v := 8) hx hb dX9_go_261 (by decide) ?_
        refine lv_icmp_ge (tgt := 286) hx hb dX9_go_263 (by decide) (fun c2 => ?_) (fun c2 => ?_)
        · have dc2 := c2
          rw [i_le] at dc2
          refine lv_aload_n hx hb dX9_go_286 rfl (lv_at hl 3 rfl) ?_
          refine fgetx hx hb ht inG9 hown hK hP (k := 0) (by decide) (x := (upd (upd (upd (upd (σ 0) 4 (nI (gT σ))) 5 (nI (gT σ))) 7 u) 4 (nI t))) ((s2_k _ _ _ _).trans (congrArg (fun f => upd f 4 (nI t)) ((s2_k _ _ _ _).trans (congrArg (fun f => upd f 7 u) ((s2_k _ _ _ _).trans (congrArg (fun f => upd f 5 (nI (gT σ))) (s2_k _ _ _ _))))))) (sm_obj _ _) rfl 4 (by decide) gw_943 (v := .int (nI t)) rfl dX9_go_287 ?_
          refine lv_aload_n hx hb dX9_go_290 rfl (lv_at hl 3 rfl) ?_
          refine fgetx hx hb ht inG9 hown hK hP (k := 0) (by decide) (x := (upd (upd (upd (upd (σ 0) 4 (nI (gT σ))) 5 (nI (gT σ))) 7 u) 4 (nI t))) ((s2_k _ _ _ _).trans (congrArg (fun f => upd f 4 (nI t)) ((s2_k _ _ _ _).trans (congrArg (fun f => upd f 7 u) ((s2_k _ _ _ _).trans (congrArg (fun f => upd f 5 (nI (gT σ))) (s2_k _ _ _ _))))))) (sm_obj _ _) rfl 5 (by decide) gw_944 (v := .int (nI (gT σ))) rfl dX9_go_291 ?_
          refine lv_isub hx hb dX9_go_294 ?_
          refine lv_iconst (v := 4) hx hb dX9_go_295 (by decide) ?_
          refine lv_icmp_ge (tgt := 316) hx hb dX9_go_296 (by decide) (fun c3 => ?_) (fun c3 => ?_)
          · have dc3 := c3
            rw [i_le] at dc3
            refine lv_aload_n hx hb dX9_go_316 rfl (lv_at hl 3 rfl) ?_
            refine lv_dup hx hb dX9_go_317 rfl ?_
            refine fgetx hx hb ht inG9 hown hK hP (k := 0) (by decide) (x := (upd (upd (upd (upd (σ 0) 4 (nI (gT σ))) 5 (nI (gT σ))) 7 u) 4 (nI t))) ((s2_k _ _ _ _).trans (congrArg (fun f => upd f 4 (nI t)) ((s2_k _ _ _ _).trans (congrArg (fun f => upd f 7 u) ((s2_k _ _ _ _).trans (congrArg (fun f => upd f 5 (nI (gT σ))) (s2_k _ _ _ _))))))) (sm_obj _ _) rfl 4 (by decide) gw_943 (v := .int (nI t)) rfl dX9_go_318 ?_
            refine lv_iconst (v := 1) hx hb dX9_go_321 (by decide) ?_
            refine lv_iadd hx hb dX9_go_322 ?_
            refine fputx (ref := "") (w := (nI t) + 1) hx hb ht inG9 tyX9 tyX9_ok nmX9 hown hK hP hI hS (k := 0) (by decide) (sm_obj _ _) rfl 4 (by decide) gw_943 rfl rfl rfl (Nat.le_of_ble_eq_true rfl) (sm_obj _ _) dX9_go_323 (fun H locs hP hS => ?_)
            refine lv_goto (tgt := 194) hx hb dX9_go_326 (by decide) ?_
            have hgg : tkG g (mLet (gC σ)) (σ 1 t) = false := by simp only [tkG, c1, ↓reduceIte, Bool.false_eq_true]
            rw [s2_s2, nI_1] at hP
            exact ih r' (t + 1) (by omega) (tkG g (mLet (gC σ)) (σ 1 t)) w u (by rw [tkL, if_pos hc9, if_pos c2, if_pos c3] at hR; exact hR) N h3 hN7 (by omega) hg1 hgx hgm _ _ hP hS ls (by rw [hgg]; exact lv_sub hl [0, 2, 3] rfl)
          · have dc3 := c3
            rw [i_le] at dc3
            refine lv_aload_n hx hb dX9_go_299 rfl (lv_at hl 3 rfl) ?_
            refine lv_bipush (v := 10) hx hb dX9_go_300 (by decide) ?_
            refine lv_aload_n hx hb dX9_go_302 rfl (lv_at hl 3 rfl) ?_
            refine fgetx hx hb ht inG9 hown hK hP (k := 0) (by decide) (x := (upd (upd (upd (upd (σ 0) 4 (nI (gT σ))) 5 (nI (gT σ))) 7 u) 4 (nI t))) ((s2_k _ _ _ _).trans (congrArg (fun f => upd f 4 (nI t)) ((s2_k _ _ _ _).trans (congrArg (fun f => upd f 7 u) ((s2_k _ _ _ _).trans (congrArg (fun f => upd f 5 (nI (gT σ))) (s2_k _ _ _ _))))))) (sm_obj _ _) rfl 7 (by decide) gw_946 (v := .int u) rfl dX9_go_303 ?_
            refine lv_imul hx hb dX9_go_306 ?_
            refine lv_iload hx hb dX9_go_307 (lv_at hl 1 rfl) ?_
            refine lv_iadd hx hb dX9_go_309 ?_
            refine lv_bipush (v := 48) hx hb dX9_go_310 (by decide) ?_
            refine lv_isub hx hb dX9_go_312 ?_
            refine fputx (ref := "") (w := ((10 * u) + ((σ 1) t)) - 48) hx hb ht inG9 tyX9 tyX9_ok nmX9 hown hK hP hI hS (k := 0) (by decide) (sm_obj _ _) rfl 7 (by decide) gw_946 rfl rfl rfl (Nat.le_of_ble_eq_true rfl) (sm_obj _ _) dX9_go_313 (fun H locs hP hS => ?_)
            refine lv_aload_n hx hb dX9_go_316 rfl (lv_at hl 3 rfl) ?_
            refine lv_dup hx hb dX9_go_317 rfl ?_
            refine fgetx hx hb ht inG9 hown hK hP (k := 0) (by decide) (x := (upd (upd (upd (upd (upd (σ 0) 4 (nI (gT σ))) 5 (nI (gT σ))) 7 u) 4 (nI t)) 7 (((10 * u) + ((σ 1) t)) - 48))) ((s2_k _ _ _ _).trans (congrArg (fun f => upd f 7 (((10 * u) + ((σ 1) t)) - 48)) ((s2_k _ _ _ _).trans (congrArg (fun f => upd f 4 (nI t)) ((s2_k _ _ _ _).trans (congrArg (fun f => upd f 7 u) ((s2_k _ _ _ _).trans (congrArg (fun f => upd f 5 (nI (gT σ))) (s2_k _ _ _ _))))))))) (sm_obj _ _) rfl 4 (by decide) gw_943 (v := .int (nI t)) rfl dX9_go_318 ?_
            refine lv_iconst (v := 1) hx hb dX9_go_321 (by decide) ?_
            refine lv_iadd hx hb dX9_go_322 ?_
            refine fputx (ref := "") (w := (nI t) + 1) hx hb ht inG9 tyX9 tyX9_ok nmX9 hown hK hP hI hS (k := 0) (by decide) (sm_obj _ _) rfl 4 (by decide) gw_943 rfl rfl rfl (Nat.le_of_ble_eq_true rfl) (sm_obj _ _) dX9_go_323 (fun H locs hP hS => ?_)
            refine lv_goto (tgt := 194) hx hb dX9_go_326 (by decide) ?_
            have hgg : tkG g (mLet (gC σ)) (σ 1 t) = false := by simp only [tkG, c1, ↓reduceIte, Bool.false_eq_true]
            rw [gw74, nI_1] at hP
            exact ih r' (t + 1) (by omega) (tkG g (mLet (gC σ)) (σ 1 t)) w (10 * u + σ 1 t - 48) (by rw [tkL, if_pos hc9, if_pos c2, if_neg c3] at hR; exact hR) N h3 hN7 (by omega) hg1 hgx hgm _ _ hP hS ls (by rw [hgg]; exact lv_sub hl [0, 2, 3] rfl)
        · have dc2 := c2
          rw [i_le] at dc2
          refine lv_aload_n hx hb dX9_go_266 rfl (lv_at hl 3 rfl) ?_
          refine lv_ldc2 hx hb hown (ht _ gw_1010) dX9_go_267 ?_
          refine lv_aload_n hx hb dX9_go_270 rfl (lv_at hl 3 rfl) ?_
          refine fgetx hx hb ht inG9 hown hK hP (k := 0) (by decide) (x := (upd (upd (upd (upd (σ 0) 4 (nI (gT σ))) 5 (nI (gT σ))) 7 u) 4 (nI t))) ((s2_k _ _ _ _).trans (congrArg (fun f => upd f 4 (nI t)) ((s2_k _ _ _ _).trans (congrArg (fun f => upd f 7 u) ((s2_k _ _ _ _).trans (congrArg (fun f => upd f 5 (nI (gT σ))) (s2_k _ _ _ _))))))) (sm_obj _ _) rfl 11 (by decide) gw_950 (v := .long ((s2L τ 0 11 w) 0 11)) rfl dX9_go_271 ?_
          refine lv_lmul hx hb dX9_go_274 ?_
          refine lv_iload hx hb dX9_go_275 (lv_at hl 1 rfl) ?_
          refine lv_i2l (v := ((σ 1) t).toInt64) hx hb dX9_go_277 rfl ?_
          refine lv_ladd hx hb dX9_go_278 ?_
          refine lv_ldc2 hx hb hown (ht _ gw_1011) dX9_go_279 ?_
          refine lv_lsub hx hb dX9_go_282 ?_
          refine fputy (ref := "") (w := ((27 * ((s2L τ 0 11 w) 0 11)) + (((σ 1) t).toInt64)) - 96) hx hb ht inG9 tyX9 tyX9_ok nmX9 hown hK hP hI hS (k := 0) (by decide) (sm_obj _ _) rfl 11 (by decide) gw_950 rfl rfl rfl (Nat.le_of_ble_eq_true rfl) (sm_obj _ _) dX9_go_283 (fun H locs hP hS => ?_)
          refine lv_aload_n hx hb dX9_go_286 rfl (lv_at hl 3 rfl) ?_
          refine fgetx hx hb ht inG9 hown hK hP (k := 0) (by decide) (x := (upd (upd (upd (upd (σ 0) 4 (nI (gT σ))) 5 (nI (gT σ))) 7 u) 4 (nI t))) ((s2_k _ _ _ _).trans (congrArg (fun f => upd f 4 (nI t)) ((s2_k _ _ _ _).trans (congrArg (fun f => upd f 7 u) ((s2_k _ _ _ _).trans (congrArg (fun f => upd f 5 (nI (gT σ))) (s2_k _ _ _ _))))))) (sm_obj _ _) rfl 4 (by decide) gw_943 (v := .int (nI t)) rfl dX9_go_287 ?_
          refine lv_aload_n hx hb dX9_go_290 rfl (lv_at hl 3 rfl) ?_
          refine fgetx hx hb ht inG9 hown hK hP (k := 0) (by decide) (x := (upd (upd (upd (upd (σ 0) 4 (nI (gT σ))) 5 (nI (gT σ))) 7 u) 4 (nI t))) ((s2_k _ _ _ _).trans (congrArg (fun f => upd f 4 (nI t)) ((s2_k _ _ _ _).trans (congrArg (fun f => upd f 7 u) ((s2_k _ _ _ _).trans (congrArg (fun f => upd f 5 (nI (gT σ))) (s2_k _ _ _ _))))))) (sm_obj _ _) rfl 5 (by decide) gw_944 (v := .int (nI (gT σ))) rfl dX9_go_291 ?_
          refine lv_isub hx hb dX9_go_294 ?_
          refine lv_iconst (v := 4) hx hb dX9_go_295 (by decide) ?_
          refine lv_icmp_ge (tgt := 316) hx hb dX9_go_296 (by decide) (fun c4 => ?_) (fun c4 => ?_)
          · have dc4 := c4
            rw [i_le] at dc4
            refine lv_aload_n hx hb dX9_go_316 rfl (lv_at hl 3 rfl) ?_
            refine lv_dup hx hb dX9_go_317 rfl ?_
            refine fgetx hx hb ht inG9 hown hK hP (k := 0) (by decide) (x := (upd (upd (upd (upd (σ 0) 4 (nI (gT σ))) 5 (nI (gT σ))) 7 u) 4 (nI t))) ((s2_k _ _ _ _).trans (congrArg (fun f => upd f 4 (nI t)) ((s2_k _ _ _ _).trans (congrArg (fun f => upd f 7 u) ((s2_k _ _ _ _).trans (congrArg (fun f => upd f 5 (nI (gT σ))) (s2_k _ _ _ _))))))) (sm_obj _ _) rfl 4 (by decide) gw_943 (v := .int (nI t)) rfl dX9_go_318 ?_
            refine lv_iconst (v := 1) hx hb dX9_go_321 (by decide) ?_
            refine lv_iadd hx hb dX9_go_322 ?_
            refine fputx (ref := "") (w := (nI t) + 1) hx hb ht inG9 tyX9 tyX9_ok nmX9 hown hK hP hI hS (k := 0) (by decide) (sm_obj _ _) rfl 4 (by decide) gw_943 rfl rfl rfl (Nat.le_of_ble_eq_true rfl) (sm_obj _ _) dX9_go_323 (fun H locs hP hS => ?_)
            refine lv_goto (tgt := 194) hx hb dX9_go_326 (by decide) ?_
            have hgg : tkG g (mLet (gC σ)) (σ 1 t) = false := by simp only [tkG, c1, ↓reduceIte, Bool.false_eq_true]
            rw [s2_s2, s2L_s2L, nI_1] at hP
            exact ih r' (t + 1) (by omega) (tkG g (mLet (gC σ)) (σ 1 t)) (27 * w + (σ 1 t).toInt64 - 96) u (by rw [tkL, if_pos hc9, if_neg c2, if_pos c4] at hR; exact hR) N h3 hN7 (by omega) hg1 hgx hgm _ _ hP hS ls (by rw [hgg]; exact lv_sub hl [0, 2, 3] rfl)
          · have dc4 := c4
            rw [i_le] at dc4
            refine lv_aload_n hx hb dX9_go_299 rfl (lv_at hl 3 rfl) ?_
            refine lv_bipush (v := 10) hx hb dX9_go_300 (by decide) ?_
            refine lv_aload_n hx hb dX9_go_302 rfl (lv_at hl 3 rfl) ?_
            refine fgetx hx hb ht inG9 hown hK hP (k := 0) (by decide) (x := (upd (upd (upd (upd (σ 0) 4 (nI (gT σ))) 5 (nI (gT σ))) 7 u) 4 (nI t))) ((s2_k _ _ _ _).trans (congrArg (fun f => upd f 4 (nI t)) ((s2_k _ _ _ _).trans (congrArg (fun f => upd f 7 u) ((s2_k _ _ _ _).trans (congrArg (fun f => upd f 5 (nI (gT σ))) (s2_k _ _ _ _))))))) (sm_obj _ _) rfl 7 (by decide) gw_946 (v := .int u) rfl dX9_go_303 ?_
            refine lv_imul hx hb dX9_go_306 ?_
            refine lv_iload hx hb dX9_go_307 (lv_at hl 1 rfl) ?_
            refine lv_iadd hx hb dX9_go_309 ?_
            refine lv_bipush (v := 48) hx hb dX9_go_310 (by decide) ?_
            refine lv_isub hx hb dX9_go_312 ?_
            refine fputx (ref := "") (w := ((10 * u) + ((σ 1) t)) - 48) hx hb ht inG9 tyX9 tyX9_ok nmX9 hown hK hP hI hS (k := 0) (by decide) (sm_obj _ _) rfl 7 (by decide) gw_946 rfl rfl rfl (Nat.le_of_ble_eq_true rfl) (sm_obj _ _) dX9_go_313 (fun H locs hP hS => ?_)
            refine lv_aload_n hx hb dX9_go_316 rfl (lv_at hl 3 rfl) ?_
            refine lv_dup hx hb dX9_go_317 rfl ?_
            refine fgetx hx hb ht inG9 hown hK hP (k := 0) (by decide) (x := (upd (upd (upd (upd (upd (σ 0) 4 (nI (gT σ))) 5 (nI (gT σ))) 7 u) 4 (nI t)) 7 (((10 * u) + ((σ 1) t)) - 48))) ((s2_k _ _ _ _).trans (congrArg (fun f => upd f 7 (((10 * u) + ((σ 1) t)) - 48)) ((s2_k _ _ _ _).trans (congrArg (fun f => upd f 4 (nI t)) ((s2_k _ _ _ _).trans (congrArg (fun f => upd f 7 u) ((s2_k _ _ _ _).trans (congrArg (fun f => upd f 5 (nI (gT σ))) (s2_k _ _ _ _))))))))) (sm_obj _ _) rfl 4 (by decide) gw_943 (v := .int (nI t)) rfl dX9_go_318 ?_
            refine lv_iconst (v := 1) hx hb dX9_go_321 (by decide) ?_
            refine lv_iadd hx hb dX9_go_322 ?_
            refine fputx (ref := "") (w := (nI t) + 1) hx hb ht inG9 tyX9 tyX9_ok nmX9 hown hK hP hI hS (k := 0) (by decide) (sm_obj _ _) rfl 4 (by decide) gw_943 rfl rfl rfl (Nat.le_of_ble_eq_true rfl) (sm_obj _ _) dX9_go_323 (fun H locs hP hS => ?_)
            refine lv_goto (tgt := 194) hx hb dX9_go_326 (by decide) ?_
            have hgg : tkG g (mLet (gC σ)) (σ 1 t) = false := by simp only [tkG, c1, ↓reduceIte, Bool.false_eq_true]
            rw [gw74, s2L_s2L, nI_1] at hP
            exact ih r' (t + 1) (by omega) (tkG g (mLet (gC σ)) (σ 1 t)) (27 * w + (σ 1 t).toInt64 - 96) (10 * u + σ 1 t - 48) (by rw [tkL, if_pos hc9, if_neg c2, if_neg c4] at hR; exact hR) N h3 hN7 (by omega) hg1 hgx hgm _ _ hP hS ls (by rw [hgg]; exact lv_sub hl [0, 2, 3] rfl)
      · refine lv_iload hx hb dX9_go_237 (lv_at hl 0 rfl) ?_
        refine calls (y := yX9_isLetter) ⟨hx, hb, hml, hown, ht⟩ hK hN hP hS (c_X9_isLetter l D ca ad hI (s2 (s2 (s2 (s2 σ 0 4 (nI (gT σ))) 0 5 (nI (gT σ))) 0 7 u) 0 4 (nI t)) (s2L τ 0 11 w) ((σ 1) t)) ok_X9_isLetter gw_1000 ⟨by decide, by decide⟩ rfl hl.1 rfl (Nat.le_of_ble_eq_true rfl) ⟨by decide, by decide⟩ dX9_go_239 (fun v_ S_ T_ H locs hp5 hP hS => ?_)
        obtain ⟨rfl, rfl, rfl⟩ := hp5
        try dsimp only [Option.toList, List.cons_append, List.nil_append]
        refine lv_iload_n hx hb dX9_go_242 rfl (lv_at hl 2 rfl) ?_
        refine lv_icmp_ne (tgt := 250) hx hb dX9_go_243 (by decide) (fun c6 => ?_) (fun c6 => ?_)
        · have dc6 := c6
          rw [i_eq] at dc6
          refine lv_iconst (v := 0) hx hb dX9_go_250 (by decide) ?_
          refine lv_istore_n (lv' := [(3, .int 0), (4, .int ((σ 1) t)), (2, .int (b2i (mLet (gC σ)))), (0, .ref (ad 0))]) hx hb dX9_go_251 rfl hl (by decide) rfl (fun ls hl => ?_)
          refine lv_aload_n hx hb dX9_go_252 rfl (lv_at hl 3 rfl) ?_
          refine fgetx hx hb ht inG9 hown hK hP (k := 0) (by decide) (x := (upd (upd (upd (upd (σ 0) 4 (nI (gT σ))) 5 (nI (gT σ))) 7 u) 4 (nI t))) ((s2_k _ _ _ _).trans (congrArg (fun f => upd f 4 (nI t)) ((s2_k _ _ _ _).trans (congrArg (fun f => upd f 7 u) ((s2_k _ _ _ _).trans (congrArg (fun f => upd f 5 (nI (gT σ))) (s2_k _ _ _ _))))))) (sm_obj _ _) rfl 4 (by decide) gw_943 (v := .int (nI t)) rfl dX9_go_253 ?_
          refine lv_aload_n hx hb dX9_go_256 rfl (lv_at hl 3 rfl) ?_
          refine fgetx hx hb ht inG9 hown hK hP (k := 0) (by decide) (x := (upd (upd (upd (upd (σ 0) 4 (nI (gT σ))) 5 (nI (gT σ))) 7 u) 4 (nI t))) ((s2_k _ _ _ _).trans (congrArg (fun f => upd f 4 (nI t)) ((s2_k _ _ _ _).trans (congrArg (fun f => upd f 7 u) ((s2_k _ _ _ _).trans (congrArg (fun f => upd f 5 (nI (gT σ))) (s2_k _ _ _ _))))))) (sm_obj _ _) rfl 5 (by decide) gw_944 (v := .int (nI (gT σ))) rfl dX9_go_257 ?_
          refine lv_isub hx hb dX9_go_260 ?_
          refine lv_bipush (v := 8) hx hb dX9_go_261 (by decide) ?_
          refine lv_icmp_ge (tgt := 286) hx hb dX9_go_263 (by decide) (fun c7 => ?_) (fun c7 => ?_)
          · have dc7 := c7
            rw [i_le] at dc7
            refine lv_aload_n hx hb dX9_go_286 rfl (lv_at hl 3 rfl) ?_
            refine fgetx hx hb ht inG9 hown hK hP (k := 0) (by decide) (x := (upd (upd (upd (upd (σ 0) 4 (nI (gT σ))) 5 (nI (gT σ))) 7 u) 4 (nI t))) ((s2_k _ _ _ _).trans (congrArg (fun f => upd f 4 (nI t)) ((s2_k _ _ _ _).trans (congrArg (fun f => upd f 7 u) ((s2_k _ _ _ _).trans (congrArg (fun f => upd f 5 (nI (gT σ))) (s2_k _ _ _ _))))))) (sm_obj _ _) rfl 4 (by decide) gw_943 (v := .int (nI t)) rfl dX9_go_287 ?_
            refine lv_aload_n hx hb dX9_go_290 rfl (lv_at hl 3 rfl) ?_
            refine fgetx hx hb ht inG9 hown hK hP (k := 0) (by decide) (x := (upd (upd (upd (upd (σ 0) 4 (nI (gT σ))) 5 (nI (gT σ))) 7 u) 4 (nI t))) ((s2_k _ _ _ _).trans (congrArg (fun f => upd f 4 (nI t)) ((s2_k _ _ _ _).trans (congrArg (fun f => upd f 7 u) ((s2_k _ _ _ _).trans (congrArg (fun f => upd f 5 (nI (gT σ))) (s2_k _ _ _ _))))))) (sm_obj _ _) rfl 5 (by decide) gw_944 (v := .int (nI (gT σ))) rfl dX9_go_291 ?_
            refine lv_isub hx hb dX9_go_294 ?_
            refine lv_iconst (v := 4) hx hb dX9_go_295 (by decide) ?_
            refine lv_icmp_ge (tgt := 316) hx hb dX9_go_296 (by decide) (fun c8 => ?_) (fun c8 => ?_)
            · have dc8 := c8
              rw [i_le] at dc8
              refine lv_aload_n hx hb dX9_go_316 rfl (lv_at hl 3 rfl) ?_
              refine lv_dup hx hb dX9_go_317 rfl ?_
              refine fgetx hx hb ht inG9 hown hK hP (k := 0) (by decide) (x := (upd (upd (upd (upd (σ 0) 4 (nI (gT σ))) 5 (nI (gT σ))) 7 u) 4 (nI t))) ((s2_k _ _ _ _).trans (congrArg (fun f => upd f 4 (nI t)) ((s2_k _ _ _ _).trans (congrArg (fun f => upd f 7 u) ((s2_k _ _ _ _).trans (congrArg (fun f => upd f 5 (nI (gT σ))) (s2_k _ _ _ _))))))) (sm_obj _ _) rfl 4 (by decide) gw_943 (v := .int (nI t)) rfl dX9_go_318 ?_
              refine lv_iconst (v := 1) hx hb dX9_go_321 (by decide) ?_
              refine lv_iadd hx hb dX9_go_322 ?_
              refine fputx (ref := "") (w := (nI t) + 1) hx hb ht inG9 tyX9 tyX9_ok nmX9 hown hK hP hI hS (k := 0) (by decide) (sm_obj _ _) rfl 4 (by decide) gw_943 rfl rfl rfl (Nat.le_of_ble_eq_true rfl) (sm_obj _ _) dX9_go_323 (fun H locs hP hS => ?_)
              refine lv_goto (tgt := 194) hx hb dX9_go_326 (by decide) ?_
              have hgg : tkG g (mLet (gC σ)) (σ 1 t) = false := by simp only [tkG, c1, c6, ↓reduceIte, Bool.false_eq_true]
              rw [s2_s2, nI_1] at hP
              exact ih r' (t + 1) (by omega) (tkG g (mLet (gC σ)) (σ 1 t)) w u (by rw [tkL, if_pos hc9, if_pos c7, if_pos c8] at hR; exact hR) N h3 hN7 (by omega) hg1 hgx hgm _ _ hP hS ls (by rw [hgg]; exact lv_sub hl [0, 2, 3] rfl)
            · have dc8 := c8
              rw [i_le] at dc8
              refine lv_aload_n hx hb dX9_go_299 rfl (lv_at hl 3 rfl) ?_
              refine lv_bipush (v := 10) hx hb dX9_go_300 (by decide) ?_
              refine lv_aload_n hx hb dX9_go_302 rfl (lv_at hl 3 rfl) ?_
              refine fgetx hx hb ht inG9 hown hK hP (k := 0) (by decide) (x := (upd (upd (upd (upd (σ 0) 4 (nI (gT σ))) 5 (nI (gT σ))) 7 u) 4 (nI t))) ((s2_k _ _ _ _).trans (congrArg (fun f => upd f 4 (nI t)) ((s2_k _ _ _ _).trans (congrArg (fun f => upd f 7 u) ((s2_k _ _ _ _).trans (congrArg (fun f => upd f 5 (nI (gT σ))) (s2_k _ _ _ _))))))) (sm_obj _ _) rfl 7 (by decide) gw_946 (v := .int u) rfl dX9_go_303 ?_
              refine lv_imul hx hb dX9_go_306 ?_
              refine lv_iload hx hb dX9_go_307 (lv_at hl 1 rfl) ?_
              refine lv_iadd hx hb dX9_go_309 ?_
              refine lv_bipush (v := 48) hx hb dX9_go_310 (by decide) ?_
              refine lv_isub hx hb dX9_go_312 ?_
              refine fputx (ref := "") (w := ((10 * u) + ((σ 1) t)) - 48) hx hb ht inG9 tyX9 tyX9_ok nmX9 hown hK hP hI hS (k := 0) (by decide) (sm_obj _ _) rfl 7 (by decide) gw_946 rfl rfl rfl (Nat.le_of_ble_eq_true rfl) (sm_obj _ _) dX9_go_313 (fun H locs hP hS => ?_)
              refine lv_aload_n hx hb dX9_go_316 rfl (lv_at hl 3 rfl) ?_
              refine lv_dup hx hb dX9_go_317 rfl ?_
              refine fgetx hx hb ht inG9 hown hK hP (k := 0) (by decide) (x := (upd (upd (upd (upd (upd (σ 0) 4 (nI (gT σ))) 5 (nI (gT σ))) 7 u) 4 (nI t)) 7 (((10 * u) + ((σ 1) t)) - 48))) ((s2_k _ _ _ _).trans (congrArg (fun f => upd f 7 (((10 * u) + ((σ 1) t)) - 48)) ((s2_k _ _ _ _).trans (congrArg (fun f => upd f 4 (nI t)) ((s2_k _ _ _ _).trans (congrArg (fun f => upd f 7 u) ((s2_k _ _ _ _).trans (congrArg (fun f => upd f 5 (nI (gT σ))) (s2_k _ _ _ _))))))))) (sm_obj _ _) rfl 4 (by decide) gw_943 (v := .int (nI t)) rfl dX9_go_318 ?_
              refine lv_iconst (v := 1) hx hb dX9_go_321 (by decide) ?_
              refine lv_iadd hx hb dX9_go_322 ?_
              refine fputx (ref := "") (w := (nI t) + 1) hx hb ht inG9 tyX9 tyX9_ok nmX9 hown hK hP hI hS (k := 0) (by decide) (sm_obj _ _) rfl 4 (by decide) gw_943 rfl rfl rfl (Nat.le_of_ble_eq_true rfl) (sm_obj _ _) dX9_go_323 (fun H locs hP hS => ?_)
              refine lv_goto (tgt := 194) hx hb dX9_go_326 (by decide) ?_
              have hgg : tkG g (mLet (gC σ)) (σ 1 t) = false := by simp only [tkG, c1, c6, ↓reduceIte, Bool.false_eq_true]
              rw [gw74, nI_1] at hP
              exact ih r' (t + 1) (by omega) (tkG g (mLet (gC σ)) (σ 1 t)) w (10 * u + σ 1 t - 48) (by rw [tkL, if_pos hc9, if_pos c7, if_neg c8] at hR; exact hR) N h3 hN7 (by omega) hg1 hgx hgm _ _ hP hS ls (by rw [hgg]; exact lv_sub hl [0, 2, 3] rfl)
          · have dc7 := c7
            rw [i_le] at dc7
            refine lv_aload_n hx hb dX9_go_266 rfl (lv_at hl 3 rfl) ?_
            refine lv_ldc2 hx hb hown (ht _ gw_1010) dX9_go_267 ?_
            refine lv_aload_n hx hb dX9_go_270 rfl (lv_at hl 3 rfl) ?_
            refine fgetx hx hb ht inG9 hown hK hP (k := 0) (by decide) (x := (upd (upd (upd (upd (σ 0) 4 (nI (gT σ))) 5 (nI (gT σ))) 7 u) 4 (nI t))) ((s2_k _ _ _ _).trans (congrArg (fun f => upd f 4 (nI t)) ((s2_k _ _ _ _).trans (congrArg (fun f => upd f 7 u) ((s2_k _ _ _ _).trans (congrArg (fun f => upd f 5 (nI (gT σ))) (s2_k _ _ _ _))))))) (sm_obj _ _) rfl 11 (by decide) gw_950 (v := .long ((s2L τ 0 11 w) 0 11)) rfl dX9_go_271 ?_
            refine lv_lmul hx hb dX9_go_274 ?_
            refine lv_iload hx hb dX9_go_275 (lv_at hl 1 rfl) ?_
            refine lv_i2l (v := ((σ 1) t).toInt64) hx hb dX9_go_277 rfl ?_
            refine lv_ladd hx hb dX9_go_278 ?_
            refine lv_ldc2 hx hb hown (ht _ gw_1011) dX9_go_279 ?_
            refine lv_lsub hx hb dX9_go_282 ?_
            refine fputy (ref := "") (w := ((27 * ((s2L τ 0 11 w) 0 11)) + (((σ 1) t).toInt64)) - 96) hx hb ht inG9 tyX9 tyX9_ok nmX9 hown hK hP hI hS (k := 0) (by decide) (sm_obj _ _) rfl 11 (by decide) gw_950 rfl rfl rfl (Nat.le_of_ble_eq_true rfl) (sm_obj _ _) dX9_go_283 (fun H locs hP hS => ?_)
            refine lv_aload_n hx hb dX9_go_286 rfl (lv_at hl 3 rfl) ?_
            refine fgetx hx hb ht inG9 hown hK hP (k := 0) (by decide) (x := (upd (upd (upd (upd (σ 0) 4 (nI (gT σ))) 5 (nI (gT σ))) 7 u) 4 (nI t))) ((s2_k _ _ _ _).trans (congrArg (fun f => upd f 4 (nI t)) ((s2_k _ _ _ _).trans (congrArg (fun f => upd f 7 u) ((s2_k _ _ _ _).trans (congrArg (fun f => upd f 5 (nI (gT σ))) (s2_k _ _ _ _))))))) (sm_obj _ _) rfl 4 (by decide) gw_943 (v := .int (nI t)) rfl dX9_go_287 ?_
            refine lv_aload_n hx hb dX9_go_290 rfl (lv_at hl 3 rfl) ?_
            refine fgetx hx hb ht inG9 hown hK hP (k := 0) (by decide) (x := (upd (upd (upd (upd (σ 0) 4 (nI (gT σ))) 5 (nI (gT σ))) 7 u) 4 (nI t))) ((s2_k _ _ _ _).trans (congrArg (fun f => upd f 4 (nI t)) ((s2_k _ _ _ _).trans (congrArg (fun f => upd f 7 u) ((s2_k _ _ _ _).trans (congrArg (fun f => upd f 5 (nI (gT σ))) (s2_k _ _ _ _))))))) (sm_obj _ _) rfl 5 (by decide) gw_944 (v := .int (nI (gT σ))) rfl dX9_go_291 ?_
            refine lv_isub hx hb dX9_go_294 ?_
            refine lv_iconst (v := 4) hx hb dX9_go_295 (by decide) ?_
            refine lv_icmp_ge (tgt := 316) hx hb dX9_go_296 (by decide) (fun c9 => ?_) (fun c9 => ?_)
            · have dc9 := c9
              rw [i_le] at dc9
              refine lv_aload_n hx hb dX9_go_316 rfl (lv_at hl 3 rfl) ?_
              refine lv_dup hx hb dX9_go_317 rfl ?_
              refine fgetx hx hb ht inG9 hown hK hP (k := 0) (by decide) (x := (upd (upd (upd (upd (σ 0) 4 (nI (gT σ))) 5 (nI (gT σ))) 7 u) 4 (nI t))) ((s2_k _ _ _ _).trans (congrArg (fun f => upd f 4 (nI t)) ((s2_k _ _ _ _).trans (congrArg (fun f => upd f 7 u) ((s2_k _ _ _ _).trans (congrArg (fun f => upd f 5 (nI (gT σ))) (s2_k _ _ _ _))))))) (sm_obj _ _) rfl 4 (by decide) gw_943 (v := .int (nI t)) rfl dX9_go_318 ?_
              refine lv_iconst (v := 1) hx hb dX9_go_321 (by decide) ?_
              refine lv_iadd hx hb dX9_go_322 ?_
              refine fputx (ref := "") (w := (nI t) + 1) hx hb ht inG9 tyX9 tyX9_ok nmX9 hown hK hP hI hS (k := 0) (by decide) (sm_obj _ _) rfl 4 (by decide) gw_943 rfl rfl rfl (Nat.le_of_ble_eq_true rfl) (sm_obj _ _) dX9_go_323 (fun H locs hP hS => ?_)
              refine lv_goto (tgt := 194) hx hb dX9_go_326 (by decide) ?_
              have hgg : tkG g (mLet (gC σ)) (σ 1 t) = false := by simp only [tkG, c1, c6, ↓reduceIte, Bool.false_eq_true]
              rw [s2_s2, s2L_s2L, nI_1] at hP
              exact ih r' (t + 1) (by omega) (tkG g (mLet (gC σ)) (σ 1 t)) (27 * w + (σ 1 t).toInt64 - 96) u (by rw [tkL, if_pos hc9, if_neg c7, if_pos c9] at hR; exact hR) N h3 hN7 (by omega) hg1 hgx hgm _ _ hP hS ls (by rw [hgg]; exact lv_sub hl [0, 2, 3] rfl)
            · have dc9 := c9
              rw [i_le] at dc9
              refine lv_aload_n hx hb dX9_go_299 rfl (lv_at hl 3 rfl) ?_
              refine lv_bipush (v := 10) hx hb dX9_go_300 (by decide) ?_
              refine lv_aload_n hx hb dX9_go_302 rfl (lv_at hl 3 rfl) ?_
              refine fgetx hx hb ht inG9 hown hK hP (k := 0) (by decide) (x := (upd (upd (upd (upd (σ 0) 4 (nI (gT σ))) 5 (nI (gT σ))) 7 u) 4 (nI t))) ((s2_k _ _ _ _).trans (congrArg (fun f => upd f 4 (nI t)) ((s2_k _ _ _ _).trans (congrArg (fun f => upd f 7 u) ((s2_k _ _ _ _).trans (congrArg (fun f => upd f 5 (nI (gT σ))) (s2_k _ _ _ _))))))) (sm_obj _ _) rfl 7 (by decide) gw_946 (v := .int u) rfl dX9_go_303 ?_
              refine lv_imul hx hb dX9_go_306 ?_
              refine lv_iload hx hb dX9_go_307 (lv_at hl 1 rfl) ?_
              refine lv_iadd hx hb dX9_go_309 ?_
              refine lv_bipush (v := 48) hx hb dX9_go_310 (by decide) ?_
              refine lv_isub hx hb dX9_go_312 ?_
              refine fputx (ref := "") (w := ((10 * u) + ((σ 1) t)) - 48) hx hb ht inG9 tyX9 tyX9_ok nmX9 hown hK hP hI hS (k := 0) (by decide) (sm_obj _ _) rfl 7 (by decide) gw_946 rfl rfl rfl (Nat.le_of_ble_eq_true rfl) (sm_obj _ _) dX9_go_313 (fun H locs hP hS => ?_)
              refine lv_aload_n hx hb dX9_go_316 rfl (lv_at hl 3 rfl) ?_
              refine lv_dup hx hb dX9_go_317 rfl ?_
              refine fgetx hx hb ht inG9 hown hK hP (k := 0) (by decide) (x := (upd (upd (upd (upd (upd (σ 0) 4 (nI (gT σ))) 5 (nI (gT σ))) 7 u) 4 (nI t)) 7 (((10 * u) + ((σ 1) t)) - 48))) ((s2_k _ _ _ _).trans (congrArg (fun f => upd f 7 (((10 * u) + ((σ 1) t)) - 48)) ((s2_k _ _ _ _).trans (congrArg (fun f => upd f 4 (nI t)) ((s2_k _ _ _ _).trans (congrArg (fun f => upd f 7 u) ((s2_k _ _ _ _).trans (congrArg (fun f => upd f 5 (nI (gT σ))) (s2_k _ _ _ _))))))))) (sm_obj _ _) rfl 4 (by decide) gw_943 (v := .int (nI t)) rfl dX9_go_318 ?_
              refine lv_iconst (v := 1) hx hb dX9_go_321 (by decide) ?_
              refine lv_iadd hx hb dX9_go_322 ?_
              refine fputx (ref := "") (w := (nI t) + 1) hx hb ht inG9 tyX9 tyX9_ok nmX9 hown hK hP hI hS (k := 0) (by decide) (sm_obj _ _) rfl 4 (by decide) gw_943 rfl rfl rfl (Nat.le_of_ble_eq_true rfl) (sm_obj _ _) dX9_go_323 (fun H locs hP hS => ?_)
              refine lv_goto (tgt := 194) hx hb dX9_go_326 (by decide) ?_
              have hgg : tkG g (mLet (gC σ)) (σ 1 t) = false := by simp only [tkG, c1, c6, ↓reduceIte, Bool.false_eq_true]
              rw [gw74, s2L_s2L, nI_1] at hP
              exact ih r' (t + 1) (by omega) (tkG g (mLet (gC σ)) (σ 1 t)) (27 * w + (σ 1 t).toInt64 - 96) (10 * u + σ 1 t - 48) (by rw [tkL, if_pos hc9, if_neg c7, if_neg c9] at hR; exact hR) N h3 hN7 (by omega) hg1 hgx hgm _ _ hP hS ls (by rw [hgg]; exact lv_sub hl [0, 2, 3] rfl)
        · have dc6 := c6
          rw [i_eq] at dc6
          refine lv_iconst (v := 1) hx hb dX9_go_246 (by decide) ?_
          refine lv_goto (tgt := 251) hx hb dX9_go_247 (by decide) ?_
          refine lv_istore_n (lv' := [(3, .int 1), (4, .int ((σ 1) t)), (2, .int (b2i (mLet (gC σ)))), (0, .ref (ad 0))]) hx hb dX9_go_251 rfl hl (by decide) rfl (fun ls hl => ?_)
          refine lv_aload_n hx hb dX9_go_252 rfl (lv_at hl 3 rfl) ?_
          refine fgetx hx hb ht inG9 hown hK hP (k := 0) (by decide) (x := (upd (upd (upd (upd (σ 0) 4 (nI (gT σ))) 5 (nI (gT σ))) 7 u) 4 (nI t))) ((s2_k _ _ _ _).trans (congrArg (fun f => upd f 4 (nI t)) ((s2_k _ _ _ _).trans (congrArg (fun f => upd f 7 u) ((s2_k _ _ _ _).trans (congrArg (fun f => upd f 5 (nI (gT σ))) (s2_k _ _ _ _))))))) (sm_obj _ _) rfl 4 (by decide) gw_943 (v := .int (nI t)) rfl dX9_go_253 ?_
          refine lv_aload_n hx hb dX9_go_256 rfl (lv_at hl 3 rfl) ?_
          refine fgetx hx hb ht inG9 hown hK hP (k := 0) (by decide) (x := (upd (upd (upd (upd (σ 0) 4 (nI (gT σ))) 5 (nI (gT σ))) 7 u) 4 (nI t))) ((s2_k _ _ _ _).trans (congrArg (fun f => upd f 4 (nI t)) ((s2_k _ _ _ _).trans (congrArg (fun f => upd f 7 u) ((s2_k _ _ _ _).trans (congrArg (fun f => upd f 5 (nI (gT σ))) (s2_k _ _ _ _))))))) (sm_obj _ _) rfl 5 (by decide) gw_944 (v := .int (nI (gT σ))) rfl dX9_go_257 ?_
          refine lv_isub hx hb dX9_go_260 ?_
          refine lv_bipush (v := 8) hx hb dX9_go_261 (by decide) ?_
          refine lv_icmp_ge (tgt := 286) hx hb dX9_go_263 (by decide) (fun c10 => ?_) (fun c10 => ?_)
          · have dc10 := c10
            rw [i_le] at dc10
            refine lv_aload_n hx hb dX9_go_286 rfl (lv_at hl 3 rfl) ?_
            refine fgetx hx hb ht inG9 hown hK hP (k := 0) (by decide) (x := (upd (upd (upd (upd (σ 0) 4 (nI (gT σ))) 5 (nI (gT σ))) 7 u) 4 (nI t))) ((s2_k _ _ _ _).trans (congrArg (fun f => upd f 4 (nI t)) ((s2_k _ _ _ _).trans (congrArg (fun f => upd f 7 u) ((s2_k _ _ _ _).trans (congrArg (fun f => upd f 5 (nI (gT σ))) (s2_k _ _ _ _))))))) (sm_obj _ _) rfl 4 (by decide) gw_943 (v := .int (nI t)) rfl dX9_go_287 ?_
            refine lv_aload_n hx hb dX9_go_290 rfl (lv_at hl 3 rfl) ?_
            refine fgetx hx hb ht inG9 hown hK hP (k := 0) (by decide) (x := (upd (upd (upd (upd (σ 0) 4 (nI (gT σ))) 5 (nI (gT σ))) 7 u) 4 (nI t))) ((s2_k _ _ _ _).trans (congrArg (fun f => upd f 4 (nI t)) ((s2_k _ _ _ _).trans (congrArg (fun f => upd f 7 u) ((s2_k _ _ _ _).trans (congrArg (fun f => upd f 5 (nI (gT σ))) (s2_k _ _ _ _))))))) (sm_obj _ _) rfl 5 (by decide) gw_944 (v := .int (nI (gT σ))) rfl dX9_go_291 ?_
            refine lv_isub hx hb dX9_go_294 ?_
            refine lv_iconst (v := 4) hx hb dX9_go_295 (by decide) ?_
            refine lv_icmp_ge (tgt := 316) hx hb dX9_go_296 (by decide) (fun c11 => ?_) (fun c11 => ?_)
            · have dc11 := c11
              rw [i_le] at dc11
              refine lv_aload_n hx hb dX9_go_316 rfl (lv_at hl 3 rfl) ?_
              refine lv_dup hx hb dX9_go_317 rfl ?_
              refine fgetx hx hb ht inG9 hown hK hP (k := 0) (by decide) (x := (upd (upd (upd (upd (σ 0) 4 (nI (gT σ))) 5 (nI (gT σ))) 7 u) 4 (nI t))) ((s2_k _ _ _ _).trans (congrArg (fun f => upd f 4 (nI t)) ((s2_k _ _ _ _).trans (congrArg (fun f => upd f 7 u) ((s2_k _ _ _ _).trans (congrArg (fun f => upd f 5 (nI (gT σ))) (s2_k _ _ _ _))))))) (sm_obj _ _) rfl 4 (by decide) gw_943 (v := .int (nI t)) rfl dX9_go_318 ?_
              refine lv_iconst (v := 1) hx hb dX9_go_321 (by decide) ?_
              refine lv_iadd hx hb dX9_go_322 ?_
              refine fputx (ref := "") (w := (nI t) + 1) hx hb ht inG9 tyX9 tyX9_ok nmX9 hown hK hP hI hS (k := 0) (by decide) (sm_obj _ _) rfl 4 (by decide) gw_943 rfl rfl rfl (Nat.le_of_ble_eq_true rfl) (sm_obj _ _) dX9_go_323 (fun H locs hP hS => ?_)
              refine lv_goto (tgt := 194) hx hb dX9_go_326 (by decide) ?_
              have hgg : tkG g (mLet (gC σ)) (σ 1 t) = true := by simp only [tkG, c1, (eq_true c6), ↓reduceIte, Bool.false_eq_true]
              rw [s2_s2, nI_1] at hP
              exact ih r' (t + 1) (by omega) (tkG g (mLet (gC σ)) (σ 1 t)) w u (by rw [tkL, if_pos hc9, if_pos c10, if_pos c11] at hR; exact hR) N h3 hN7 (by omega) hg1 hgx hgm _ _ hP hS ls (by rw [hgg]; exact lv_sub hl [0, 2, 3] rfl)
            · have dc11 := c11
              rw [i_le] at dc11
              refine lv_aload_n hx hb dX9_go_299 rfl (lv_at hl 3 rfl) ?_
              refine lv_bipush (v := 10) hx hb dX9_go_300 (by decide) ?_
              refine lv_aload_n hx hb dX9_go_302 rfl (lv_at hl 3 rfl) ?_
              refine fgetx hx hb ht inG9 hown hK hP (k := 0) (by decide) (x := (upd (upd (upd (upd (σ 0) 4 (nI (gT σ))) 5 (nI (gT σ))) 7 u) 4 (nI t))) ((s2_k _ _ _ _).trans (congrArg (fun f => upd f 4 (nI t)) ((s2_k _ _ _ _).trans (congrArg (fun f => upd f 7 u) ((s2_k _ _ _ _).trans (congrArg (fun f => upd f 5 (nI (gT σ))) (s2_k _ _ _ _))))))) (sm_obj _ _) rfl 7 (by decide) gw_946 (v := .int u) rfl dX9_go_303 ?_
              refine lv_imul hx hb dX9_go_306 ?_
              refine lv_iload hx hb dX9_go_307 (lv_at hl 1 rfl) ?_
              refine lv_iadd hx hb dX9_go_309 ?_
              refine lv_bipush (v := 48) hx hb dX9_go_310 (by decide) ?_
              refine lv_isub hx hb dX9_go_312 ?_
              refine fputx (ref := "") (w := ((10 * u) + ((σ 1) t)) - 48) hx hb ht inG9 tyX9 tyX9_ok nmX9 hown hK hP hI hS (k := 0) (by decide) (sm_obj _ _) rfl 7 (by decide) gw_946 rfl rfl rfl (Nat.le_of_ble_eq_true rfl) (sm_obj _ _) dX9_go_313 (fun H locs hP hS => ?_)
              refine lv_aload_n hx hb dX9_go_316 rfl (lv_at hl 3 rfl) ?_
              refine lv_dup hx hb dX9_go_317 rfl ?_
              refine fgetx hx hb ht inG9 hown hK hP (k := 0) (by decide) (x := (upd (upd (upd (upd (upd (σ 0) 4 (nI (gT σ))) 5 (nI (gT σ))) 7 u) 4 (nI t)) 7 (((10 * u) + ((σ 1) t)) - 48))) ((s2_k _ _ _ _).trans (congrArg (fun f => upd f 7 (((10 * u) + ((σ 1) t)) - 48)) ((s2_k _ _ _ _).trans (congrArg (fun f => upd f 4 (nI t)) ((s2_k _ _ _ _).trans (congrArg (fun f => upd f 7 u) ((s2_k _ _ _ _).trans (congrArg (fun f => upd f 5 (nI (gT σ))) (s2_k _ _ _ _))))))))) (sm_obj _ _) rfl 4 (by decide) gw_943 (v := .int (nI t)) rfl dX9_go_318 ?_
              refine lv_iconst (v := 1) hx hb dX9_go_321 (by decide) ?_
              refine lv_iadd hx hb dX9_go_322 ?_
              refine fputx (ref := "") (w := (nI t) + 1) hx hb ht inG9 tyX9 tyX9_ok nmX9 hown hK hP hI hS (k := 0) (by decide) (sm_obj _ _) rfl 4 (by decide) gw_943 rfl rfl rfl (Nat.le_of_ble_eq_true rfl) (sm_obj _ _) dX9_go_323 (fun H locs hP hS => ?_)
              refine lv_goto (tgt := 194) hx hb dX9_go_326 (by decide) ?_
              have hgg : tkG g (mLet (gC σ)) (σ 1 t) = true := by simp only [tkG, c1, (eq_true c6), ↓reduceIte, Bool.false_eq_true]
              rw [gw74, nI_1] at hP
              exact ih r' (t + 1) (by omega) (tkG g (mLet (gC σ)) (σ 1 t)) w (10 * u + σ 1 t - 48) (by rw [tkL, if_pos hc9, if_pos c10, if_neg c11] at hR; exact hR) N h3 hN7 (by omega) hg1 hgx hgm _ _ hP hS ls (by rw [hgg]; exact lv_sub hl [0, 2, 3] rfl)
          · have dc10 := c10
            rw [i_le] at dc10
            refine lv_aload_n hx hb dX9_go_266 rfl (lv_at hl 3 rfl) ?_
            refine lv_ldc2 hx hb hown (ht _ gw_1010) dX9_go_267 ?_
            refine lv_aload_n hx hb dX9_go_270 rfl (lv_at hl 3 rfl) ?_
            refine fgetx hx hb ht inG9 hown hK hP (k := 0) (by decide) (x := (upd (upd (upd (upd (σ 0) 4 (nI (gT σ))) 5 (nI (gT σ))) 7 u) 4 (nI t))) ((s2_k _ _ _ _).trans (congrArg (fun f => upd f 4 (nI t)) ((s2_k _ _ _ _).trans (congrArg (fun f => upd f 7 u) ((s2_k _ _ _ _).trans (congrArg (fun f => upd f 5 (nI (gT σ))) (s2_k _ _ _ _))))))) (sm_obj _ _) rfl 11 (by decide) gw_950 (v := .long ((s2L τ 0 11 w) 0 11)) rfl dX9_go_271 ?_
            refine lv_lmul hx hb dX9_go_274 ?_
            refine lv_iload hx hb dX9_go_275 (lv_at hl 1 rfl) ?_
            refine lv_i2l (v := ((σ 1) t).toInt64) hx hb dX9_go_277 rfl ?_
            refine lv_ladd hx hb dX9_go_278 ?_
            refine lv_ldc2 hx hb hown (ht _ gw_1011) dX9_go_279 ?_
            refine lv_lsub hx hb dX9_go_282 ?_
            refine fputy (ref := "") (w := ((27 * ((s2L τ 0 11 w) 0 11)) + (((σ 1) t).toInt64)) - 96) hx hb ht inG9 tyX9 tyX9_ok nmX9 hown hK hP hI hS (k := 0) (by decide) (sm_obj _ _) rfl 11 (by decide) gw_950 rfl rfl rfl (Nat.le_of_ble_eq_true rfl) (sm_obj _ _) dX9_go_283 (fun H locs hP hS => ?_)
            refine lv_aload_n hx hb dX9_go_286 rfl (lv_at hl 3 rfl) ?_
            refine fgetx hx hb ht inG9 hown hK hP (k := 0) (by decide) (x := (upd (upd (upd (upd (σ 0) 4 (nI (gT σ))) 5 (nI (gT σ))) 7 u) 4 (nI t))) ((s2_k _ _ _ _).trans (congrArg (fun f => upd f 4 (nI t)) ((s2_k _ _ _ _).trans (congrArg (fun f => upd f 7 u) ((s2_k _ _ _ _).trans (congrArg (fun f => upd f 5 (nI (gT σ))) (s2_k _ _ _ _))))))) (sm_obj _ _) rfl 4 (by decide) gw_943 (v := .int (nI t)) rfl dX9_go_287 ?_
            refine lv_aload_n hx hb dX9_go_290 rfl (lv_at hl 3 rfl) ?_
            refine fgetx hx hb ht inG9 hown hK hP (k := 0) (by decide) (x := (upd (upd (upd (upd (σ 0) 4 (nI (gT σ))) 5 (nI (gT σ))) 7 u) 4 (nI t))) ((s2_k _ _ _ _).trans (congrArg (fun f => upd f 4 (nI t)) ((s2_k _ _ _ _).trans (congrArg (fun f => upd f 7 u) ((s2_k _ _ _ _).trans (congrArg (fun f => upd f 5 (nI (gT σ))) (s2_k _ _ _ _))))))) (sm_obj _ _) rfl 5 (by decide) gw_944 (v := .int (nI (gT σ))) rfl dX9_go_291 ?_
            refine lv_isub hx hb dX9_go_294 ?_
            refine lv_iconst (v := 4) hx hb dX9_go_295 (by decide) ?_
            refine lv_icmp_ge (tgt := 316) hx hb dX9_go_296 (by decide) (fun c12 => ?_) (fun c12 => ?_)
            · have dc12 := c12
              rw [i_le] at dc12
              refine lv_aload_n hx hb dX9_go_316 rfl (lv_at hl 3 rfl) ?_
              refine lv_dup hx hb dX9_go_317 rfl ?_
              refine fgetx hx hb ht inG9 hown hK hP (k := 0) (by decide) (x := (upd (upd (upd (upd (σ 0) 4 (nI (gT σ))) 5 (nI (gT σ))) 7 u) 4 (nI t))) ((s2_k _ _ _ _).trans (congrArg (fun f => upd f 4 (nI t)) ((s2_k _ _ _ _).trans (congrArg (fun f => upd f 7 u) ((s2_k _ _ _ _).trans (congrArg (fun f => upd f 5 (nI (gT σ))) (s2_k _ _ _ _))))))) (sm_obj _ _) rfl 4 (by decide) gw_943 (v := .int (nI t)) rfl dX9_go_318 ?_
              refine lv_iconst (v := 1) hx hb dX9_go_321 (by decide) ?_
              refine lv_iadd hx hb dX9_go_322 ?_
              refine fputx (ref := "") (w := (nI t) + 1) hx hb ht inG9 tyX9 tyX9_ok nmX9 hown hK hP hI hS (k := 0) (by decide) (sm_obj _ _) rfl 4 (by decide) gw_943 rfl rfl rfl (Nat.le_of_ble_eq_true rfl) (sm_obj _ _) dX9_go_323 (fun H locs hP hS => ?_)
              refine lv_goto (tgt := 194) hx hb dX9_go_326 (by decide) ?_
              have hgg : tkG g (mLet (gC σ)) (σ 1 t) = true := by simp only [tkG, c1, (eq_true c6), ↓reduceIte, Bool.false_eq_true]
              rw [s2_s2, s2L_s2L, nI_1] at hP
              exact ih r' (t + 1) (by omega) (tkG g (mLet (gC σ)) (σ 1 t)) (27 * w + (σ 1 t).toInt64 - 96) u (by rw [tkL, if_pos hc9, if_neg c10, if_pos c12] at hR; exact hR) N h3 hN7 (by omega) hg1 hgx hgm _ _ hP hS ls (by rw [hgg]; exact lv_sub hl [0, 2, 3] rfl)
            · have dc12 := c12
              rw [i_le] at dc12
              refine lv_aload_n hx hb dX9_go_299 rfl (lv_at hl 3 rfl) ?_
              refine lv_bipush (v := 10) hx hb dX9_go_300 (by decide) ?_
              refine lv_aload_n hx hb dX9_go_302 rfl (lv_at hl 3 rfl) ?_
              refine fgetx hx hb ht inG9 hown hK hP (k := 0) (by decide) (x := (upd (upd (upd (upd (σ 0) 4 (nI (gT σ))) 5 (nI (gT σ))) 7 u) 4 (nI t))) ((s2_k _ _ _ _).trans (congrArg (fun f => upd f 4 (nI t)) ((s2_k _ _ _ _).trans (congrArg (fun f => upd f 7 u) ((s2_k _ _ _ _).trans (congrArg (fun f => upd f 5 (nI (gT σ))) (s2_k _ _ _ _))))))) (sm_obj _ _) rfl 7 (by decide) gw_946 (v := .int u) rfl dX9_go_303 ?_
              refine lv_imul hx hb dX9_go_306 ?_
              refine lv_iload hx hb dX9_go_307 (lv_at hl 1 rfl) ?_
              refine lv_iadd hx hb dX9_go_309 ?_
              refine lv_bipush (v := 48) hx hb dX9_go_310 (by decide) ?_
              refine lv_isub hx hb dX9_go_312 ?_
              refine fputx (ref := "") (w := ((10 * u) + ((σ 1) t)) - 48) hx hb ht inG9 tyX9 tyX9_ok nmX9 hown hK hP hI hS (k := 0) (by decide) (sm_obj _ _) rfl 7 (by decide) gw_946 rfl rfl rfl (Nat.le_of_ble_eq_true rfl) (sm_obj _ _) dX9_go_313 (fun H locs hP hS => ?_)
              refine lv_aload_n hx hb dX9_go_316 rfl (lv_at hl 3 rfl) ?_
              refine lv_dup hx hb dX9_go_317 rfl ?_
              refine fgetx hx hb ht inG9 hown hK hP (k := 0) (by decide) (x := (upd (upd (upd (upd (upd (σ 0) 4 (nI (gT σ))) 5 (nI (gT σ))) 7 u) 4 (nI t)) 7 (((10 * u) + ((σ 1) t)) - 48))) ((s2_k _ _ _ _).trans (congrArg (fun f => upd f 7 (((10 * u) + ((σ 1) t)) - 48)) ((s2_k _ _ _ _).trans (congrArg (fun f => upd f 4 (nI t)) ((s2_k _ _ _ _).trans (congrArg (fun f => upd f 7 u) ((s2_k _ _ _ _).trans (congrArg (fun f => upd f 5 (nI (gT σ))) (s2_k _ _ _ _))))))))) (sm_obj _ _) rfl 4 (by decide) gw_943 (v := .int (nI t)) rfl dX9_go_318 ?_
              refine lv_iconst (v := 1) hx hb dX9_go_321 (by decide) ?_
              refine lv_iadd hx hb dX9_go_322 ?_
              refine fputx (ref := "") (w := (nI t) + 1) hx hb ht inG9 tyX9 tyX9_ok nmX9 hown hK hP hI hS (k := 0) (by decide) (sm_obj _ _) rfl 4 (by decide) gw_943 rfl rfl rfl (Nat.le_of_ble_eq_true rfl) (sm_obj _ _) dX9_go_323 (fun H locs hP hS => ?_)
              refine lv_goto (tgt := 194) hx hb dX9_go_326 (by decide) ?_
              have hgg : tkG g (mLet (gC σ)) (σ 1 t) = true := by simp only [tkG, c1, (eq_true c6), ↓reduceIte, Bool.false_eq_true]
              rw [gw74, s2L_s2L, nI_1] at hP
              exact ih r' (t + 1) (by omega) (tkG g (mLet (gC σ)) (σ 1 t)) (27 * w + (σ 1 t).toInt64 - 96) (10 * u + σ 1 t - 48) (by rw [tkL, if_pos hc9, if_neg c10, if_neg c12] at hR; exact hR) N h3 hN7 (by omega) hg1 hgx hgm _ _ hP hS ls (by rw [hgg]; exact lv_sub hl [0, 2, 3] rfl)
    refine lv_aload_n hx hb dX9_go_194 rfl (lv_at hl 2 rfl) ?_
    refine lv_aload_n hx hb dX9_go_195 rfl (lv_at hl 2 rfl) ?_
    refine fgetx hx hb ht inG9 hown hK hP (k := 0) (by decide) (x := (upd (upd (upd (upd (σ 0) 4 (nI (gT σ))) 5 (nI (gT σ))) 7 u) 4 (nI t))) ((s2_k _ _ _ _).trans (congrArg (fun f => upd f 4 (nI t)) ((s2_k _ _ _ _).trans (congrArg (fun f => upd f 7 u) ((s2_k _ _ _ _).trans (congrArg (fun f => upd f 5 (nI (gT σ))) (s2_k _ _ _ _))))))) (sm_obj _ _) rfl 4 (by decide) gw_943 (v := .int (nI t)) rfl dX9_go_196 ?_
    refine callv (y := yX9_tapeAt) ⟨hx, hb, hml, hown, ht⟩ hK hN hP hS (k := 0) (c_X9_tapeAt l D ca ad hI (s2 (s2 (s2 (s2 σ 0 4 (nI (gT σ))) 0 5 (nI (gT σ))) 0 7 u) 0 4 (nI t)) (s2L τ 0 11 w) (nI t) (fun q => vp_in_nI (by rw [s2_nj _ _ _ (by decide), s2_nj _ _ _ (by decide), s2_nj _ _ _ (by decide), s2_nj _ _ _ (by decide), h3, i_le, ek, nI_toInt (by omega)] at q; omega) (by decide))) (by decide) (sm_obj _ _) rfl ok_X9_tapeAt gw_1006 ⟨by decide, by decide⟩ rfl hl.1 rfl (Nat.le_of_ble_eq_true rfl) ⟨by decide, by decide⟩ dX9_go_199 (fun v_ S_ T_ H locs hp13 hP hS => ?_)
    obtain ⟨rfl, rfl, rfl⟩ := hp13
    try dsimp only [Option.toList, List.cons_append, List.nil_append]
    refine stk_i (v := mTape σ (nI t)) (mTape_cong _ (by rw [s2_nj _ _ _ (by decide), s2_nj _ _ _ (by decide), s2_nj _ _ _ (by decide), s2_nj _ _ _ (by decide)]) (by rw [s2_nk _ _ _ (by decide), s2_nk _ _ _ (by decide), s2_nk _ _ _ (by decide), s2_nk _ _ _ (by decide)])) ?_
    refine calls (y := yX9_isLetter) ⟨hx, hb, hml, hown, ht⟩ hK hN hP hS (c_X9_isLetter l D ca ad hI (s2 (s2 (s2 (s2 σ 0 4 (nI (gT σ))) 0 5 (nI (gT σ))) 0 7 u) 0 4 (nI t)) (s2L τ 0 11 w) (mTape σ (nI t))) ok_X9_isLetter gw_1000 ⟨by decide, by decide⟩ rfl hl.1 rfl (Nat.le_of_ble_eq_true rfl) ⟨by decide, by decide⟩ dX9_go_202 (fun v_ S_ T_ H locs hp14 hP hS => ?_)
    obtain ⟨rfl, rfl, rfl⟩ := hp14
    try dsimp only [Option.toList, List.cons_append, List.nil_append]
    refine br_ne (tgt := 222) hx hb dX9_go_205 (by decide) (fun c15 => ?_) (fun c15 => ?_)
    · have hc9 : tkC σ t = true := by simp only [tkC, c15, ↓reduceIte]
      exact h222 hc9 _ _ hP hS ls (lv_sub hl [0, 1, 2] rfl)
    · refine lv_aload_n hx hb dX9_go_208 rfl (lv_at hl 2 rfl) ?_
      refine lv_aload_n hx hb dX9_go_209 rfl (lv_at hl 2 rfl) ?_
      refine fgetx hx hb ht inG9 hown hK hP (k := 0) (by decide) (x := (upd (upd (upd (upd (σ 0) 4 (nI (gT σ))) 5 (nI (gT σ))) 7 u) 4 (nI t))) ((s2_k _ _ _ _).trans (congrArg (fun f => upd f 4 (nI t)) ((s2_k _ _ _ _).trans (congrArg (fun f => upd f 7 u) ((s2_k _ _ _ _).trans (congrArg (fun f => upd f 5 (nI (gT σ))) (s2_k _ _ _ _))))))) (sm_obj _ _) rfl 4 (by decide) gw_943 (v := .int (nI t)) rfl dX9_go_210 ?_
      refine callv (y := yX9_tapeAt) ⟨hx, hb, hml, hown, ht⟩ hK hN hP hS (k := 0) (c_X9_tapeAt l D ca ad hI (s2 (s2 (s2 (s2 σ 0 4 (nI (gT σ))) 0 5 (nI (gT σ))) 0 7 u) 0 4 (nI t)) (s2L τ 0 11 w) (nI t) (fun q => vp_in_nI (by rw [s2_nj _ _ _ (by decide), s2_nj _ _ _ (by decide), s2_nj _ _ _ (by decide), s2_nj _ _ _ (by decide), h3, i_le, ek, nI_toInt (by omega)] at q; omega) (by decide))) (by decide) (sm_obj _ _) rfl ok_X9_tapeAt gw_1006 ⟨by decide, by decide⟩ rfl hl.1 rfl (Nat.le_of_ble_eq_true rfl) ⟨by decide, by decide⟩ dX9_go_213 (fun v_ S_ T_ H locs hp16 hP hS => ?_)
      obtain ⟨rfl, rfl, rfl⟩ := hp16
      try dsimp only [Option.toList, List.cons_append, List.nil_append]
      refine stk_i (v := mTape σ (nI t)) (mTape_cong _ (by rw [s2_nj _ _ _ (by decide), s2_nj _ _ _ (by decide), s2_nj _ _ _ (by decide), s2_nj _ _ _ (by decide)]) (by rw [s2_nk _ _ _ (by decide), s2_nk _ _ _ (by decide), s2_nk _ _ _ (by decide), s2_nk _ _ _ (by decide)])) ?_
      refine calls (y := yX9_isDigit) ⟨hx, hb, hml, hown, ht⟩ hK hN hP hS (c_X9_isDigit l D ca ad hI (s2 (s2 (s2 (s2 σ 0 4 (nI (gT σ))) 0 5 (nI (gT σ))) 0 7 u) 0 4 (nI t)) (s2L τ 0 11 w) (mTape σ (nI t))) ok_X9_isDigit gw_1003 ⟨by decide, by decide⟩ rfl hl.1 rfl (Nat.le_of_ble_eq_true rfl) ⟨by decide, by decide⟩ dX9_go_216 (fun v_ S_ T_ H locs hp17 hP hS => ?_)
      obtain ⟨rfl, rfl, rfl⟩ := hp17
      try dsimp only [Option.toList, List.cons_append, List.nil_append]
      refine br_eq (tgt := 329) hx hb dX9_go_219 (by decide) (fun c18 => ?_) (fun c18 => ?_)
      · have hK9 : gK σ = (t, g, w, u) := by rw [← hR, tkL, if_neg (by simp only [tkC, c15, c18, ↓reduceIte, Bool.false_eq_true, not_false_eq_true])]
        refine lv_aload_n hx hb dX9_go_329 rfl (lv_at hl 2 rfl) ?_
        refine lv_iload_n hx hb dX9_go_330 rfl (lv_at hl 0 rfl) ?_
        refine br_eq (tgt := 356) hx hb dX9_go_331 (by decide) (fun c19 => ?_) (fun c19 => ?_)
        · refine lv_iconst (v := 1) hx hb dX9_go_356 (by decide) ?_
          refine lv_goto (tgt := 369) hx hb dX9_go_357 (by decide) ?_
          refine fputx (ref := "") (w := 1) hx hb ht inG9 tyX9 tyX9_ok nmX9 hown hK hP hI hS (k := 0) (by decide) (sm_obj _ _) rfl 6 (by decide) gw_945 rfl rfl rfl (Nat.le_of_ble_eq_true rfl) (sm_obj _ _) dX9_go_369 (fun H locs hP hS => ?_)
          exact ret_v hx hb hr hlk hP hS dX9_go_372 (⟨rfl, by rw [hgm, hK9]; simp only [tkS, gO, c19, ↓reduceIte, Bool.false_eq_true], by rw [goT, if_pos hgx, hK9]⟩)
        · refine lv_aload_n hx hb dX9_go_334 rfl (lv_at hl 2 rfl) ?_
          refine fgetx hx hb ht inG9 hown hK hP (k := 0) (by decide) (x := (upd (upd (upd (upd (σ 0) 4 (nI (gT σ))) 5 (nI (gT σ))) 7 u) 4 (nI t))) ((s2_k _ _ _ _).trans (congrArg (fun f => upd f 4 (nI t)) ((s2_k _ _ _ _).trans (congrArg (fun f => upd f 7 u) ((s2_k _ _ _ _).trans (congrArg (fun f => upd f 5 (nI (gT σ))) (s2_k _ _ _ _))))))) (sm_obj _ _) rfl 4 (by decide) gw_943 (v := .int (nI t)) rfl dX9_go_335 ?_
          refine lv_aload_n hx hb dX9_go_338 rfl (lv_at hl 2 rfl) ?_
          refine fgetx hx hb ht inG9 hown hK hP (k := 0) (by decide) (x := (upd (upd (upd (upd (σ 0) 4 (nI (gT σ))) 5 (nI (gT σ))) 7 u) 4 (nI t))) ((s2_k _ _ _ _).trans (congrArg (fun f => upd f 4 (nI t)) ((s2_k _ _ _ _).trans (congrArg (fun f => upd f 7 u) ((s2_k _ _ _ _).trans (congrArg (fun f => upd f 5 (nI (gT σ))) (s2_k _ _ _ _))))))) (sm_obj _ _) rfl 5 (by decide) gw_944 (v := .int (nI (gT σ))) rfl dX9_go_339 ?_
          refine lv_isub hx hb dX9_go_342 ?_
          refine lv_iload_n hx hb dX9_go_343 rfl (lv_at hl 1 rfl) ?_
          refine br_eq (tgt := 352) hx hb dX9_go_344 (by decide) (fun c20 => ?_) (fun c20 => ?_)
          · refine lv_iconst (v := 4) hx hb dX9_go_352 (by decide) ?_
            refine lv_icmp_le (tgt := 360) hx hb dX9_go_353 (by decide) (fun c21 => ?_) (fun c21 => ?_)
            · have dc21 := c21
              rw [i_le] at dc21
              refine lv_iload_n hx hb dX9_go_360 rfl (lv_at hl 1 rfl) ?_
              refine br_eq (tgt := 368) hx hb dX9_go_361 (by decide) (fun c22 => ?_) (fun c22 => ?_)
              · refine lv_iconst (v := 3) hx hb dX9_go_368 (by decide) ?_
                refine fputx (ref := "") (w := 3) hx hb ht inG9 tyX9 tyX9_ok nmX9 hown hK hP hI hS (k := 0) (by decide) (sm_obj _ _) rfl 6 (by decide) gw_945 rfl rfl rfl (Nat.le_of_ble_eq_true rfl) (sm_obj _ _) dX9_go_369 (fun H locs hP hS => ?_)
                exact ret_v hx hb hr hlk hP hS dX9_go_372 (⟨rfl, by rw [hgm, hK9]; simp only [tkS, gO, c19, c20, c21, c22, ↓reduceIte, Bool.false_eq_true], by rw [goT, if_pos hgx, hK9]⟩)
              · exact absurd (c20.symm.trans c22) (by decide)
            · have dc21 := c21
              rw [i_le] at dc21
              refine lv_iconst (v := 1) hx hb dX9_go_356 (by decide) ?_
              refine lv_goto (tgt := 369) hx hb dX9_go_357 (by decide) ?_
              refine fputx (ref := "") (w := 1) hx hb ht inG9 tyX9 tyX9_ok nmX9 hown hK hP hI hS (k := 0) (by decide) (sm_obj _ _) rfl 6 (by decide) gw_945 rfl rfl rfl (Nat.le_of_ble_eq_true rfl) (sm_obj _ _) dX9_go_369 (fun H locs hP hS => ?_)
              exact ret_v hx hb hr hlk hP hS dX9_go_372 (⟨rfl, by rw [hgm, hK9]; simp only [tkS, gO, c19, c20, c21, ↓reduceIte, Bool.false_eq_true], by rw [goT, if_pos hgx, hK9]⟩)
          · refine lv_bipush (v := 8) hx hb dX9_go_347 (by decide) ?_
            refine lv_goto (tgt := 353) hx hb dX9_go_349 (by decide) ?_
            refine lv_icmp_le (tgt := 360) hx hb dX9_go_353 (by decide) (fun c23 => ?_) (fun c23 => ?_)
            · have dc23 := c23
              rw [i_le] at dc23
              refine lv_iload_n hx hb dX9_go_360 rfl (lv_at hl 1 rfl) ?_
              refine br_eq (tgt := 368) hx hb dX9_go_361 (by decide) (fun c24 => ?_) (fun c24 => ?_)
              · exact absurd (c20.symm.trans c24) (by decide)
              · refine lv_iconst (v := 2) hx hb dX9_go_364 (by decide) ?_
                refine lv_goto (tgt := 369) hx hb dX9_go_365 (by decide) ?_
                refine fputx (ref := "") (w := 2) hx hb ht inG9 tyX9 tyX9_ok nmX9 hown hK hP hI hS (k := 0) (by decide) (sm_obj _ _) rfl 6 (by decide) gw_945 rfl rfl rfl (Nat.le_of_ble_eq_true rfl) (sm_obj _ _) dX9_go_369 (fun H locs hP hS => ?_)
                exact ret_v hx hb hr hlk hP hS dX9_go_372 (⟨rfl, by rw [hgm, hK9]; simp only [tkS, gO, c19, c20, c23, c24, ↓reduceIte, Bool.false_eq_true], by rw [goT, if_pos hgx, hK9]⟩)
            · have dc23 := c23
              rw [i_le] at dc23
              refine lv_iconst (v := 1) hx hb dX9_go_356 (by decide) ?_
              refine lv_goto (tgt := 369) hx hb dX9_go_357 (by decide) ?_
              refine fputx (ref := "") (w := 1) hx hb ht inG9 tyX9 tyX9_ok nmX9 hown hK hP hI hS (k := 0) (by decide) (sm_obj _ _) rfl 6 (by decide) gw_945 rfl rfl rfl (Nat.le_of_ble_eq_true rfl) (sm_obj _ _) dX9_go_369 (fun H locs hP hS => ?_)
              exact ret_v hx hb hr hlk hP hS dX9_go_372 (⟨rfl, by rw [hgm, hK9]; simp only [tkS, gO, c19, c20, c23, ↓reduceIte, Bool.false_eq_true], by rw [goT, if_pos hgx, hK9]⟩)
      · have hc9 : tkC σ t = true := by simp only [tkC, c15, c18, ↓reduceIte, Bool.false_eq_true]
        exact h222 hc9 _ _ hP hS ls (lv_sub hl [0, 1, 2] rfl)
set_option maxHeartbeats 4000000 in
set_option maxRecDepth 100000 in
theorem lp_X9_go1 {l : Launch} {D : va_G} {ca : Nat → ClassId} {ad : Nat → Nat} (hI : Inj 6 ad) {σ : MI} {τ : ML} (hT : TI σ) {p : Program} {e : Env} {s : State} {m : MethodId} {args : Array Value} {below : List Frame} {meth : Method} {c : Code} (hx : p.tables.exec = Jvm.exec) (hb : c.code = cX9_go) (hr : meth.sig.returnType = none) (ht : ∀ w ∈ GG, w.before args s = true) (hown : s.vm.findClass yX9_go.cls = some m.cls) (hlk : meth.locks = false) (hml : c.maxLocals = 5) (hK : va_K D vwCl (TY ca) s) (hN : NW s) : ∀ (n : Nat) (hn : 0 < n) (N : Nat) (h3 : σ 0 3 = nI N) (hN7 : N ≤ 740) (hle : gT σ ≤ N) (H : Heap) (locs : List Loc) (hP : PW D 6 ad (mxf ca ad) (s2 σ 0 4 (nI (gT σ))) τ H) (hS : va_S (AA 6 ad) s.heap H locs) (ls : Array Slot) (hl : lv_has ls 5 [(0, .ref (ad 0))]), W p l e { frames := 1, cells := 0, slots := 0, locals := 21 } s m args below meth c H locs 0 0 (MQ below (QD D 6 ad (mxf ca ad) (fun v_ S_ T_ => none = v_ ∧ (goM σ) = S_ ∧ (goT σ τ) = T_)) args s 0 0 (AA 6 ad)) (F0 m 52 ls []) := by
  intro n
  induction n with
  | zero => intro hn N h3 hN7 hle H locs hP hS ls hl; exfalso; omega
  | succ n ih =>
    intro hn N h3 hN7 hle H locs hP hS ls hl
    have eg : (nI (gT σ)).toInt = gT σ := nI_toInt (by omega)
    have e3 : (σ 0 3).toInt = N := by rw [h3, nI_toInt (by omega)]
    refine lv_aload_n hx hb dX9_go_52 rfl (lv_at hl 0 rfl) ?_
    refine lv_aload_n hx hb dX9_go_53 rfl (lv_at hl 0 rfl) ?_
    refine fgetx hx hb ht inG9 hown hK hP (k := 0) (by decide) (x := (upd (σ 0) 4 (nI (gT σ)))) (s2_k _ _ _ _) (sm_obj _ _) rfl 4 (by decide) gw_943 (v := .int (nI (gT σ))) rfl dX9_go_54 ?_
    refine fputx (ref := "") (w := (nI (gT σ))) hx hb ht inG9 tyX9 tyX9_ok nmX9 hown hK hP hI hS (k := 0) (by decide) (sm_obj _ _) rfl 5 (by decide) gw_944 rfl rfl rfl (Nat.le_of_ble_eq_true rfl) (sm_obj _ _) dX9_go_57 (fun H locs hP hS => ?_)
    refine lv_aload_n hx hb dX9_go_60 rfl (lv_at hl 0 rfl) ?_
    refine fgetx hx hb ht inG9 hown hK hP (k := 0) (by decide) (x := (upd (upd (σ 0) 4 (nI (gT σ))) 5 (nI (gT σ)))) ((s2_k _ _ _ _).trans (congrArg (fun f => upd f 5 (nI (gT σ))) (s2_k _ _ _ _))) (sm_obj _ _) rfl 3 (by decide) gw_942 (v := .int ((σ 0) 3)) rfl dX9_go_61 ?_
    refine lv_sipush (v := 700) hx hb dX9_go_64 (by decide) ?_
    refine lv_icmp_le (tgt := 93) hx hb dX9_go_67 (by decide) (fun c1 => ?_) (fun c1 => ?_)
    · have dc1 := c1
      rw [i_le] at dc1
      refine lv_aload_n hx hb dX9_go_93 rfl (lv_at hl 0 rfl) ?_
      refine fgetx hx hb ht inG9 hown hK hP (k := 0) (by decide) (x := (upd (upd (σ 0) 4 (nI (gT σ))) 5 (nI (gT σ)))) ((s2_k _ _ _ _).trans (congrArg (fun f => upd f 5 (nI (gT σ))) (s2_k _ _ _ _))) (sm_obj _ _) rfl 4 (by decide) gw_943 (v := .int (nI (gT σ))) rfl dX9_go_94 ?_
      refine lv_aload_n hx hb dX9_go_97 rfl (lv_at hl 0 rfl) ?_
      refine fgetx hx hb ht inG9 hown hK hP (k := 0) (by decide) (x := (upd (upd (σ 0) 4 (nI (gT σ))) 5 (nI (gT σ)))) ((s2_k _ _ _ _).trans (congrArg (fun f => upd f 5 (nI (gT σ))) (s2_k _ _ _ _))) (sm_obj _ _) rfl 3 (by decide) gw_942 (v := .int ((σ 0) 3)) rfl dX9_go_98 ?_
      refine lv_icmp_lt (tgt := 110) hx hb dX9_go_101 (by decide) (fun c2 => ?_) (fun c2 => ?_)
      · have dc2 := c2
        rw [i_lt] at dc2
        refine lv_aload_n hx hb dX9_go_110 rfl (lv_at hl 0 rfl) ?_
        refine fgetx hx hb ht inG9 hown hK hP (k := 0) (by decide) (x := (upd (upd (σ 0) 4 (nI (gT σ))) 5 (nI (gT σ)))) ((s2_k _ _ _ _).trans (congrArg (fun f => upd f 5 (nI (gT σ))) (s2_k _ _ _ _))) (sm_obj _ _) rfl 1 (by decide) gw_940 (v := .ref (ad 1)) rfl dX9_go_111 ?_
        refine lv_aload_n hx hb dX9_go_114 rfl (lv_at hl 0 rfl) ?_
        refine fgetx hx hb ht inG9 hown hK hP (k := 0) (by decide) (x := (upd (upd (σ 0) 4 (nI (gT σ))) 5 (nI (gT σ)))) ((s2_k _ _ _ _).trans (congrArg (fun f => upd f 5 (nI (gT σ))) (s2_k _ _ _ _))) (sm_obj _ _) rfl 4 (by decide) gw_943 (v := .int (nI (gT σ))) rfl dX9_go_115 ?_
        refine aldj hx hb hK hP (k := 1) (by decide) (x := (σ 1)) ((s2_nk _ _ _ (by omega)).trans (s2_nk _ _ _ (by omega))) 0 (sm_tape _ _) rfl (vp_in_nI (by omega) (by decide)) (j := (nI (gT σ)).toNatClampNeg) rfl dX9_go_118 ?_
        refine stk_i (v := (gC σ)) (by rw [gC, nI_clamp (by omega)]) ?_
        refine lv_istore_n (lv' := [(1, .int (gC σ)), (0, .ref (ad 0))]) hx hb dX9_go_119 rfl hl (by decide) rfl (fun ls hl => ?_)
        refine lv_iload_n hx hb dX9_go_120 rfl (lv_at hl 0 rfl) ?_
        refine calls (y := yX9_isLetter) ⟨hx, hb, hml, hown, ht⟩ hK hN hP hS (c_X9_isLetter l D ca ad hI (s2 (s2 σ 0 4 (nI (gT σ))) 0 5 (nI (gT σ))) τ (gC σ)) ok_X9_isLetter gw_1000 ⟨by decide, by decide⟩ rfl hl.1 rfl (Nat.le_of_ble_eq_true rfl) ⟨by decide, by decide⟩ dX9_go_121 (fun v_ S_ T_ H locs hp3 hP hS => ?_)
        obtain ⟨rfl, rfl, rfl⟩ := hp3
        try dsimp only [Option.toList, List.cons_append, List.nil_append]
        refine br_ne (tgt := 177) hx hb dX9_go_124 (by decide) (fun c4 => ?_) (fun c4 => ?_)
        · refine lv_iload_n hx hb dX9_go_177 rfl (lv_at hl 0 rfl) ?_
          refine calls (y := yX9_isLetter) ⟨hx, hb, hml, hown, ht⟩ hK hN hP hS (c_X9_isLetter l D ca ad hI (s2 (s2 σ 0 4 (nI (gT σ))) 0 5 (nI (gT σ))) τ (gC σ)) ok_X9_isLetter gw_1000 ⟨by decide, by decide⟩ rfl hl.1 rfl (Nat.le_of_ble_eq_true rfl) ⟨by decide, by decide⟩ dX9_go_178 (fun v_ S_ T_ H locs hp5 hP hS => ?_)
          obtain ⟨rfl, rfl, rfl⟩ := hp5
          try dsimp only [Option.toList, List.cons_append, List.nil_append]
          refine lv_istore_n (lv' := [(2, .int (b2i (mLet (gC σ)))), (1, .int (gC σ)), (0, .ref (ad 0))]) hx hb dX9_go_181 rfl hl (by decide) rfl (fun ls hl => ?_)
          refine lv_iconst (v := 1) hx hb dX9_go_182 (by decide) ?_
          refine lv_istore_n (lv' := [(3, .int 1), (2, .int (b2i (mLet (gC σ)))), (1, .int (gC σ)), (0, .ref (ad 0))]) hx hb dX9_go_183 rfl hl (by decide) rfl (fun ls hl => ?_)
          refine lv_aload_n hx hb dX9_go_184 rfl (lv_at hl 3 rfl) ?_
          refine lv_lconst (v := 0) hx hb dX9_go_185 (by decide) ?_
          refine fputy (ref := "") (w := 0) hx hb ht inG9 tyX9 tyX9_ok nmX9 hown hK hP hI hS (k := 0) (by decide) (sm_obj _ _) rfl 11 (by decide) gw_950 rfl rfl rfl (Nat.le_of_ble_eq_true rfl) (sm_obj _ _) dX9_go_186 (fun H locs hP hS => ?_)
          refine lv_aload_n hx hb dX9_go_189 rfl (lv_at hl 3 rfl) ?_
          refine lv_iconst (v := 0) hx hb dX9_go_190 (by decide) ?_
          refine fputx (ref := "") (w := 0) hx hb ht inG9 tyX9 tyX9_ok nmX9 hown hK hP hI hS (k := 0) (by decide) (sm_obj _ _) rfl 7 (by decide) gw_946 rfl rfl rfl (Nat.le_of_ble_eq_true rfl) (sm_obj _ _) dX9_go_191 (fun H locs hP hS => ?_)
          have hg1 : gT σ < N := by omega
          have hgx : gX σ = true := by simp only [gX, c1, c2, c4, ↓reduceIte, Bool.false_eq_true]
          have hgm : goM σ = s2 (s2 (s2 (gO σ) 0 7 (gK σ).2.2.2) 0 4 (nI (gK σ).1)) 0 6 (tkS (gT σ) (mLet (gC σ)) (gK σ)) := by simp only [goM, gB, c1, c2, c4, ↓reduceIte, Bool.false_eq_true]
          rw [gw74z (b := nI (gT σ)) _ _ (by rw [s2_nj _ _ _ (by decide), s2_eq])] at hP
          exact lp_X9_go2 hI hT hx hb hr ht hown hlk hml hK hN (N - gT σ + 1) (N - gT σ) (gT σ) (by omega) true 0 0 (by rw [gK, h3, nI_clamp (by omega)]) N h3 hN7 (by omega) hg1 hgx hgm _ _ hP hS ls (lv_sub hl [0, 1, 3] rfl)
        · refine lv_iload_n hx hb dX9_go_127 rfl (lv_at hl 0 rfl) ?_
          refine calls (y := yX9_isDigit) ⟨hx, hb, hml, hown, ht⟩ hK hN hP hS (c_X9_isDigit l D ca ad hI (s2 (s2 σ 0 4 (nI (gT σ))) 0 5 (nI (gT σ))) τ (gC σ)) ok_X9_isDigit gw_1003 ⟨by decide, by decide⟩ rfl hl.1 rfl (Nat.le_of_ble_eq_true rfl) ⟨by decide, by decide⟩ dX9_go_128 (fun v_ S_ T_ H locs hp6 hP hS => ?_)
          obtain ⟨rfl, rfl, rfl⟩ := hp6
          try dsimp only [Option.toList, List.cons_append, List.nil_append]
          refine br_ne (tgt := 177) hx hb dX9_go_131 (by decide) (fun c7 => ?_) (fun c7 => ?_)
          · refine lv_iload_n hx hb dX9_go_177 rfl (lv_at hl 0 rfl) ?_
            refine calls (y := yX9_isLetter) ⟨hx, hb, hml, hown, ht⟩ hK hN hP hS (c_X9_isLetter l D ca ad hI (s2 (s2 σ 0 4 (nI (gT σ))) 0 5 (nI (gT σ))) τ (gC σ)) ok_X9_isLetter gw_1000 ⟨by decide, by decide⟩ rfl hl.1 rfl (Nat.le_of_ble_eq_true rfl) ⟨by decide, by decide⟩ dX9_go_178 (fun v_ S_ T_ H locs hp8 hP hS => ?_)
            obtain ⟨rfl, rfl, rfl⟩ := hp8
            try dsimp only [Option.toList, List.cons_append, List.nil_append]
            refine lv_istore_n (lv' := [(2, .int (b2i (mLet (gC σ)))), (1, .int (gC σ)), (0, .ref (ad 0))]) hx hb dX9_go_181 rfl hl (by decide) rfl (fun ls hl => ?_)
            refine lv_iconst (v := 1) hx hb dX9_go_182 (by decide) ?_
            refine lv_istore_n (lv' := [(3, .int 1), (2, .int (b2i (mLet (gC σ)))), (1, .int (gC σ)), (0, .ref (ad 0))]) hx hb dX9_go_183 rfl hl (by decide) rfl (fun ls hl => ?_)
            refine lv_aload_n hx hb dX9_go_184 rfl (lv_at hl 3 rfl) ?_
            refine lv_lconst (v := 0) hx hb dX9_go_185 (by decide) ?_
            refine fputy (ref := "") (w := 0) hx hb ht inG9 tyX9 tyX9_ok nmX9 hown hK hP hI hS (k := 0) (by decide) (sm_obj _ _) rfl 11 (by decide) gw_950 rfl rfl rfl (Nat.le_of_ble_eq_true rfl) (sm_obj _ _) dX9_go_186 (fun H locs hP hS => ?_)
            refine lv_aload_n hx hb dX9_go_189 rfl (lv_at hl 3 rfl) ?_
            refine lv_iconst (v := 0) hx hb dX9_go_190 (by decide) ?_
            refine fputx (ref := "") (w := 0) hx hb ht inG9 tyX9 tyX9_ok nmX9 hown hK hP hI hS (k := 0) (by decide) (sm_obj _ _) rfl 7 (by decide) gw_946 rfl rfl rfl (Nat.le_of_ble_eq_true rfl) (sm_obj _ _) dX9_go_191 (fun H locs hP hS => ?_)
            have hg1 : gT σ < N := by omega
            have hgx : gX σ = true := by simp only [gX, c1, c2, c4, c7, ↓reduceIte, Bool.false_eq_true]
            have hgm : goM σ = s2 (s2 (s2 (gO σ) 0 7 (gK σ).2.2.2) 0 4 (nI (gK σ).1)) 0 6 (tkS (gT σ) (mLet (gC σ)) (gK σ)) := by simp only [goM, gB, c1, c2, c4, c7, ↓reduceIte, Bool.false_eq_true]
            rw [gw74z (b := nI (gT σ)) _ _ (by rw [s2_nj _ _ _ (by decide), s2_eq])] at hP
            exact lp_X9_go2 hI hT hx hb hr ht hown hlk hml hK hN (N - gT σ + 1) (N - gT σ) (gT σ) (by omega) true 0 0 (by rw [gK, h3, nI_clamp (by omega)]) N h3 hN7 (by omega) hg1 hgx hgm _ _ hP hS ls (lv_sub hl [0, 1, 3] rfl)
          · refine lv_aload_n hx hb dX9_go_134 rfl (lv_at hl 1 rfl) ?_
            refine lv_iload_n hx hb dX9_go_135 rfl (lv_at hl 0 rfl) ?_
            refine lv_bipush (v := 59) hx hb dX9_go_136 (by decide) ?_
            refine lv_icmp_eq (tgt := 153) hx hb dX9_go_138 (by decide) (fun c9 => ?_) (fun c9 => ?_)
            · have dc9 := c9
              rw [i_eq] at dc9
              refine lv_iconst (v := 4) hx hb dX9_go_153 (by decide) ?_
              refine lv_goto (tgt := 158) hx hb dX9_go_154 (by decide) ?_
              refine fputx (ref := "") (w := 4) hx hb ht inG9 tyX9 tyX9_ok nmX9 hown hK hP hI hS (k := 0) (by decide) (sm_obj _ _) rfl 6 (by decide) gw_945 rfl rfl rfl (Nat.le_of_ble_eq_true rfl) (sm_obj _ _) dX9_go_158 (fun H locs hP hS => ?_)
              refine lv_aload_n hx hb dX9_go_161 rfl (lv_at hl 1 rfl) ?_
              refine lv_iload_n hx hb dX9_go_162 rfl (lv_at hl 0 rfl) ?_
              refine fputx (ref := "") (w := (gC σ)) hx hb ht inG9 tyX9 tyX9_ok nmX9 hown hK hP hI hS (k := 0) (by decide) (sm_obj _ _) rfl 8 (by decide) gw_947 rfl rfl rfl (Nat.le_of_ble_eq_true rfl) (sm_obj _ _) dX9_go_163 (fun H locs hP hS => ?_)
              refine lv_aload_n hx hb dX9_go_166 rfl (lv_at hl 1 rfl) ?_
              refine lv_dup hx hb dX9_go_167 rfl ?_
              refine fgetx hx hb ht inG9 hown hK hP (k := 0) (by decide) (x := (upd (upd (upd (upd (σ 0) 4 (nI (gT σ))) 5 (nI (gT σ))) 6 4) 8 (gC σ))) ((s2_k _ _ _ _).trans (congrArg (fun f => upd f 8 (gC σ)) ((s2_k _ _ _ _).trans (congrArg (fun f => upd f 6 4) ((s2_k _ _ _ _).trans (congrArg (fun f => upd f 5 (nI (gT σ))) (s2_k _ _ _ _))))))) (sm_obj _ _) rfl 4 (by decide) gw_943 (v := .int (nI (gT σ))) rfl dX9_go_168 ?_
              refine lv_iconst (v := 1) hx hb dX9_go_171 (by decide) ?_
              refine lv_iadd hx hb dX9_go_172 ?_
              refine fputx (ref := "") (w := (nI (gT σ)) + 1) hx hb ht inG9 tyX9 tyX9_ok nmX9 hown hK hP hI hS (k := 0) (by decide) (sm_obj _ _) rfl 4 (by decide) gw_943 rfl rfl rfl (Nat.le_of_ble_eq_true rfl) (sm_obj _ _) dX9_go_173 (fun H locs hP hS => ?_)
              exact ret_v hx hb hr hlk hP hS dX9_go_176 (⟨rfl, by simp only [goM, gB, gO, gS, c1, c2, c4, c7, (eq_true c9), ↓reduceIte, Bool.false_eq_true], by simp only [goT, gX, c1, c2, c4, c7, (eq_true c9), ↓reduceIte, Bool.false_eq_true]⟩)
            · have dc9 := c9
              rw [i_eq] at dc9
              refine lv_iload_n hx hb dX9_go_141 rfl (lv_at hl 0 rfl) ?_
              refine lv_bipush (v := 61) hx hb dX9_go_142 (by decide) ?_
              refine lv_icmp_eq (tgt := 153) hx hb dX9_go_144 (by decide) (fun c10 => ?_) (fun c10 => ?_)
              · have dc10 := c10
                rw [i_eq] at dc10
                refine lv_iconst (v := 4) hx hb dX9_go_153 (by decide) ?_
                refine lv_goto (tgt := 158) hx hb dX9_go_154 (by decide) ?_
                refine fputx (ref := "") (w := 4) hx hb ht inG9 tyX9 tyX9_ok nmX9 hown hK hP hI hS (k := 0) (by decide) (sm_obj _ _) rfl 6 (by decide) gw_945 rfl rfl rfl (Nat.le_of_ble_eq_true rfl) (sm_obj _ _) dX9_go_158 (fun H locs hP hS => ?_)
                refine lv_aload_n hx hb dX9_go_161 rfl (lv_at hl 1 rfl) ?_
                refine lv_iload_n hx hb dX9_go_162 rfl (lv_at hl 0 rfl) ?_
                refine fputx (ref := "") (w := (gC σ)) hx hb ht inG9 tyX9 tyX9_ok nmX9 hown hK hP hI hS (k := 0) (by decide) (sm_obj _ _) rfl 8 (by decide) gw_947 rfl rfl rfl (Nat.le_of_ble_eq_true rfl) (sm_obj _ _) dX9_go_163 (fun H locs hP hS => ?_)
                refine lv_aload_n hx hb dX9_go_166 rfl (lv_at hl 1 rfl) ?_
                refine lv_dup hx hb dX9_go_167 rfl ?_
                refine fgetx hx hb ht inG9 hown hK hP (k := 0) (by decide) (x := (upd (upd (upd (upd (σ 0) 4 (nI (gT σ))) 5 (nI (gT σ))) 6 4) 8 (gC σ))) ((s2_k _ _ _ _).trans (congrArg (fun f => upd f 8 (gC σ)) ((s2_k _ _ _ _).trans (congrArg (fun f => upd f 6 4) ((s2_k _ _ _ _).trans (congrArg (fun f => upd f 5 (nI (gT σ))) (s2_k _ _ _ _))))))) (sm_obj _ _) rfl 4 (by decide) gw_943 (v := .int (nI (gT σ))) rfl dX9_go_168 ?_
                refine lv_iconst (v := 1) hx hb dX9_go_171 (by decide) ?_
                refine lv_iadd hx hb dX9_go_172 ?_
                refine fputx (ref := "") (w := (nI (gT σ)) + 1) hx hb ht inG9 tyX9 tyX9_ok nmX9 hown hK hP hI hS (k := 0) (by decide) (sm_obj _ _) rfl 4 (by decide) gw_943 rfl rfl rfl (Nat.le_of_ble_eq_true rfl) (sm_obj _ _) dX9_go_173 (fun H locs hP hS => ?_)
                exact ret_v hx hb hr hlk hP hS dX9_go_176 (⟨rfl, by simp only [goM, gB, gO, gS, c1, c2, c4, c7, c9, (eq_true c10), ↓reduceIte, Bool.false_eq_true], by simp only [goT, gX, c1, c2, c4, c7, c9, (eq_true c10), ↓reduceIte, Bool.false_eq_true]⟩)
              · have dc10 := c10
                rw [i_eq] at dc10
                refine lv_iload_n hx hb dX9_go_147 rfl (lv_at hl 0 rfl) ?_
                refine lv_bipush (v := 43) hx hb dX9_go_148 (by decide) ?_
                refine lv_icmp_ne (tgt := 157) hx hb dX9_go_150 (by decide) (fun c11 => ?_) (fun c11 => ?_)
                · have dc11 := c11
                  rw [i_eq] at dc11
                  refine lv_iconst (v := 1) hx hb dX9_go_157 (by decide) ?_
                  refine fputx (ref := "") (w := 1) hx hb ht inG9 tyX9 tyX9_ok nmX9 hown hK hP hI hS (k := 0) (by decide) (sm_obj _ _) rfl 6 (by decide) gw_945 rfl rfl rfl (Nat.le_of_ble_eq_true rfl) (sm_obj _ _) dX9_go_158 (fun H locs hP hS => ?_)
                  refine lv_aload_n hx hb dX9_go_161 rfl (lv_at hl 1 rfl) ?_
                  refine lv_iload_n hx hb dX9_go_162 rfl (lv_at hl 0 rfl) ?_
                  refine fputx (ref := "") (w := (gC σ)) hx hb ht inG9 tyX9 tyX9_ok nmX9 hown hK hP hI hS (k := 0) (by decide) (sm_obj _ _) rfl 8 (by decide) gw_947 rfl rfl rfl (Nat.le_of_ble_eq_true rfl) (sm_obj _ _) dX9_go_163 (fun H locs hP hS => ?_)
                  refine lv_aload_n hx hb dX9_go_166 rfl (lv_at hl 1 rfl) ?_
                  refine lv_dup hx hb dX9_go_167 rfl ?_
                  refine fgetx hx hb ht inG9 hown hK hP (k := 0) (by decide) (x := (upd (upd (upd (upd (σ 0) 4 (nI (gT σ))) 5 (nI (gT σ))) 6 1) 8 (gC σ))) ((s2_k _ _ _ _).trans (congrArg (fun f => upd f 8 (gC σ)) ((s2_k _ _ _ _).trans (congrArg (fun f => upd f 6 1) ((s2_k _ _ _ _).trans (congrArg (fun f => upd f 5 (nI (gT σ))) (s2_k _ _ _ _))))))) (sm_obj _ _) rfl 4 (by decide) gw_943 (v := .int (nI (gT σ))) rfl dX9_go_168 ?_
                  refine lv_iconst (v := 1) hx hb dX9_go_171 (by decide) ?_
                  refine lv_iadd hx hb dX9_go_172 ?_
                  refine fputx (ref := "") (w := (nI (gT σ)) + 1) hx hb ht inG9 tyX9 tyX9_ok nmX9 hown hK hP hI hS (k := 0) (by decide) (sm_obj _ _) rfl 4 (by decide) gw_943 rfl rfl rfl (Nat.le_of_ble_eq_true rfl) (sm_obj _ _) dX9_go_173 (fun H locs hP hS => ?_)
                  exact ret_v hx hb hr hlk hP hS dX9_go_176 (⟨rfl, by simp only [goM, gB, gO, gS, c1, c2, c4, c7, c9, c10, c11, ↓reduceIte, Bool.false_eq_true], by simp only [goT, gX, c1, c2, c4, c7, c9, c10, c11, ↓reduceIte, Bool.false_eq_true]⟩)
                · have dc11 := c11
                  rw [i_eq] at dc11
                  refine lv_iconst (v := 4) hx hb dX9_go_153 (by decide) ?_
                  refine lv_goto (tgt := 158) hx hb dX9_go_154 (by decide) ?_
                  refine fputx (ref := "") (w := 4) hx hb ht inG9 tyX9 tyX9_ok nmX9 hown hK hP hI hS (k := 0) (by decide) (sm_obj _ _) rfl 6 (by decide) gw_945 rfl rfl rfl (Nat.le_of_ble_eq_true rfl) (sm_obj _ _) dX9_go_158 (fun H locs hP hS => ?_)
                  refine lv_aload_n hx hb dX9_go_161 rfl (lv_at hl 1 rfl) ?_
                  refine lv_iload_n hx hb dX9_go_162 rfl (lv_at hl 0 rfl) ?_
                  refine fputx (ref := "") (w := (gC σ)) hx hb ht inG9 tyX9 tyX9_ok nmX9 hown hK hP hI hS (k := 0) (by decide) (sm_obj _ _) rfl 8 (by decide) gw_947 rfl rfl rfl (Nat.le_of_ble_eq_true rfl) (sm_obj _ _) dX9_go_163 (fun H locs hP hS => ?_)
                  refine lv_aload_n hx hb dX9_go_166 rfl (lv_at hl 1 rfl) ?_
                  refine lv_dup hx hb dX9_go_167 rfl ?_
                  refine fgetx hx hb ht inG9 hown hK hP (k := 0) (by decide) (x := (upd (upd (upd (upd (σ 0) 4 (nI (gT σ))) 5 (nI (gT σ))) 6 4) 8 (gC σ))) ((s2_k _ _ _ _).trans (congrArg (fun f => upd f 8 (gC σ)) ((s2_k _ _ _ _).trans (congrArg (fun f => upd f 6 4) ((s2_k _ _ _ _).trans (congrArg (fun f => upd f 5 (nI (gT σ))) (s2_k _ _ _ _))))))) (sm_obj _ _) rfl 4 (by decide) gw_943 (v := .int (nI (gT σ))) rfl dX9_go_168 ?_
                  refine lv_iconst (v := 1) hx hb dX9_go_171 (by decide) ?_
                  refine lv_iadd hx hb dX9_go_172 ?_
                  refine fputx (ref := "") (w := (nI (gT σ)) + 1) hx hb ht inG9 tyX9 tyX9_ok nmX9 hown hK hP hI hS (k := 0) (by decide) (sm_obj _ _) rfl 4 (by decide) gw_943 rfl rfl rfl (Nat.le_of_ble_eq_true rfl) (sm_obj _ _) dX9_go_173 (fun H locs hP hS => ?_)
                  exact ret_v hx hb hr hlk hP hS dX9_go_176 (⟨rfl, by simp only [goM, gB, gO, gS, c1, c2, c4, c7, c9, c10, (eq_true c11), ↓reduceIte, Bool.false_eq_true], by simp only [goT, gX, c1, c2, c4, c7, c9, c10, (eq_true c11), ↓reduceIte, Bool.false_eq_true]⟩)
      · have dc2 := c2
        rw [i_lt] at dc2
        refine lv_aload_n hx hb dX9_go_104 rfl (lv_at hl 0 rfl) ?_
        refine lv_iconst (v := 0) hx hb dX9_go_105 (by decide) ?_
        refine fputx (ref := "") (w := 0) hx hb ht inG9 tyX9 tyX9_ok nmX9 hown hK hP hI hS (k := 0) (by decide) (sm_obj _ _) rfl 6 (by decide) gw_945 rfl rfl rfl (Nat.le_of_ble_eq_true rfl) (sm_obj _ _) dX9_go_106 (fun H locs hP hS => ?_)
        exact ret_v hx hb hr hlk hP hS dX9_go_109 (⟨rfl, by simp only [goM, gB, gO, gS, c1, c2, ↓reduceIte, Bool.false_eq_true], by simp only [goT, gX, c1, c2, ↓reduceIte, Bool.false_eq_true]⟩)
    · have dc1 := c1
      rw [i_le] at dc1
      refine lv_aload_n hx hb dX9_go_70 rfl (lv_at hl 0 rfl) ?_
      refine fgetx hx hb ht inG9 hown hK hP (k := 0) (by decide) (x := (upd (upd (σ 0) 4 (nI (gT σ))) 5 (nI (gT σ)))) ((s2_k _ _ _ _).trans (congrArg (fun f => upd f 5 (nI (gT σ))) (s2_k _ _ _ _))) (sm_obj _ _) rfl 5 (by decide) gw_944 (v := .int (nI (gT σ))) rfl dX9_go_71 ?_
      refine lv_sipush (v := 700) hx hb dX9_go_74 (by decide) ?_
      refine lv_icmp_lt (tgt := 93) hx hb dX9_go_77 (by decide) (fun c12 => ?_) (fun c12 => ?_)
      · have dc12 := c12
        rw [i_lt] at dc12
        refine lv_aload_n hx hb dX9_go_93 rfl (lv_at hl 0 rfl) ?_
        refine fgetx hx hb ht inG9 hown hK hP (k := 0) (by decide) (x := (upd (upd (σ 0) 4 (nI (gT σ))) 5 (nI (gT σ)))) ((s2_k _ _ _ _).trans (congrArg (fun f => upd f 5 (nI (gT σ))) (s2_k _ _ _ _))) (sm_obj _ _) rfl 4 (by decide) gw_943 (v := .int (nI (gT σ))) rfl dX9_go_94 ?_
        refine lv_aload_n hx hb dX9_go_97 rfl (lv_at hl 0 rfl) ?_
        refine fgetx hx hb ht inG9 hown hK hP (k := 0) (by decide) (x := (upd (upd (σ 0) 4 (nI (gT σ))) 5 (nI (gT σ)))) ((s2_k _ _ _ _).trans (congrArg (fun f => upd f 5 (nI (gT σ))) (s2_k _ _ _ _))) (sm_obj _ _) rfl 3 (by decide) gw_942 (v := .int ((σ 0) 3)) rfl dX9_go_98 ?_
        refine lv_icmp_lt (tgt := 110) hx hb dX9_go_101 (by decide) (fun c13 => ?_) (fun c13 => ?_)
        · have dc13 := c13
          rw [i_lt] at dc13
          refine lv_aload_n hx hb dX9_go_110 rfl (lv_at hl 0 rfl) ?_
          refine fgetx hx hb ht inG9 hown hK hP (k := 0) (by decide) (x := (upd (upd (σ 0) 4 (nI (gT σ))) 5 (nI (gT σ)))) ((s2_k _ _ _ _).trans (congrArg (fun f => upd f 5 (nI (gT σ))) (s2_k _ _ _ _))) (sm_obj _ _) rfl 1 (by decide) gw_940 (v := .ref (ad 1)) rfl dX9_go_111 ?_
          refine lv_aload_n hx hb dX9_go_114 rfl (lv_at hl 0 rfl) ?_
          refine fgetx hx hb ht inG9 hown hK hP (k := 0) (by decide) (x := (upd (upd (σ 0) 4 (nI (gT σ))) 5 (nI (gT σ)))) ((s2_k _ _ _ _).trans (congrArg (fun f => upd f 5 (nI (gT σ))) (s2_k _ _ _ _))) (sm_obj _ _) rfl 4 (by decide) gw_943 (v := .int (nI (gT σ))) rfl dX9_go_115 ?_
          refine aldj hx hb hK hP (k := 1) (by decide) (x := (σ 1)) ((s2_nk _ _ _ (by omega)).trans (s2_nk _ _ _ (by omega))) 0 (sm_tape _ _) rfl (vp_in_nI (by omega) (by decide)) (j := (nI (gT σ)).toNatClampNeg) rfl dX9_go_118 ?_
          refine stk_i (v := (gC σ)) (by rw [gC, nI_clamp (by omega)]) ?_
          refine lv_istore_n (lv' := [(1, .int (gC σ)), (0, .ref (ad 0))]) hx hb dX9_go_119 rfl hl (by decide) rfl (fun ls hl => ?_)
          refine lv_iload_n hx hb dX9_go_120 rfl (lv_at hl 0 rfl) ?_
          refine calls (y := yX9_isLetter) ⟨hx, hb, hml, hown, ht⟩ hK hN hP hS (c_X9_isLetter l D ca ad hI (s2 (s2 σ 0 4 (nI (gT σ))) 0 5 (nI (gT σ))) τ (gC σ)) ok_X9_isLetter gw_1000 ⟨by decide, by decide⟩ rfl hl.1 rfl (Nat.le_of_ble_eq_true rfl) ⟨by decide, by decide⟩ dX9_go_121 (fun v_ S_ T_ H locs hp14 hP hS => ?_)
          obtain ⟨rfl, rfl, rfl⟩ := hp14
          try dsimp only [Option.toList, List.cons_append, List.nil_append]
          refine br_ne (tgt := 177) hx hb dX9_go_124 (by decide) (fun c15 => ?_) (fun c15 => ?_)
          · refine lv_iload_n hx hb dX9_go_177 rfl (lv_at hl 0 rfl) ?_
            refine calls (y := yX9_isLetter) ⟨hx, hb, hml, hown, ht⟩ hK hN hP hS (c_X9_isLetter l D ca ad hI (s2 (s2 σ 0 4 (nI (gT σ))) 0 5 (nI (gT σ))) τ (gC σ)) ok_X9_isLetter gw_1000 ⟨by decide, by decide⟩ rfl hl.1 rfl (Nat.le_of_ble_eq_true rfl) ⟨by decide, by decide⟩ dX9_go_178 (fun v_ S_ T_ H locs hp16 hP hS => ?_)
            obtain ⟨rfl, rfl, rfl⟩ := hp16
            try dsimp only [Option.toList, List.cons_append, List.nil_append]
            refine lv_istore_n (lv' := [(2, .int (b2i (mLet (gC σ)))), (1, .int (gC σ)), (0, .ref (ad 0))]) hx hb dX9_go_181 rfl hl (by decide) rfl (fun ls hl => ?_)
            refine lv_iconst (v := 1) hx hb dX9_go_182 (by decide) ?_
            refine lv_istore_n (lv' := [(3, .int 1), (2, .int (b2i (mLet (gC σ)))), (1, .int (gC σ)), (0, .ref (ad 0))]) hx hb dX9_go_183 rfl hl (by decide) rfl (fun ls hl => ?_)
            refine lv_aload_n hx hb dX9_go_184 rfl (lv_at hl 3 rfl) ?_
            refine lv_lconst (v := 0) hx hb dX9_go_185 (by decide) ?_
            refine fputy (ref := "") (w := 0) hx hb ht inG9 tyX9 tyX9_ok nmX9 hown hK hP hI hS (k := 0) (by decide) (sm_obj _ _) rfl 11 (by decide) gw_950 rfl rfl rfl (Nat.le_of_ble_eq_true rfl) (sm_obj _ _) dX9_go_186 (fun H locs hP hS => ?_)
            refine lv_aload_n hx hb dX9_go_189 rfl (lv_at hl 3 rfl) ?_
            refine lv_iconst (v := 0) hx hb dX9_go_190 (by decide) ?_
            refine fputx (ref := "") (w := 0) hx hb ht inG9 tyX9 tyX9_ok nmX9 hown hK hP hI hS (k := 0) (by decide) (sm_obj _ _) rfl 7 (by decide) gw_946 rfl rfl rfl (Nat.le_of_ble_eq_true rfl) (sm_obj _ _) dX9_go_191 (fun H locs hP hS => ?_)
            have hg1 : gT σ < N := by omega
            have hgx : gX σ = true := by simp only [gX, c1, c12, c13, c15, ↓reduceIte, Bool.false_eq_true]
            have hgm : goM σ = s2 (s2 (s2 (gO σ) 0 7 (gK σ).2.2.2) 0 4 (nI (gK σ).1)) 0 6 (tkS (gT σ) (mLet (gC σ)) (gK σ)) := by simp only [goM, gB, c1, c12, c13, c15, ↓reduceIte, Bool.false_eq_true]
            rw [gw74z (b := nI (gT σ)) _ _ (by rw [s2_nj _ _ _ (by decide), s2_eq])] at hP
            exact lp_X9_go2 hI hT hx hb hr ht hown hlk hml hK hN (N - gT σ + 1) (N - gT σ) (gT σ) (by omega) true 0 0 (by rw [gK, h3, nI_clamp (by omega)]) N h3 hN7 (by omega) hg1 hgx hgm _ _ hP hS ls (lv_sub hl [0, 1, 3] rfl)
          · refine lv_iload_n hx hb dX9_go_127 rfl (lv_at hl 0 rfl) ?_
            refine calls (y := yX9_isDigit) ⟨hx, hb, hml, hown, ht⟩ hK hN hP hS (c_X9_isDigit l D ca ad hI (s2 (s2 σ 0 4 (nI (gT σ))) 0 5 (nI (gT σ))) τ (gC σ)) ok_X9_isDigit gw_1003 ⟨by decide, by decide⟩ rfl hl.1 rfl (Nat.le_of_ble_eq_true rfl) ⟨by decide, by decide⟩ dX9_go_128 (fun v_ S_ T_ H locs hp17 hP hS => ?_)
            obtain ⟨rfl, rfl, rfl⟩ := hp17
            try dsimp only [Option.toList, List.cons_append, List.nil_append]
            refine br_ne (tgt := 177) hx hb dX9_go_131 (by decide) (fun c18 => ?_) (fun c18 => ?_)
            · refine lv_iload_n hx hb dX9_go_177 rfl (lv_at hl 0 rfl) ?_
              refine calls (y := yX9_isLetter) ⟨hx, hb, hml, hown, ht⟩ hK hN hP hS (c_X9_isLetter l D ca ad hI (s2 (s2 σ 0 4 (nI (gT σ))) 0 5 (nI (gT σ))) τ (gC σ)) ok_X9_isLetter gw_1000 ⟨by decide, by decide⟩ rfl hl.1 rfl (Nat.le_of_ble_eq_true rfl) ⟨by decide, by decide⟩ dX9_go_178 (fun v_ S_ T_ H locs hp19 hP hS => ?_)
              obtain ⟨rfl, rfl, rfl⟩ := hp19
              try dsimp only [Option.toList, List.cons_append, List.nil_append]
              refine lv_istore_n (lv' := [(2, .int (b2i (mLet (gC σ)))), (1, .int (gC σ)), (0, .ref (ad 0))]) hx hb dX9_go_181 rfl hl (by decide) rfl (fun ls hl => ?_)
              refine lv_iconst (v := 1) hx hb dX9_go_182 (by decide) ?_
              refine lv_istore_n (lv' := [(3, .int 1), (2, .int (b2i (mLet (gC σ)))), (1, .int (gC σ)), (0, .ref (ad 0))]) hx hb dX9_go_183 rfl hl (by decide) rfl (fun ls hl => ?_)
              refine lv_aload_n hx hb dX9_go_184 rfl (lv_at hl 3 rfl) ?_
              refine lv_lconst (v := 0) hx hb dX9_go_185 (by decide) ?_
              refine fputy (ref := "") (w := 0) hx hb ht inG9 tyX9 tyX9_ok nmX9 hown hK hP hI hS (k := 0) (by decide) (sm_obj _ _) rfl 11 (by decide) gw_950 rfl rfl rfl (Nat.le_of_ble_eq_true rfl) (sm_obj _ _) dX9_go_186 (fun H locs hP hS => ?_)
              refine lv_aload_n hx hb dX9_go_189 rfl (lv_at hl 3 rfl) ?_
              refine lv_iconst (v := 0) hx hb dX9_go_190 (by decide) ?_
              refine fputx (ref := "") (w := 0) hx hb ht inG9 tyX9 tyX9_ok nmX9 hown hK hP hI hS (k := 0) (by decide) (sm_obj _ _) rfl 7 (by decide) gw_946 rfl rfl rfl (Nat.le_of_ble_eq_true rfl) (sm_obj _ _) dX9_go_191 (fun H locs hP hS => ?_)
              have hg1 : gT σ < N := by omega
              have hgx : gX σ = true := by simp only [gX, c1, c12, c13, c15, c18, ↓reduceIte, Bool.false_eq_true]
              have hgm : goM σ = s2 (s2 (s2 (gO σ) 0 7 (gK σ).2.2.2) 0 4 (nI (gK σ).1)) 0 6 (tkS (gT σ) (mLet (gC σ)) (gK σ)) := by simp only [goM, gB, c1, c12, c13, c15, c18, ↓reduceIte, Bool.false_eq_true]
              rw [gw74z (b := nI (gT σ)) _ _ (by rw [s2_nj _ _ _ (by decide), s2_eq])] at hP
              exact lp_X9_go2 hI hT hx hb hr ht hown hlk hml hK hN (N - gT σ + 1) (N - gT σ) (gT σ) (by omega) true 0 0 (by rw [gK, h3, nI_clamp (by omega)]) N h3 hN7 (by omega) hg1 hgx hgm _ _ hP hS ls (lv_sub hl [0, 1, 3] rfl)
            · refine lv_aload_n hx hb dX9_go_134 rfl (lv_at hl 1 rfl) ?_
              refine lv_iload_n hx hb dX9_go_135 rfl (lv_at hl 0 rfl) ?_
              refine lv_bipush (v := 59) hx hb dX9_go_136 (by decide) ?_
              refine lv_icmp_eq (tgt := 153) hx hb dX9_go_138 (by decide) (fun c20 => ?_) (fun c20 => ?_)
              · have dc20 := c20
                rw [i_eq] at dc20
                refine lv_iconst (v := 4) hx hb dX9_go_153 (by decide) ?_
                refine lv_goto (tgt := 158) hx hb dX9_go_154 (by decide) ?_
                refine fputx (ref := "") (w := 4) hx hb ht inG9 tyX9 tyX9_ok nmX9 hown hK hP hI hS (k := 0) (by decide) (sm_obj _ _) rfl 6 (by decide) gw_945 rfl rfl rfl (Nat.le_of_ble_eq_true rfl) (sm_obj _ _) dX9_go_158 (fun H locs hP hS => ?_)
                refine lv_aload_n hx hb dX9_go_161 rfl (lv_at hl 1 rfl) ?_
                refine lv_iload_n hx hb dX9_go_162 rfl (lv_at hl 0 rfl) ?_
                refine fputx (ref := "") (w := (gC σ)) hx hb ht inG9 tyX9 tyX9_ok nmX9 hown hK hP hI hS (k := 0) (by decide) (sm_obj _ _) rfl 8 (by decide) gw_947 rfl rfl rfl (Nat.le_of_ble_eq_true rfl) (sm_obj _ _) dX9_go_163 (fun H locs hP hS => ?_)
                refine lv_aload_n hx hb dX9_go_166 rfl (lv_at hl 1 rfl) ?_
                refine lv_dup hx hb dX9_go_167 rfl ?_
                refine fgetx hx hb ht inG9 hown hK hP (k := 0) (by decide) (x := (upd (upd (upd (upd (σ 0) 4 (nI (gT σ))) 5 (nI (gT σ))) 6 4) 8 (gC σ))) ((s2_k _ _ _ _).trans (congrArg (fun f => upd f 8 (gC σ)) ((s2_k _ _ _ _).trans (congrArg (fun f => upd f 6 4) ((s2_k _ _ _ _).trans (congrArg (fun f => upd f 5 (nI (gT σ))) (s2_k _ _ _ _))))))) (sm_obj _ _) rfl 4 (by decide) gw_943 (v := .int (nI (gT σ))) rfl dX9_go_168 ?_
                refine lv_iconst (v := 1) hx hb dX9_go_171 (by decide) ?_
                refine lv_iadd hx hb dX9_go_172 ?_
                refine fputx (ref := "") (w := (nI (gT σ)) + 1) hx hb ht inG9 tyX9 tyX9_ok nmX9 hown hK hP hI hS (k := 0) (by decide) (sm_obj _ _) rfl 4 (by decide) gw_943 rfl rfl rfl (Nat.le_of_ble_eq_true rfl) (sm_obj _ _) dX9_go_173 (fun H locs hP hS => ?_)
                exact ret_v hx hb hr hlk hP hS dX9_go_176 (⟨rfl, by simp only [goM, gB, gO, gS, c1, c12, c13, c15, c18, (eq_true c20), ↓reduceIte, Bool.false_eq_true], by simp only [goT, gX, c1, c12, c13, c15, c18, (eq_true c20), ↓reduceIte, Bool.false_eq_true]⟩)
              · have dc20 := c20
                rw [i_eq] at dc20
                refine lv_iload_n hx hb dX9_go_141 rfl (lv_at hl 0 rfl) ?_
                refine lv_bipush (v := 61) hx hb dX9_go_142 (by decide) ?_
                refine lv_icmp_eq (tgt := 153) hx hb dX9_go_144 (by decide) (fun c21 => ?_) (fun c21 => ?_)
                · have dc21 := c21
                  rw [i_eq] at dc21
                  refine lv_iconst (v := 4) hx hb dX9_go_153 (by decide) ?_
                  refine lv_goto (tgt := 158) hx hb dX9_go_154 (by decide) ?_
                  refine fputx (ref := "") (w := 4) hx hb ht inG9 tyX9 tyX9_ok nmX9 hown hK hP hI hS (k := 0) (by decide) (sm_obj _ _) rfl 6 (by decide) gw_945 rfl rfl rfl (Nat.le_of_ble_eq_true rfl) (sm_obj _ _) dX9_go_158 (fun H locs hP hS => ?_)
                  refine lv_aload_n hx hb dX9_go_161 rfl (lv_at hl 1 rfl) ?_
                  refine lv_iload_n hx hb dX9_go_162 rfl (lv_at hl 0 rfl) ?_
                  refine fputx (ref := "") (w := (gC σ)) hx hb ht inG9 tyX9 tyX9_ok nmX9 hown hK hP hI hS (k := 0) (by decide) (sm_obj _ _) rfl 8 (by decide) gw_947 rfl rfl rfl (Nat.le_of_ble_eq_true rfl) (sm_obj _ _) dX9_go_163 (fun H locs hP hS => ?_)
                  refine lv_aload_n hx hb dX9_go_166 rfl (lv_at hl 1 rfl) ?_
                  refine lv_dup hx hb dX9_go_167 rfl ?_
                  refine fgetx hx hb ht inG9 hown hK hP (k := 0) (by decide) (x := (upd (upd (upd (upd (σ 0) 4 (nI (gT σ))) 5 (nI (gT σ))) 6 4) 8 (gC σ))) ((s2_k _ _ _ _).trans (congrArg (fun f => upd f 8 (gC σ)) ((s2_k _ _ _ _).trans (congrArg (fun f => upd f 6 4) ((s2_k _ _ _ _).trans (congrArg (fun f => upd f 5 (nI (gT σ))) (s2_k _ _ _ _))))))) (sm_obj _ _) rfl 4 (by decide) gw_943 (v := .int (nI (gT σ))) rfl dX9_go_168 ?_
                  refine lv_iconst (v := 1) hx hb dX9_go_171 (by decide) ?_
                  refine lv_iadd hx hb dX9_go_172 ?_
                  refine fputx (ref := "") (w := (nI (gT σ)) + 1) hx hb ht inG9 tyX9 tyX9_ok nmX9 hown hK hP hI hS (k := 0) (by decide) (sm_obj _ _) rfl 4 (by decide) gw_943 rfl rfl rfl (Nat.le_of_ble_eq_true rfl) (sm_obj _ _) dX9_go_173 (fun H locs hP hS => ?_)
                  exact ret_v hx hb hr hlk hP hS dX9_go_176 (⟨rfl, by simp only [goM, gB, gO, gS, c1, c12, c13, c15, c18, c20, (eq_true c21), ↓reduceIte, Bool.false_eq_true], by simp only [goT, gX, c1, c12, c13, c15, c18, c20, (eq_true c21), ↓reduceIte, Bool.false_eq_true]⟩)
                · have dc21 := c21
                  rw [i_eq] at dc21
                  refine lv_iload_n hx hb dX9_go_147 rfl (lv_at hl 0 rfl) ?_
                  refine lv_bipush (v := 43) hx hb dX9_go_148 (by decide) ?_
                  refine lv_icmp_ne (tgt := 157) hx hb dX9_go_150 (by decide) (fun c22 => ?_) (fun c22 => ?_)
                  · have dc22 := c22
                    rw [i_eq] at dc22
                    refine lv_iconst (v := 1) hx hb dX9_go_157 (by decide) ?_
                    refine fputx (ref := "") (w := 1) hx hb ht inG9 tyX9 tyX9_ok nmX9 hown hK hP hI hS (k := 0) (by decide) (sm_obj _ _) rfl 6 (by decide) gw_945 rfl rfl rfl (Nat.le_of_ble_eq_true rfl) (sm_obj _ _) dX9_go_158 (fun H locs hP hS => ?_)
                    refine lv_aload_n hx hb dX9_go_161 rfl (lv_at hl 1 rfl) ?_
                    refine lv_iload_n hx hb dX9_go_162 rfl (lv_at hl 0 rfl) ?_
                    refine fputx (ref := "") (w := (gC σ)) hx hb ht inG9 tyX9 tyX9_ok nmX9 hown hK hP hI hS (k := 0) (by decide) (sm_obj _ _) rfl 8 (by decide) gw_947 rfl rfl rfl (Nat.le_of_ble_eq_true rfl) (sm_obj _ _) dX9_go_163 (fun H locs hP hS => ?_)
                    refine lv_aload_n hx hb dX9_go_166 rfl (lv_at hl 1 rfl) ?_
                    refine lv_dup hx hb dX9_go_167 rfl ?_
                    refine fgetx hx hb ht inG9 hown hK hP (k := 0) (by decide) (x := (upd (upd (upd (upd (σ 0) 4 (nI (gT σ))) 5 (nI (gT σ))) 6 1) 8 (gC σ))) ((s2_k _ _ _ _).trans (congrArg (fun f => upd f 8 (gC σ)) ((s2_k _ _ _ _).trans (congrArg (fun f => upd f 6 1) ((s2_k _ _ _ _).trans (congrArg (fun f => upd f 5 (nI (gT σ))) (s2_k _ _ _ _))))))) (sm_obj _ _) rfl 4 (by decide) gw_943 (v := .int (nI (gT σ))) rfl dX9_go_168 ?_
                    refine lv_iconst (v := 1) hx hb dX9_go_171 (by decide) ?_
                    refine lv_iadd hx hb dX9_go_172 ?_
                    refine fputx (ref := "") (w := (nI (gT σ)) + 1) hx hb ht inG9 tyX9 tyX9_ok nmX9 hown hK hP hI hS (k := 0) (by decide) (sm_obj _ _) rfl 4 (by decide) gw_943 rfl rfl rfl (Nat.le_of_ble_eq_true rfl) (sm_obj _ _) dX9_go_173 (fun H locs hP hS => ?_)
                    exact ret_v hx hb hr hlk hP hS dX9_go_176 (⟨rfl, by simp only [goM, gB, gO, gS, c1, c12, c13, c15, c18, c20, c21, c22, ↓reduceIte, Bool.false_eq_true], by simp only [goT, gX, c1, c12, c13, c15, c18, c20, c21, c22, ↓reduceIte, Bool.false_eq_true]⟩)
                  · have dc22 := c22
                    rw [i_eq] at dc22
                    refine lv_iconst (v := 4) hx hb dX9_go_153 (by decide) ?_
                    refine lv_goto (tgt := 158) hx hb dX9_go_154 (by decide) ?_
                    refine fputx (ref := "") (w := 4) hx hb ht inG9 tyX9 tyX9_ok nmX9 hown hK hP hI hS (k := 0) (by decide) (sm_obj _ _) rfl 6 (by decide) gw_945 rfl rfl rfl (Nat.le_of_ble_eq_true rfl) (sm_obj _ _) dX9_go_158 (fun H locs hP hS => ?_)
                    refine lv_aload_n hx hb dX9_go_161 rfl (lv_at hl 1 rfl) ?_
                    refine lv_iload_n hx hb dX9_go_162 rfl (lv_at hl 0 rfl) ?_
                    refine fputx (ref := "") (w := (gC σ)) hx hb ht inG9 tyX9 tyX9_ok nmX9 hown hK hP hI hS (k := 0) (by decide) (sm_obj _ _) rfl 8 (by decide) gw_947 rfl rfl rfl (Nat.le_of_ble_eq_true rfl) (sm_obj _ _) dX9_go_163 (fun H locs hP hS => ?_)
                    refine lv_aload_n hx hb dX9_go_166 rfl (lv_at hl 1 rfl) ?_
                    refine lv_dup hx hb dX9_go_167 rfl ?_
                    refine fgetx hx hb ht inG9 hown hK hP (k := 0) (by decide) (x := (upd (upd (upd (upd (σ 0) 4 (nI (gT σ))) 5 (nI (gT σ))) 6 4) 8 (gC σ))) ((s2_k _ _ _ _).trans (congrArg (fun f => upd f 8 (gC σ)) ((s2_k _ _ _ _).trans (congrArg (fun f => upd f 6 4) ((s2_k _ _ _ _).trans (congrArg (fun f => upd f 5 (nI (gT σ))) (s2_k _ _ _ _))))))) (sm_obj _ _) rfl 4 (by decide) gw_943 (v := .int (nI (gT σ))) rfl dX9_go_168 ?_
                    refine lv_iconst (v := 1) hx hb dX9_go_171 (by decide) ?_
                    refine lv_iadd hx hb dX9_go_172 ?_
                    refine fputx (ref := "") (w := (nI (gT σ)) + 1) hx hb ht inG9 tyX9 tyX9_ok nmX9 hown hK hP hI hS (k := 0) (by decide) (sm_obj _ _) rfl 4 (by decide) gw_943 rfl rfl rfl (Nat.le_of_ble_eq_true rfl) (sm_obj _ _) dX9_go_173 (fun H locs hP hS => ?_)
                    exact ret_v hx hb hr hlk hP hS dX9_go_176 (⟨rfl, by simp only [goM, gB, gO, gS, c1, c12, c13, c15, c18, c20, c21, (eq_true c22), ↓reduceIte, Bool.false_eq_true], by simp only [goT, gX, c1, c12, c13, c15, c18, c20, c21, (eq_true c22), ↓reduceIte, Bool.false_eq_true]⟩)
        · have dc13 := c13
          rw [i_lt] at dc13
          refine lv_aload_n hx hb dX9_go_104 rfl (lv_at hl 0 rfl) ?_
          refine lv_iconst (v := 0) hx hb dX9_go_105 (by decide) ?_
          refine fputx (ref := "") (w := 0) hx hb ht inG9 tyX9 tyX9_ok nmX9 hown hK hP hI hS (k := 0) (by decide) (sm_obj _ _) rfl 6 (by decide) gw_945 rfl rfl rfl (Nat.le_of_ble_eq_true rfl) (sm_obj _ _) dX9_go_106 (fun H locs hP hS => ?_)
          exact ret_v hx hb hr hlk hP hS dX9_go_109 (⟨rfl, by simp only [goM, gB, gO, gS, c1, c12, c13, ↓reduceIte, Bool.false_eq_true], by simp only [goT, gX, c1, c12, c13, ↓reduceIte, Bool.false_eq_true]⟩)
      · have dc12 := c12
        rw [i_lt] at dc12
        refine lv_aload_n hx hb dX9_go_80 rfl (lv_at hl 0 rfl) ?_
        refine lv_sipush (v := 700) hx hb dX9_go_81 (by decide) ?_
        refine fputx (ref := "") (w := 700) hx hb ht inG9 tyX9 tyX9_ok nmX9 hown hK hP hI hS (k := 0) (by decide) (sm_obj _ _) rfl 5 (by decide) gw_944 rfl rfl rfl (Nat.le_of_ble_eq_true rfl) (sm_obj _ _) dX9_go_84 (fun H locs hP hS => ?_)
        refine lv_aload_n hx hb dX9_go_87 rfl (lv_at hl 0 rfl) ?_
        refine lv_iconst (v := 1) hx hb dX9_go_88 (by decide) ?_
        refine fputx (ref := "") (w := 1) hx hb ht inG9 tyX9 tyX9_ok nmX9 hown hK hP hI hS (k := 0) (by decide) (sm_obj _ _) rfl 6 (by decide) gw_945 rfl rfl rfl (Nat.le_of_ble_eq_true rfl) (sm_obj _ _) dX9_go_89 (fun H locs hP hS => ?_)
        exact ret_v hx hb hr hlk hP hS dX9_go_92 (⟨rfl, by simp only [goM, gB, gO, gS, c1, c12, ↓reduceIte, Bool.false_eq_true], by simp only [goT, gX, c1, c12, ↓reduceIte, Bool.false_eq_true]⟩)
set_option maxHeartbeats 4000000 in
set_option maxRecDepth 100000 in
theorem lp_X9_go0 {l : Launch} {D : va_G} {ca : Nat → ClassId} {ad : Nat → Nat} (hI : Inj 6 ad) {σ : MI} {τ : ML} (hT : TI σ) {p : Program} {e : Env} {s : State} {m : MethodId} {args : Array Value} {below : List Frame} {meth : Method} {c : Code} (hx : p.tables.exec = Jvm.exec) (hb : c.code = cX9_go) (hr : meth.sig.returnType = none) (ht : ∀ w ∈ GG, w.before args s = true) (hown : s.vm.findClass yX9_go.cls = some m.cls) (hlk : meth.locks = false) (hml : c.maxLocals = 5) (hK : va_K D vwCl (TY ca) s) (hN : NW s) : ∀ (n : Nat) (t r : Nat) (hn : r < n) (hR : skp (σ 1) r t = gT σ) (N : Nat) (h3 : σ 0 3 = nI N) (hN7 : N ≤ 740) (hrt : t + r = N) (H : Heap) (locs : List Loc) (hP : PW D 6 ad (mxf ca ad) (s2 σ 0 4 (nI t)) τ H) (hS : va_S (AA 6 ad) s.heap H locs) (ls : Array Slot) (hl : lv_has ls 5 [(0, .ref (ad 0))]), W p l e { frames := 1, cells := 0, slots := 0, locals := 21 } s m args below meth c H locs 0 0 (MQ below (QD D 6 ad (mxf ca ad) (fun v_ S_ T_ => none = v_ ∧ (goM σ) = S_ ∧ (goT σ τ) = T_)) args s 0 0 (AA 6 ad)) (F0 m 0 ls []) := by
  intro n
  induction n with
  | zero => intro t r hn hR N h3 hN7 hrt H locs hP hS ls hl; exfalso; omega
  | succ n ih =>
    intro t r hn hR N h3 hN7 hrt H locs hP hS ls hl
    have ek : (nI t).toInt = t := nI_toInt (by omega)
    have e3 : (σ 0 3).toInt = N := by rw [h3, nI_toInt (by omega)]
    refine lv_aload_n hx hb dX9_go_0 rfl (lv_at hl 0 rfl) ?_
    refine fgetx hx hb ht inG9 hown hK hP (k := 0) (by decide) (x := (upd (σ 0) 4 (nI t))) (s2_k _ _ _ _) (sm_obj _ _) rfl 4 (by decide) gw_943 (v := .int (nI t)) rfl dX9_go_1 ?_
    refine lv_aload_n hx hb dX9_go_4 rfl (lv_at hl 0 rfl) ?_
    refine fgetx hx hb ht inG9 hown hK hP (k := 0) (by decide) (x := (upd (σ 0) 4 (nI t))) (s2_k _ _ _ _) (sm_obj _ _) rfl 3 (by decide) gw_942 (v := .int ((σ 0) 3)) rfl dX9_go_5 ?_
    refine lv_icmp_ge (tgt := 52) hx hb dX9_go_8 (by decide) (fun c1 => ?_) (fun c1 => ?_)
    · have dc1 := c1
      rw [i_le] at dc1
      obtain rfl : r = 0 := by omega
      have e9 : t = gT σ := hR
      rw [e9] at hP
      exact lp_X9_go1 hI hT hx hb hr ht hown hlk hml hK hN 1 (by omega) N h3 hN7 (by omega) _ _ hP hS ls hl
    · have dc1 := c1
      rw [i_le] at dc1
      obtain ⟨r', rfl⟩ : ∃ r', r = r' + 1 := ⟨r - 1, by omega⟩
      refine lv_aload_n hx hb dX9_go_11 rfl (lv_at hl 0 rfl) ?_
      refine fgetx hx hb ht inG9 hown hK hP (k := 0) (by decide) (x := (upd (σ 0) 4 (nI t))) (s2_k _ _ _ _) (sm_obj _ _) rfl 1 (by decide) gw_940 (v := .ref (ad 1)) rfl dX9_go_12 ?_
      refine lv_aload_n hx hb dX9_go_15 rfl (lv_at hl 0 rfl) ?_
      refine fgetx hx hb ht inG9 hown hK hP (k := 0) (by decide) (x := (upd (σ 0) 4 (nI t))) (s2_k _ _ _ _) (sm_obj _ _) rfl 4 (by decide) gw_943 (v := .int (nI t)) rfl dX9_go_16 ?_
      refine aldj hx hb hK hP (k := 1) (by decide) (x := (σ 1)) (s2_nk _ _ _ (by omega)) 0 (sm_tape _ _) rfl (vp_in_nI (by omega) (by decide)) (j := t) (nI_clamp (by omega)) dX9_go_19 ?_
      refine lv_bipush (v := 32) hx hb dX9_go_20 (by decide) ?_
      refine lv_icmp_eq (tgt := 39) hx hb dX9_go_22 (by decide) (fun c2 => ?_) (fun c2 => ?_)
      · have dc2 := c2
        rw [i_eq] at dc2
        refine lv_aload_n hx hb dX9_go_39 rfl (lv_at hl 0 rfl) ?_
        refine lv_dup hx hb dX9_go_40 rfl ?_
        refine fgetx hx hb ht inG9 hown hK hP (k := 0) (by decide) (x := (upd (σ 0) 4 (nI t))) (s2_k _ _ _ _) (sm_obj _ _) rfl 4 (by decide) gw_943 (v := .int (nI t)) rfl dX9_go_41 ?_
        refine lv_iconst (v := 1) hx hb dX9_go_44 (by decide) ?_
        refine lv_iadd hx hb dX9_go_45 ?_
        refine fputx (ref := "") (w := (nI t) + 1) hx hb ht inG9 tyX9 tyX9_ok nmX9 hown hK hP hI hS (k := 0) (by decide) (sm_obj _ _) rfl 4 (by decide) gw_943 rfl rfl rfl (Nat.le_of_ble_eq_true rfl) (sm_obj _ _) dX9_go_46 (fun H locs hP hS => ?_)
        refine lv_goto (tgt := 0) hx hb dX9_go_49 (by decide) ?_
        rw [s2_s2, nI_1] at hP
        exact ih (t + 1) r' (by omega) (by rw [← hR]; simp only [skp, (eq_true c2), ↓reduceIte]) N h3 hN7 (by omega) _ _ hP hS ls hl
      · have dc2 := c2
        rw [i_eq] at dc2
        refine lv_aload_n hx hb dX9_go_25 rfl (lv_at hl 0 rfl) ?_
        refine fgetx hx hb ht inG9 hown hK hP (k := 0) (by decide) (x := (upd (σ 0) 4 (nI t))) (s2_k _ _ _ _) (sm_obj _ _) rfl 1 (by decide) gw_940 (v := .ref (ad 1)) rfl dX9_go_26 ?_
        refine lv_aload_n hx hb dX9_go_29 rfl (lv_at hl 0 rfl) ?_
        refine fgetx hx hb ht inG9 hown hK hP (k := 0) (by decide) (x := (upd (σ 0) 4 (nI t))) (s2_k _ _ _ _) (sm_obj _ _) rfl 4 (by decide) gw_943 (v := .int (nI t)) rfl dX9_go_30 ?_
        refine aldj hx hb hK hP (k := 1) (by decide) (x := (σ 1)) (s2_nk _ _ _ (by omega)) 0 (sm_tape _ _) rfl (vp_in_nI (by omega) (by decide)) (j := t) (nI_clamp (by omega)) dX9_go_33 ?_
        refine lv_bipush (v := 10) hx hb dX9_go_34 (by decide) ?_
        refine lv_icmp_ne (tgt := 52) hx hb dX9_go_36 (by decide) (fun c3 => ?_) (fun c3 => ?_)
        · have dc3 := c3
          rw [i_eq] at dc3
          have e9 : t = gT σ := (by rw [← hR]; simp only [skp, c2, c3, ↓reduceIte])
          rw [e9] at hP
          exact lp_X9_go1 hI hT hx hb hr ht hown hlk hml hK hN 1 (by omega) N h3 hN7 (by omega) _ _ hP hS ls hl
        · have dc3 := c3
          rw [i_eq] at dc3
          refine lv_aload_n hx hb dX9_go_39 rfl (lv_at hl 0 rfl) ?_
          refine lv_dup hx hb dX9_go_40 rfl ?_
          refine fgetx hx hb ht inG9 hown hK hP (k := 0) (by decide) (x := (upd (σ 0) 4 (nI t))) (s2_k _ _ _ _) (sm_obj _ _) rfl 4 (by decide) gw_943 (v := .int (nI t)) rfl dX9_go_41 ?_
          refine lv_iconst (v := 1) hx hb dX9_go_44 (by decide) ?_
          refine lv_iadd hx hb dX9_go_45 ?_
          refine fputx (ref := "") (w := (nI t) + 1) hx hb ht inG9 tyX9 tyX9_ok nmX9 hown hK hP hI hS (k := 0) (by decide) (sm_obj _ _) rfl 4 (by decide) gw_943 rfl rfl rfl (Nat.le_of_ble_eq_true rfl) (sm_obj _ _) dX9_go_46 (fun H locs hP hS => ?_)
          refine lv_goto (tgt := 0) hx hb dX9_go_49 (by decide) ?_
          rw [s2_s2, nI_1] at hP
          exact ih (t + 1) r' (by omega) (by rw [← hR]; simp only [skp, c2, (eq_true c3), ↓reduceIte]) N h3 hN7 (by omega) _ _ hP hS ls hl
set_option maxHeartbeats 4000000 in
set_option maxRecDepth 100000 in
theorem c_X9_go (l : Launch) (D : va_G) (ca : Nat → ClassId) (ad : Nat → Nat) (hI : Inj 6 ad) (σ : MI) (τ : ML) (hT : TI σ) : CT l D (TY ca) 6 ad (mxf ca ad) yX9_go cX9_go 5 none 1 21 [.ref (ad 0)] σ τ (fun v_ S_ T_ => none = v_ ∧ (goM σ) = S_ ∧ (goT σ τ) = T_) := by
  refine CT.of (by decide) (Nat.le_of_ble_eq_true rfl) ?_
  intro p e s m args below meth c hx hb hr ht hown hlk hml hP hK hN hS ls hl
  have hl : lv_has ls 5 [(0, .ref (ad 0))] := hl
  obtain ⟨N, t0, h3, hN7, h4, ht0, -⟩ := id hT
  have hz : s2 σ 0 4 (nI t0) = σ := by rw [← h4, s2_self]
  rw [← hz] at hP
  exact lp_X9_go0 hI hT hx hb hr ht hown hlk hml hK hN (N - t0 + 1) t0 (N - t0) (by omega) (by rw [gT, h3, h4, nI_clamp (by omega), nI_clamp (by omega)]) N h3 hN7 (by omega) _ _ hP hS ls hl
