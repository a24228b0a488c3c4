set_option maxHeartbeats 4000000 in
set_option maxRecDepth 100000 in
theorem lp_X8_rises {l : Launch} {D : va_G} {ca : Nat → ClassId} {ad : Nat → Nat} (hI : Inj 158 ad) {σ : MI} {τ : ML} (q x : Int32) {p : Program} {e : Env} {s : State} {m : MethodId} {args : Array Value} {below : List Frame} {meth : Method} {c : Code} (hx : p.tables.exec = Jvm.exec) (hb : c.code = cX8_rises) (hr : meth.sig.returnType = (some .int)) (ht : ∀ w ∈ GG, w.before args s = true) (hown : s.vm.findClass yX8_rises.cls = some m.cls) (hlk : meth.locks = false) (hml : c.maxLocals = 9) (hK : va_K D vwCl (TY ca) s) (hN : NW s) : ∀ (n : Nat) (r : Nat) (y lo hi : Int32) (hy : y.toInt = 10 - (r : Int)) (hr10 : r ≤ 10) (hn : r < n) (hq : inC q (σ (44 + 57 * bz (σ 0 1)) 2) 6 = true) (hx9 : inC x (σ (44 + 57 * bz (σ 0 1)) 1) 6 = true) (hR0 : risR σ q x = bsS (rsP σ (bz (σ 0 1)) q.toNatClampNeg x.toNatClampNeg) 10 1 999) (hRM : risM σ q x = (pwB σ (bz (σ 0 1)) x.toNatClampNeg 999)) (hR : bsS (rsP σ (bz (σ 0 1)) q.toNatClampNeg x.toNatClampNeg) r lo hi = bsS (rsP σ (bz (σ 0 1)) q.toNatClampNeg x.toNatClampNeg) 10 1 999) (H : Heap) (locs : List Loc) (hP : PW D 158 ad (cxf ca ad) (pwB σ (bz (σ 0 1)) x.toNatClampNeg 999) τ H) (hS : va_S (AA 158 ad) s.heap H locs) (ls : Array Slot) (hl : lv_has ls 9 [(7, .int y), (6, .int hi), (5, .int lo), (4, .ref (ad (47 + 57 * (bz (σ 0 1)) + 6 * x.toNatClampNeg))), (3, .ref (ad (83 + 57 * (bz (σ 0 1)) + 3 * q.toNatClampNeg))), (0, .ref (ad 0)), (1, .int q), (2, .int x)]), W p l e { frames := 6, cells := 0, slots := 0, locals := 142 } s m args below meth c H locs 0 0 (MQ below (QD D 158 ad (cxf ca ad) (fun v_ S_ T_ => some (.int (risR σ q x)) = v_ ∧ (risM σ q x) = S_ ∧ τ = T_)) args s 0 0 (AA 158 ad)) (F0 m 64 ls []) := by
  intro n
  induction n with
  | zero => intro r y lo hi hy hr10 hn hq hx9 hR0 hRM hR H locs hP hS ls hl; exfalso; omega
  | succ n ih =>
    intro r y lo hi hy hr10 hn hq hx9 hR0 hRM hR H locs hP hS ls hl
    have hbz := bz_lt (σ 0 1)
    have hq6 := inC_6 hq
    have hx6 := inC_6 hx9
    have e10 : (10 : Int32).toInt = 10 := rfl
    have e1 : (1 : Int32).toInt = 1 := rfl
    refine lv_iload hx hb dX8_rises_64 (lv_at hl 0 rfl) ?_
    refine lv_bipush (v := 10) hx hb dX8_rises_66 (by decide) ?_
    refine lv_icmp_ge (tgt := 125) hx hb dX8_rises_68 (by decide) (fun c1 => ?_) (fun c1 => ?_)
    · have dc1 := c1
      rw [i_le] at dc1
      obtain rfl : r = 0 := by omega
      refine lv_iload hx hb dX8_rises_125 (lv_at hl 1 rfl) ?_
      exact ret_i hx hb hr hlk hP hS dX8_rises_127 (⟨by rw [hR0, ← hR]; first | rfl | rw [bsS, if_pos c1], hRM, rfl⟩)
    · have dc1 := c1
      rw [i_le] at dc1
      obtain ⟨r', rfl⟩ : ∃ r', r = r' + 1 := ⟨r - 1, by omega⟩
      refine lv_iload hx hb dX8_rises_71 (lv_at hl 2 rfl) ?_
      refine lv_iload hx hb dX8_rises_73 (lv_at hl 1 rfl) ?_
      refine lv_icmp_ge (tgt := 125) hx hb dX8_rises_75 (by decide) (fun c2 => ?_) (fun c2 => ?_)
      · have dc2 := c2
        rw [i_le] at dc2
        refine lv_iload hx hb dX8_rises_125 (lv_at hl 1 rfl) ?_
        exact ret_i hx hb hr hlk hP hS dX8_rises_127 (⟨by rw [hR0, ← hR]; first | rfl | rw [bsS, if_pos c2], hRM, rfl⟩)
      · have dc2 := c2
        rw [i_le] at dc2
        refine lv_iload hx hb dX8_rises_78 (lv_at hl 2 rfl) ?_
        refine lv_iload hx hb dX8_rises_80 (lv_at hl 1 rfl) ?_
        refine lv_iadd hx hb dX8_rises_82 ?_
        refine lv_iconst (v := 2) hx hb dX8_rises_83 (by decide) ?_
        refine lv_idiv hx hb dX8_rises_84 (by decide) ?_
        refine lv_istore (lv' := [(8, .int ((lo + hi) / 2)), (7, .int y), (6, .int hi), (5, .int lo), (4, .ref (ad (47 + 57 * (bz (σ 0 1)) + 6 * x.toNatClampNeg))), (3, .ref (ad (83 + 57 * (bz (σ 0 1)) + 3 * q.toNatClampNeg))), (0, .ref (ad 0)), (1, .int q), (2, .int x)]) hx hb dX8_rises_85 hl (by decide) rfl (fun ls hl => ?_)
        refine lv_aload_n hx hb dX8_rises_87 rfl (lv_at hl 6 rfl) ?_
        refine fgetx hx hb ht inG8 hown hK hP (k := 0) (by decide) (x := (σ 0)) (pwB_ne _ _ (by omega) (by omega)) (sh_desk _ _) rfl 1 (by decide) gw_352 (v := .ref (ad (44 + 57 * (bz ((σ 0) 1))))) rfl dX8_rises_88 ?_
        refine lv_aload_n hx hb dX8_rises_91 rfl (lv_at hl 5 rfl) ?_
        refine lv_aload hx hb dX8_rises_92 (lv_at hl 4 rfl) ?_
        refine lv_iload hx hb dX8_rises_94 (lv_at hl 0 rfl) ?_
        refine callv (y := yX0_priceWere) ⟨hx, hb, hml, hown, ht⟩ hK hN hP hS (k := (44 + 57 * (bz ((σ 0) 1)))) (c_X0_priceWere l D ca ad hI (pwB σ (bz (σ 0 1)) x.toNatClampNeg 999) τ (bz_lt _) (inC_6 hq) (inC_6 hx9) ((lo + hi) / 2)) (by have b0_ : (bz ((σ 0) 1)) < 2 := (bz_lt _); omega) (sh_book _ _ (bz_lt _)) rfl ok_X0_priceWere gw_650 ⟨by decide, by decide⟩ rfl hl.1 rfl (Nat.le_of_ble_eq_true rfl) ⟨by decide, by decide⟩ dX8_rises_96 (fun v_ S_ T_ H locs hp3 hP hS => ?_)
        obtain ⟨rfl, rfl, rfl⟩ := hp3
        try dsimp only [Option.toList, List.cons_append, List.nil_append]
        rw [pwB_pwB] at hP
        rw [pwR_pwB]
        refine lv_aload_n hx hb dX8_rises_99 rfl (lv_at hl 5 rfl) ?_
        refine fgetxN hx hb ht inG1 hown hK hP (k := (83 + 57 * (bz (σ 0 1)) + 3 * q.toNatClampNeg)) (by have b0_ : (bz (σ 0 1)) < 2 := (bz_lt _); have b1_ : q.toNatClampNeg < 6 := (inC_6 hq); omega) (x := (σ (83 + 57 * (bz (σ 0 1)) + 3 * q.toNatClampNeg))) (pwB_ne _ _ (by omega) (by omega)) (sh_cont _ _ (bz_lt _) (inC_6 hq)) rfl 0 (by decide) (hN.get 168 nw_168 rfl) (v := .int ((σ (83 + 57 * (bz (σ 0 1)) + 3 * q.toNatClampNeg)) 0)) rfl dX8_rises_100 ?_
        refine lv_icmp_le (tgt := 113) hx hb dX8_rises_103 (by decide) (fun c4 => ?_) (fun c4 => ?_)
        · have dc4 := c4
          rw [i_le] at dc4
          refine lv_iload hx hb dX8_rises_113 (lv_at hl 0 rfl) ?_
          refine lv_iconst (v := 1) hx hb dX8_rises_115 (by decide) ?_
          refine lv_iadd hx hb dX8_rises_116 ?_
          refine lv_istore (lv' := [(5, .int (((lo + hi) / 2) + 1)), (8, .int ((lo + hi) / 2)), (7, .int y), (6, .int hi), (4, .ref (ad (47 + 57 * (bz (σ 0 1)) + 6 * x.toNatClampNeg))), (3, .ref (ad (83 + 57 * (bz (σ 0 1)) + 3 * q.toNatClampNeg))), (0, .ref (ad 0)), (1, .int q), (2, .int x)]) hx hb dX8_rises_117 hl (by decide) rfl (fun ls hl => ?_)
          refine lv_iinc (v := y + 1) (lv' := [(7, .int (y + 1)), (5, .int (((lo + hi) / 2) + 1)), (8, .int ((lo + hi) / 2)), (6, .int hi), (4, .ref (ad (47 + 57 * (bz (σ 0 1)) + 6 * x.toNatClampNeg))), (3, .ref (ad (83 + 57 * (bz (σ 0 1)) + 3 * q.toNatClampNeg))), (0, .ref (ad 0)), (1, .int q), (2, .int x)]) hx hb dX8_rises_119 hl (k := 2) rfl rfl (by decide) rfl (fun ls hl => ?_)
          refine lv_goto (tgt := 64) hx hb dX8_rises_122 (by decide) ?_
          exact ih r' (y + 1) (((lo + hi) / 2) + 1) (hi) (by rw [fb_addI (by omega) (by omega)]; omega) (by omega) (by omega) hq hx9 hR0 hRM (by rw [← hR, bsS, if_neg c2, if_neg (by rw [rs_f c4]; decide)]) _ _ hP hS ls (lv_sub hl [0, 3, 1, 4, 5, 6, 7, 8] rfl)
        · have dc4 := c4
          rw [i_le] at dc4
          refine lv_iload hx hb dX8_rises_106 (lv_at hl 0 rfl) ?_
          refine lv_istore (lv' := [(6, .int ((lo + hi) / 2)), (8, .int ((lo + hi) / 2)), (7, .int y), (5, .int lo), (4, .ref (ad (47 + 57 * (bz (σ 0 1)) + 6 * x.toNatClampNeg))), (3, .ref (ad (83 + 57 * (bz (σ 0 1)) + 3 * q.toNatClampNeg))), (0, .ref (ad 0)), (1, .int q), (2, .int x)]) hx hb dX8_rises_108 hl (by decide) rfl (fun ls hl => ?_)
          refine lv_goto (tgt := 119) hx hb dX8_rises_110 (by decide) ?_
          refine lv_iinc (v := y + 1) (lv' := [(7, .int (y + 1)), (6, .int ((lo + hi) / 2)), (8, .int ((lo + hi) / 2)), (5, .int lo), (4, .ref (ad (47 + 57 * (bz (σ 0 1)) + 6 * x.toNatClampNeg))), (3, .ref (ad (83 + 57 * (bz (σ 0 1)) + 3 * q.toNatClampNeg))), (0, .ref (ad 0)), (1, .int q), (2, .int x)]) hx hb dX8_rises_119 hl (k := 2) rfl rfl (by decide) rfl (fun ls hl => ?_)
          refine lv_goto (tgt := 64) hx hb dX8_rises_122 (by decide) ?_
          exact ih r' (y + 1) (lo) ((lo + hi) / 2) (by rw [fb_addI (by omega) (by omega)]; omega) (by omega) (by omega) hq hx9 hR0 hRM (by rw [← hR, bsS, if_neg c2, if_pos (rs_t c4)]) _ _ hP hS ls (lv_sub hl [0, 1, 3, 4, 5, 6, 7, 8] rfl)
set_option maxHeartbeats 4000000 in
set_option maxRecDepth 100000 in
theorem c_X8_rises (l : Launch) (D : va_G) (ca : Nat → ClassId) (ad : Nat → Nat) (hI : Inj 158 ad) (σ : MI) (τ : ML) (q x : Int32) : CT l D (TY ca) 158 ad (cxf ca ad) yX8_rises cX8_rises 9 (some .int) 6 142 [.ref (ad 0), .int q, .int x] σ τ (fun v_ S_ T_ => some (.int (risR σ q x)) = v_ ∧ (risM σ q x) = S_ ∧ τ = T_) := by
  refine CT.of (by decide) (Nat.le_of_ble_eq_true rfl) ?_
  intro p e s m args below meth c hx hb hr ht hown hlk hml hP hK hN hS ls hl
  have hl : lv_has ls 9 [(0, .ref (ad 0)), (1, .int q), (2, .int x)] := hl
  have hbz := bz_lt (σ 0 1)
  refine lv_aload_n hx hb dX8_rises_0 rfl (lv_at hl 0 rfl) ?_
  refine fgetx hx hb ht inG8 hown hK hP (k := 0) (by decide) (x := (σ 0)) rfl (sh_desk _ _) rfl 1 (by decide) gw_352 (v := .ref (ad (44 + 57 * (bz ((σ 0) 1))))) rfl dX8_rises_1 ?_
  refine lv_iload_n hx hb dX8_rises_4 rfl (lv_at hl 1 rfl) ?_
  refine callv (y := yX0_contractAt) ⟨hx, hb, hml, hown, ht⟩ hK hN hP hS (k := (44 + 57 * (bz ((σ 0) 1)))) (c_X0_contractAt l D ca ad hI σ τ (bz_lt _) q) (by have b0_ : (bz ((σ 0) 1)) < 2 := (bz_lt _); omega) (sh_book _ _ (bz_lt _)) rfl ok_X0_contractAt gw_635 ⟨by decide, by decide⟩ rfl hl.1 rfl (Nat.le_of_ble_eq_true rfl) ⟨by decide, by decide⟩ dX8_rises_5 (fun v_ S_ T_ H locs hp1 hP hS => ?_)
  rcases hp1 with ⟨hp1, rfl, rfl, rfl⟩ | ⟨hp1, rfl, rfl, rfl⟩
  · try dsimp only [Option.toList, List.cons_append, List.nil_append]
    refine lv_astore_nN (lv' := [(3, .null), (0, .ref (ad 0)), (1, .int q), (2, .int x)]) hx hb dX8_rises_8 rfl hl (by decide) rfl (fun ls hl => ?_)
    refine lv_aload_n hx hb dX8_rises_9 rfl (lv_at hl 1 rfl) ?_
    refine fgetx hx hb ht inG8 hown hK hP (k := 0) (by decide) (x := (σ 0)) rfl (sh_desk _ _) rfl 1 (by decide) gw_352 (v := .ref (ad (44 + 57 * (bz ((σ 0) 1))))) rfl dX8_rises_10 ?_
    refine lv_iload_n hx hb dX8_rises_13 rfl (lv_at hl 3 rfl) ?_
    refine callv (y := yX0_indexAt) ⟨hx, hb, hml, hown, ht⟩ hK hN hP hS (k := (44 + 57 * (bz ((σ 0) 1)))) (c_X0_indexAt l D ca ad hI σ τ (bz_lt _) x) (by have b0_ : (bz ((σ 0) 1)) < 2 := (bz_lt _); omega) (sh_book _ _ (bz_lt _)) rfl ok_X0_indexAt gw_609 ⟨by decide, by decide⟩ rfl hl.1 rfl (Nat.le_of_ble_eq_true rfl) ⟨by decide, by decide⟩ dX8_rises_14 (fun v_ S_ T_ H locs hp2 hP hS => ?_)
    rcases hp2 with ⟨hp2, rfl, rfl, rfl⟩ | ⟨hp2, rfl, rfl, rfl⟩
    · try dsimp only [Option.toList, List.cons_append, List.nil_append]
      refine lv_astoreN (lv' := [(4, .null), (3, .null), (0, .ref (ad 0)), (1, .int q), (2, .int x)]) hx hb dX8_rises_17 hl (by decide) rfl (fun ls hl => ?_)
      refine lv_aload_nN hx hb dX8_rises_19 rfl (lv_at hl 1 rfl) ?_
      refine lv_ifnullN (tgt := 28) hx hb dX8_rises_20 (by decide) ?_
      refine lv_iconst (v := -1) hx hb dX8_rises_28 (by decide) ?_
      exact ret_i hx hb hr hlk hP hS dX8_rises_29 (⟨by first | with_reducible rfl | (simp only [risR, hp1, hp2, rs_f (nlt_le hp2), ↓reduceIte, Bool.false_eq_true]; done) | (simp only [risR, hp1, hp2, ↓reduceIte, Bool.false_eq_true]; done), by simp only [risM, hp1, hp2, ↓reduceIte, Bool.false_eq_true], rfl⟩)
    · try dsimp only [Option.toList, List.cons_append, List.nil_append]
      have hXhp2 := (inC_6 hp2)
      refine lv_astore (lv' := [(4, .ref (ad (47 + 57 * (bz ((σ 0) 1)) + 6 * x.toNatClampNeg))), (3, .null), (0, .ref (ad 0)), (1, .int q), (2, .int x)]) hx hb dX8_rises_17 hl (by decide) rfl (fun ls hl => ?_)
      refine lv_aload_nN hx hb dX8_rises_19 rfl (lv_at hl 1 rfl) ?_
      refine lv_ifnullN (tgt := 28) hx hb dX8_rises_20 (by decide) ?_
      refine lv_iconst (v := -1) hx hb dX8_rises_28 (by decide) ?_
      exact ret_i hx hb hr hlk hP hS dX8_rises_29 (⟨by first | with_reducible rfl | (simp only [risR, hp1, hp2, rs_f (nlt_le hp2), ↓reduceIte, Bool.false_eq_true]; done) | (simp only [risR, hp1, hp2, ↓reduceIte, Bool.false_eq_true]; done), by simp only [risM, hp1, hp2, ↓reduceIte, Bool.false_eq_true], rfl⟩)
  · try dsimp only [Option.toList, List.cons_append, List.nil_append]
    have hXhp1 := (inC_6 hp1)
    refine lv_astore_n (lv' := [(3, .ref (ad (83 + 57 * (bz ((σ 0) 1)) + 3 * q.toNatClampNeg))), (0, .ref (ad 0)), (1, .int q), (2, .int x)]) hx hb dX8_rises_8 rfl hl (by decide) rfl (fun ls hl => ?_)
    refine lv_aload_n hx hb dX8_rises_9 rfl (lv_at hl 1 rfl) ?_
    refine fgetx hx hb ht inG8 hown hK hP (k := 0) (by decide) (x := (σ 0)) rfl (sh_desk _ _) rfl 1 (by decide) gw_352 (v := .ref (ad (44 + 57 * (bz ((σ 0) 1))))) rfl dX8_rises_10 ?_
    refine lv_iload_n hx hb dX8_rises_13 rfl (lv_at hl 3 rfl) ?_
    refine callv (y := yX0_indexAt) ⟨hx, hb, hml, hown, ht⟩ hK hN hP hS (k := (44 + 57 * (bz ((σ 0) 1)))) (c_X0_indexAt l D ca ad hI σ τ (bz_lt _) x) (by have b0_ : (bz ((σ 0) 1)) < 2 := (bz_lt _); omega) (sh_book _ _ (bz_lt _)) rfl ok_X0_indexAt gw_609 ⟨by decide, by decide⟩ rfl hl.1 rfl (Nat.le_of_ble_eq_true rfl) ⟨by decide, by decide⟩ dX8_rises_14 (fun v_ S_ T_ H locs hp3 hP hS => ?_)
    rcases hp3 with ⟨hp3, rfl, rfl, rfl⟩ | ⟨hp3, rfl, rfl, rfl⟩
    · try dsimp only [Option.toList, List.cons_append, List.nil_append]
      refine lv_astoreN (lv' := [(4, .null), (3, .ref (ad (83 + 57 * (bz ((σ 0) 1)) + 3 * q.toNatClampNeg))), (0, .ref (ad 0)), (1, .int q), (2, .int x)]) hx hb dX8_rises_17 hl (by decide) rfl (fun ls hl => ?_)
      refine lv_aload_n hx hb dX8_rises_19 rfl (lv_at hl 1 rfl) ?_
      refine lv_ifnull hx hb dX8_rises_20 ?_
      refine lv_aloadN hx hb dX8_rises_23 (lv_at hl 0 rfl) ?_
      refine lv_ifnonnullN hx hb dX8_rises_25 ?_
      refine lv_iconst (v := -1) hx hb dX8_rises_28 (by decide) ?_
      exact ret_i hx hb hr hlk hP hS dX8_rises_29 (⟨by first | with_reducible rfl | (simp only [risR, hp1, hp3, rs_f (nlt_le hp3), ↓reduceIte, Bool.false_eq_true]; done) | (simp only [risR, hp1, hp3, ↓reduceIte, Bool.false_eq_true]; done), by simp only [risM, hp1, hp3, ↓reduceIte, Bool.false_eq_true], rfl⟩)
    · try dsimp only [Option.toList, List.cons_append, List.nil_append]
      have hXhp3 := (inC_6 hp3)
      refine lv_astore (lv' := [(4, .ref (ad (47 + 57 * (bz ((σ 0) 1)) + 6 * x.toNatClampNeg))), (3, .ref (ad (83 + 57 * (bz ((σ 0) 1)) + 3 * q.toNatClampNeg))), (0, .ref (ad 0)), (1, .int q), (2, .int x)]) hx hb dX8_rises_17 hl (by decide) rfl (fun ls hl => ?_)
      refine lv_aload_n hx hb dX8_rises_19 rfl (lv_at hl 1 rfl) ?_
      refine lv_ifnull hx hb dX8_rises_20 ?_
      refine lv_aload hx hb dX8_rises_23 (lv_at hl 0 rfl) ?_
      refine lv_ifnonnull (tgt := 30) hx hb dX8_rises_25 (by decide) ?_
      refine lv_aload_n hx hb dX8_rises_30 rfl (lv_at hl 2 rfl) ?_
      refine fgetx hx hb ht inG8 hown hK hP (k := 0) (by decide) (x := (σ 0)) rfl (sh_desk _ _) rfl 1 (by decide) gw_352 (v := .ref (ad (44 + 57 * (bz ((σ 0) 1))))) rfl dX8_rises_31 ?_
      refine lv_aload_n hx hb dX8_rises_34 rfl (lv_at hl 1 rfl) ?_
      refine lv_aload hx hb dX8_rises_35 (lv_at hl 0 rfl) ?_
      refine lv_sipush (v := 999) hx hb dX8_rises_37 (by decide) ?_
      refine callv (y := yX0_priceWere) ⟨hx, hb, hml, hown, ht⟩ hK hN hP hS (k := (44 + 57 * (bz ((σ 0) 1)))) (c_X0_priceWere l D ca ad hI σ τ (bz_lt _) (inC_6 hp1) (inC_6 hp3) (999 : Int32)) (by have b0_ : (bz ((σ 0) 1)) < 2 := (bz_lt _); omega) (sh_book _ _ (bz_lt _)) rfl ok_X0_priceWere gw_650 ⟨by decide, by decide⟩ rfl hl.1 rfl (Nat.le_of_ble_eq_true rfl) ⟨by decide, by decide⟩ dX8_rises_40 (fun v_ S_ T_ H locs hp4 hP hS => ?_)
      obtain ⟨rfl, rfl, rfl⟩ := hp4
      try dsimp only [Option.toList, List.cons_append, List.nil_append]
      refine lv_aload_n hx hb dX8_rises_43 rfl (lv_at hl 1 rfl) ?_
      refine fgetxN hx hb ht inG1 hown hK hP (k := (83 + 57 * (bz ((σ 0) 1)) + 3 * q.toNatClampNeg)) (by have b0_ : (bz ((σ 0) 1)) < 2 := (bz_lt _); have b1_ : q.toNatClampNeg < 6 := (inC_6 hp1); omega) (x := (σ (83 + 57 * (bz ((σ 0) 1)) + 3 * q.toNatClampNeg))) (pwB_ne _ _ (by omega) (by omega)) (sh_cont _ _ (bz_lt _) (inC_6 hp1)) rfl 0 (by decide) (hN.get 168 nw_168 rfl) (v := .int ((σ (83 + 57 * (bz ((σ 0) 1)) + 3 * q.toNatClampNeg)) 0)) rfl dX8_rises_44 ?_
      refine lv_icmp_gt (tgt := 53) hx hb dX8_rises_47 (by decide) (fun c5 => ?_) (fun c5 => ?_)
      · have dc5 := c5
        rw [i_lt] at dc5
        refine lv_iconst (v := 1) hx hb dX8_rises_53 (by decide) ?_
        refine lv_istore (lv' := [(5, .int 1), (4, .ref (ad (47 + 57 * (bz ((σ 0) 1)) + 6 * x.toNatClampNeg))), (3, .ref (ad (83 + 57 * (bz ((σ 0) 1)) + 3 * q.toNatClampNeg))), (0, .ref (ad 0)), (1, .int q), (2, .int x)]) hx hb dX8_rises_54 hl (by decide) rfl (fun ls hl => ?_)
        refine lv_sipush (v := 999) hx hb dX8_rises_56 (by decide) ?_
        refine lv_istore (lv' := [(6, .int 999), (5, .int 1), (4, .ref (ad (47 + 57 * (bz ((σ 0) 1)) + 6 * x.toNatClampNeg))), (3, .ref (ad (83 + 57 * (bz ((σ 0) 1)) + 3 * q.toNatClampNeg))), (0, .ref (ad 0)), (1, .int q), (2, .int x)]) hx hb dX8_rises_59 hl (by decide) rfl (fun ls hl => ?_)
        refine lv_iconst (v := 0) hx hb dX8_rises_61 (by decide) ?_
        refine lv_istore (lv' := [(7, .int 0), (6, .int 999), (5, .int 1), (4, .ref (ad (47 + 57 * (bz ((σ 0) 1)) + 6 * x.toNatClampNeg))), (3, .ref (ad (83 + 57 * (bz ((σ 0) 1)) + 3 * q.toNatClampNeg))), (0, .ref (ad 0)), (1, .int q), (2, .int x)]) hx hb dX8_rises_62 hl (by decide) rfl (fun ls hl => ?_)
        exact lp_X8_rises hI q x hx hb hr ht hown hlk hml hK hN 11 10 _ _ _ rfl (by omega) (by omega) hp1 hp3 (by simp only [risR, hp1, hp3, rs_t (lt_nle c5), ↓reduceIte]) (by simp only [risM, hp1, hp3, ↓reduceIte]) rfl _ _ hP hS ls hl
      · have dc5 := c5
        rw [i_lt] at dc5
        refine lv_bipush (v := -2) hx hb dX8_rises_50 (by decide) ?_
        exact ret_i hx hb hr hlk hP hS dX8_rises_52 (⟨by first | with_reducible rfl | (simp only [risR, hp1, hp3, rs_f (nlt_le c5), ↓reduceIte, Bool.false_eq_true]; done) | (simp only [risR, hp1, hp3, c5, ↓reduceIte, Bool.false_eq_true]; done), by simp only [risM, hp1, hp3, ↓reduceIte, Bool.false_eq_true], rfl⟩)
set_option maxHeartbeats 4000000 in
set_option maxRecDepth 100000 in
theorem lp_X6_append {l : Launch} {D : va_G} {ca : Nat → ClassId} {ad : Nat → Nat} (hI : Inj 158 ad) {σ : MI} {τ : ML} (x : Int32) {p : Program} {e : Env} {s : State} {m : MethodId} {args : Array Value} {below : List Frame} {meth : Method} {c : Code} (hx : p.tables.exec = Jvm.exec) (hb : c.code = cX6_append) (hr : meth.sig.returnType = none) (ht : ∀ w ∈ GG, w.before args s = true) (hown : s.vm.findClass yX6_append.cls = some m.cls) (hlk : meth.locks = false) (hml : c.maxLocals = 3) (hK : va_K D vwCl (TY ca) s) (hN : NW s) : ∀ (n : Nat) (k : Nat) (hk : k ≤ 4) (hn : 4 - k < n) (H : Heap) (locs : List Loc) (hP : PW D 158 ad (cxf ca ad) (apS σ x k) τ H) (hS : va_S (AA 158 ad) s.heap H locs) (ls : Array Slot) (hl : lv_has ls 3 [(2, .int (shf k)), (0, .ref (ad 2)), (1, .int x)]), W p l e { frames := 0, cells := 0, slots := 0, locals := 0 } s m args below meth c H locs 0 0 (MQ below (QD D 158 ad (cxf ca ad) (fun v_ S_ T_ => none = v_ ∧ (apS σ x 4) = S_ ∧ τ = T_)) args s 0 0 (AA 158 ad)) (F0 m 3 ls []) := by
  intro n
  induction n with
  | zero => intro k hk hn H locs hP hS ls hl; exfalso; omega
  | succ n ih =>
    intro k hk hn H locs hP hS ls hl
    refine lv_iload_n hx hb dX6_append_3 rfl (lv_at hl 0 rfl) ?_
    refine lv_if_lt (tgt := 53) hx hb dX6_append_4 (by decide) (fun c1 => ?_) (fun c1 => ?_)
    · have dc1 := c1
      rw [i_lt] at dc1
      obtain rfl : k = 4 := by rcases (by omega : k = 0 ∨ k = 1 ∨ k = 2 ∨ k = 3 ∨ k = 4) with rfl | rfl | rfl | rfl | rfl <;> first | rfl | exact absurd c1 (by decide)
      exact ret_v hx hb hr hlk hP hS dX6_append_53 (⟨by first | with_reducible rfl | (simp only [c1, ↓reduceIte, Bool.false_eq_true]; done) | (simp only [c1, ↓reduceIte, Bool.false_eq_true]; rfl) | rfl, by first | with_reducible rfl | (simp only [c1, ↓reduceIte, Bool.false_eq_true]; done) | (simp only [c1, ↓reduceIte, Bool.false_eq_true]; rfl) | rfl, rfl⟩)
    · have dc1 := c1
      rw [i_lt] at dc1
      have hk3 : k ≤ 3 := by rcases (by omega : k = 4 ∨ k ≤ 3) with rfl | h; exact absurd (by decide) c1; exact h
      refine lv_aload_n hx hb dX6_append_7 rfl (lv_at hl 1 rfl) ?_
      refine fgetx hx hb ht inG6 hown hK hP (k := 2) (by decide) (x := ((apS σ x k) 2)) rfl (sh_tape _ _) rfl 1 (by decide) gw_98 (v := .int (((apS σ x k) 2) 1)) rfl dX6_append_8 ?_
      refine lv_if_lt (tgt := 47) hx hb dX6_append_11 (by decide) (fun c2 => ?_) (fun c2 => ?_)
      · have dc2 := c2
        rw [i_lt] at dc2
        refine lv_iinc (v := (shf k) + (-8)) (lv' := [(2, .int ((shf k) + (-8))), (0, .ref (ad 2)), (1, .int x)]) hx hb dX6_append_47 hl (k := 0) rfl rfl (by decide) rfl (fun ls hl => ?_)
        refine lv_goto (tgt := 3) hx hb dX6_append_50 (by decide) ?_
        rw [shf_dec k (by omega)] at hl
        exact ih (k + 1) (by omega) (by omega) _ _ (by simp only [apS, c2, ↓reduceIte]; exact hP) hS ls (lv_sub hl [0, 1, 2] rfl)
      · have dc2 := c2
        rw [i_lt] at dc2
        refine lv_aload_n hx hb dX6_append_14 rfl (lv_at hl 1 rfl) ?_
        refine fgetx hx hb ht inG6 hown hK hP (k := 2) (by decide) (x := ((apS σ x k) 2)) rfl (sh_tape _ _) rfl 1 (by decide) gw_98 (v := .int (((apS σ x k) 2) 1)) rfl dX6_append_15 ?_
        refine lv_sipush (v := 740) hx hb dX6_append_18 (by decide) ?_
        refine lv_icmp_ge (tgt := 47) hx hb dX6_append_21 (by decide) (fun c3 => ?_) (fun c3 => ?_)
        · have dc3 := c3
          rw [i_le] at dc3
          refine lv_iinc (v := (shf k) + (-8)) (lv' := [(2, .int ((shf k) + (-8))), (0, .ref (ad 2)), (1, .int x)]) hx hb dX6_append_47 hl (k := 0) rfl rfl (by decide) rfl (fun ls hl => ?_)
          refine lv_goto (tgt := 3) hx hb dX6_append_50 (by decide) ?_
          rw [shf_dec k (by omega)] at hl
          exact ih (k + 1) (by omega) (by omega) _ _ (by simp only [apS, c2, c3, ↓reduceIte]; exact hP) hS ls (lv_sub hl [0, 1, 2] rfl)
        · have dc3 := c3
          rw [i_le] at dc3
          refine lv_aload_n hx hb dX6_append_24 rfl (lv_at hl 1 rfl) ?_
          refine fgetx hx hb ht inG6 hown hK hP (k := 2) (by decide) (x := ((apS σ x k) 2)) rfl (sh_tape _ _) rfl 0 (by decide) gw_97 (v := .ref (ad 3)) rfl dX6_append_25 ?_
          refine lv_aload_n hx hb dX6_append_28 rfl (lv_at hl 1 rfl) ?_
          refine fgetx hx hb ht inG6 hown hK hP (k := 2) (by decide) (x := ((apS σ x k) 2)) rfl (sh_tape _ _) rfl 1 (by decide) gw_98 (v := .int (((apS σ x k) 2) 1)) rfl dX6_append_29 ?_
          refine lv_iload_n hx hb dX6_append_32 rfl (lv_at hl 2 rfl) ?_
          refine lv_iload_n hx hb dX6_append_33 rfl (lv_at hl 0 rfl) ?_
          refine lv_ishr hx hb dX6_append_34 ?_
          refine lv_i2b (v := (x >>> ((shf k) &&& 31)).toInt8.toInt32) hx hb dX6_append_35 rfl ?_
          refine bstj hx hb hK hP hI hS (k := 3) (by decide) 1 (fun f => sh_bytes f _ ) rfl (in_lt (n := 740) ‹_› ‹_› rfl) (j := (((apS σ x k) 2) 1).toNatClampNeg) rfl dX6_append_36 (fun H locs hP hS => ?_)
          refine lv_aload_n hx hb dX6_append_37 rfl (lv_at hl 1 rfl) ?_
          refine lv_dup hx hb dX6_append_38 rfl ?_
          refine fgetx hx hb ht inG6 hown hK hP (k := 2) (by decide) (x := ((apS σ x k) 2)) (s2_nk _ _ _ (by omega)) (sh_tape _ _) rfl 1 (by decide) gw_98 (v := .int (((apS σ x k) 2) 1)) rfl dX6_append_39 ?_
          refine lv_iconst (v := 1) hx hb dX6_append_42 (by decide) ?_
          refine lv_iadd hx hb dX6_append_43 ?_
          refine fputx (ref := "") (w := (((apS σ x k) 2) 1) + 1) hx hb ht inG6 tyX6 tyX6_ok nmX6 hown hK hP hI hS (k := 2) (by decide) (sh_tape _ _) rfl 1 (by decide) gw_98 rfl rfl rfl (Nat.le_of_ble_eq_true rfl) (sh_tape _ _) dX6_append_44 (fun H locs hP hS => ?_)
          refine lv_iinc (v := (shf k) + (-8)) (lv' := [(2, .int ((shf k) + (-8))), (0, .ref (ad 2)), (1, .int x)]) hx hb dX6_append_47 hl (k := 0) rfl rfl (by decide) rfl (fun ls hl => ?_)
          refine lv_goto (tgt := 3) hx hb dX6_append_50 (by decide) ?_
          rw [shf_dec k (by omega)] at hl
          exact ih (k + 1) (by omega) (by omega) _ _ (by simp only [apS, c2, c3, ↓reduceIte]; exact hP) hS ls (lv_sub hl [0, 1, 2] rfl)
set_option maxHeartbeats 4000000 in
set_option maxRecDepth 100000 in
theorem c_X6_append (l : Launch) (D : va_G) (ca : Nat → ClassId) (ad : Nat → Nat) (hI : Inj 158 ad) (σ : MI) (τ : ML) (x : Int32) : CT l D (TY ca) 158 ad (cxf ca ad) yX6_append cX6_append 3 none 0 0 [.ref (ad 2), .int x] σ τ (fun v_ S_ T_ => none = v_ ∧ (apS σ x 4) = S_ ∧ τ = T_) := by
  refine CT.of (by decide) (Nat.le_of_ble_eq_true rfl) ?_
  intro p e s m args below meth c hx hb hr ht hown hlk hml hP hK hN hS ls hl
  have hl : lv_has ls 3 [(0, .ref (ad 2)), (1, .int x)] := hl
  refine lv_bipush (v := 24) hx hb dX6_append_0 (by decide) ?_
  refine lv_istore_n (lv' := [(2, .int 24), (0, .ref (ad 2)), (1, .int x)]) hx hb dX6_append_2 rfl hl (by decide) rfl (fun ls hl => ?_)
  exact lp_X6_append hI x hx hb hr ht hown hlk hml hK hN 5 0 (by omega) (by omega) _ _ hP hS ls hl
set_option maxHeartbeats 4000000 in
set_option maxRecDepth 100000 in
theorem c_X6_byteAt (l : Launch) (D : va_G) (ca : Nat → ClassId) (ad : Nat → Nat) (hI : Inj 158 ad) (σ : MI) (τ : ML) (x : Int32) : CT l D (TY ca) 158 ad (cxf ca ad) yX6_byteAt cX6_byteAt 2 (some .int) 0 0 [.ref (ad 2), .int x] σ τ (fun v_ S_ T_ => some (.int (btS (σ 3) (σ 2 1) x)) = v_ ∧ σ = S_ ∧ τ = T_) := by
  refine CT.of (by decide) (Nat.le_of_ble_eq_true rfl) ?_
  intro p e s m args below meth c hx hb hr ht hown hlk hml hP hK hN hS ls hl
  have hl : lv_has ls 2 [(0, .ref (ad 2)), (1, .int x)] := hl
  refine lv_iload_n hx hb dX6_byteAt_0 rfl (lv_at hl 1 rfl) ?_
  refine lv_if_lt (tgt := 28) hx hb dX6_byteAt_1 (by decide) (fun c1 => ?_) (fun c1 => ?_)
  · have dc1 := c1
    rw [i_lt] at dc1
    refine lv_iconst (v := 0) hx hb dX6_byteAt_28 (by decide) ?_
    exact ret_i hx hb hr hlk hP hS dX6_byteAt_29 (⟨by first | with_reducible rfl | (simp only [btS, inC, c1, ↓reduceIte, Bool.false_eq_true]; done) | (simp only [btS, inC, c1, ↓reduceIte, Bool.false_eq_true]; rfl) | rfl, by first | with_reducible rfl | (simp only [btS, inC, c1, ↓reduceIte, Bool.false_eq_true]; done) | (simp only [btS, inC, c1, ↓reduceIte, Bool.false_eq_true]; rfl) | rfl, rfl⟩)
  · have dc1 := c1
    rw [i_lt] at dc1
    refine lv_iload_n hx hb dX6_byteAt_4 rfl (lv_at hl 1 rfl) ?_
    refine lv_aload_n hx hb dX6_byteAt_5 rfl (lv_at hl 0 rfl) ?_
    refine fgetx hx hb ht inG6 hown hK hP (k := 2) (by decide) (x := (σ 2)) rfl (sh_tape _ _) rfl 1 (by decide) gw_98 (v := .int ((σ 2) 1)) rfl dX6_byteAt_6 ?_
    refine lv_icmp_ge (tgt := 28) hx hb dX6_byteAt_9 (by decide) (fun c2 => ?_) (fun c2 => ?_)
    · have dc2 := c2
      rw [i_le] at dc2
      refine lv_iconst (v := 0) hx hb dX6_byteAt_28 (by decide) ?_
      exact ret_i hx hb hr hlk hP hS dX6_byteAt_29 (⟨by first | with_reducible rfl | (simp only [btS, inC, c1, c2, ↓reduceIte, Bool.false_eq_true]; done) | (simp only [btS, inC, c1, c2, ↓reduceIte, Bool.false_eq_true]; rfl) | rfl, by first | with_reducible rfl | (simp only [btS, inC, c1, c2, ↓reduceIte, Bool.false_eq_true]; done) | (simp only [btS, inC, c1, c2, ↓reduceIte, Bool.false_eq_true]; rfl) | rfl, rfl⟩)
    · have dc2 := c2
      rw [i_le] at dc2
      refine lv_iload_n hx hb dX6_byteAt_12 rfl (lv_at hl 1 rfl) ?_
      refine lv_sipush (v := 740) hx hb dX6_byteAt_13 (by decide) ?_
      refine lv_icmp_ge (tgt := 28) hx hb dX6_byteAt_16 (by decide) (fun c3 => ?_) (fun c3 => ?_)
      · have dc3 := c3
        rw [i_le] at dc3
        refine lv_iconst (v := 0) hx hb dX6_byteAt_28 (by decide) ?_
        exact ret_i hx hb hr hlk hP hS dX6_byteAt_29 (⟨by first | with_reducible rfl | (simp only [btS, inC, c1, c2, c3, ↓reduceIte, Bool.false_eq_true]; done) | (simp only [btS, inC, c1, c2, c3, ↓reduceIte, Bool.false_eq_true]; rfl) | rfl, by first | with_reducible rfl | (simp only [btS, inC, c1, c2, c3, ↓reduceIte, Bool.false_eq_true]; done) | (simp only [btS, inC, c1, c2, c3, ↓reduceIte, Bool.false_eq_true]; rfl) | rfl, rfl⟩)
      · have dc3 := c3
        rw [i_le] at dc3
        refine lv_aload_n hx hb dX6_byteAt_19 rfl (lv_at hl 0 rfl) ?_
        refine fgetx hx hb ht inG6 hown hK hP (k := 2) (by decide) (x := (σ 2)) rfl (sh_tape _ _) rfl 0 (by decide) gw_97 (v := .ref (ad 3)) rfl dX6_byteAt_20 ?_
        refine lv_iload_n hx hb dX6_byteAt_23 rfl (lv_at hl 1 rfl) ?_
        refine bldj hx hb hK hP (k := 3) (by decide) (x := (σ 3)) rfl 1 (sh_bytes _ _) rfl (in_lt (n := 740) ‹_› ‹_› rfl) (j := x.toNatClampNeg) rfl dX6_byteAt_24 ?_
        refine lv_goto (tgt := 29) hx hb dX6_byteAt_25 (by decide) ?_
        exact ret_i hx hb hr hlk hP hS dX6_byteAt_29 (⟨by first | with_reducible rfl | (simp only [btS, inC, c1, c2, c3, ↓reduceIte, Bool.false_eq_true]; done) | (simp only [btS, inC, c1, c2, c3, ↓reduceIte, Bool.false_eq_true]; rfl) | rfl, by first | with_reducible rfl | (simp only [btS, inC, c1, c2, c3, ↓reduceIte, Bool.false_eq_true]; done) | (simp only [btS, inC, c1, c2, c3, ↓reduceIte, Bool.false_eq_true]; rfl) | rfl, rfl⟩)
set_option maxHeartbeats 4000000 in
set_option maxRecDepth 100000 in
theorem c_X6_isBlank (l : Launch) (D : va_G) (ca : Nat → ClassId) (ad : Nat → Nat) (hI : Inj 158 ad) (σ : MI) (τ : ML) (x : Int32) : CT l D (TY ca) 158 ad (cxf ca ad) yX6_isBlank cX6_isBlank 1 (some .boolean) 0 0 [.int x] σ τ (fun v_ S_ T_ => some (.int (b2i (isBl x))) = v_ ∧ σ = S_ ∧ τ = T_) := by
  refine CT.of (by decide) (Nat.le_of_ble_eq_true rfl) ?_
  intro p e s m args below meth c hx hb hr ht hown hlk hml hP hK hN hS ls hl
  have hl : lv_has ls 1 [(0, .int x)] := hl
  refine lv_iload_n hx hb dX6_isBlank_0 rfl (lv_at hl 0 rfl) ?_
  refine lv_bipush (v := 32) hx hb dX6_isBlank_1 (by decide) ?_
  refine lv_icmp_eq (tgt := 12) hx hb dX6_isBlank_3 (by decide) (fun c1 => ?_) (fun c1 => ?_)
  · have dc1 := c1
    rw [i_eq] at dc1
    refine lv_iconst (v := 1) hx hb dX6_isBlank_12 (by decide) ?_
    refine lv_goto (tgt := 17) hx hb dX6_isBlank_13 (by decide) ?_
    exact ret_z hx hb hr hlk hP hS dX6_isBlank_17 (b := true) rfl (⟨by first | with_reducible rfl | (simp only [isBl, c1, ↓reduceIte, Bool.false_eq_true]; done) | (simp only [isBl, c1, ↓reduceIte, Bool.false_eq_true]; rfl) | rfl, by first | with_reducible rfl | (simp only [isBl, c1, ↓reduceIte, Bool.false_eq_true]; done) | (simp only [isBl, c1, ↓reduceIte, Bool.false_eq_true]; rfl) | rfl, rfl⟩)
  · have dc1 := c1
    rw [i_eq] at dc1
    refine lv_iload_n hx hb dX6_isBlank_6 rfl (lv_at hl 0 rfl) ?_
    refine lv_bipush (v := 10) hx hb dX6_isBlank_7 (by decide) ?_
    refine lv_icmp_ne (tgt := 16) hx hb dX6_isBlank_9 (by decide) (fun c2 => ?_) (fun c2 => ?_)
    · have dc2 := c2
      rw [i_eq] at dc2
      refine lv_iconst (v := 0) hx hb dX6_isBlank_16 (by decide) ?_
      exact ret_z hx hb hr hlk hP hS dX6_isBlank_17 (b := false) rfl (⟨by first | with_reducible rfl | (simp only [isBl, c1, c2, ↓reduceIte, Bool.false_eq_true]; done) | (simp only [isBl, c1, c2, ↓reduceIte, Bool.false_eq_true]; rfl) | rfl, by first | with_reducible rfl | (simp only [isBl, c1, c2, ↓reduceIte, Bool.false_eq_true]; done) | (simp only [isBl, c1, c2, ↓reduceIte, Bool.false_eq_true]; rfl) | rfl, rfl⟩)
    · have dc2 := c2
      rw [i_eq] at dc2
      refine lv_iconst (v := 1) hx hb dX6_isBlank_12 (by decide) ?_
      refine lv_goto (tgt := 17) hx hb dX6_isBlank_13 (by decide) ?_
      exact ret_z hx hb hr hlk hP hS dX6_isBlank_17 (b := true) rfl (⟨by first | with_reducible rfl | (simp only [isBl, c1, c2, ↓reduceIte, Bool.false_eq_true]; done) | (simp only [isBl, c1, c2, ↓reduceIte, Bool.false_eq_true]; rfl) | rfl, by first | with_reducible rfl | (simp only [isBl, c1, c2, ↓reduceIte, Bool.false_eq_true]; done) | (simp only [isBl, c1, c2, ↓reduceIte, Bool.false_eq_true]; rfl) | rfl, rfl⟩)
set_option maxHeartbeats 4000000 in
set_option maxRecDepth 100000 in
theorem lp_X6_tail {l : Launch} {D : va_G} {ca : Nat → ClassId} {ad : Nat → Nat} (hI : Inj 158 ad) {σ : MI} {τ : ML}  {p : Program} {e : Env} {s : State} {m : MethodId} {args : Array Value} {below : List Frame} {meth : Method} {c : Code} (hx : p.tables.exec = Jvm.exec) (hb : c.code = cX6_cutToken) (hr : meth.sig.returnType = none) (ht : ∀ w ∈ GG, w.before args s = true) (hown : s.vm.findClass yX6_cutToken.cls = some m.cls) (hlk : meth.locks = false) (hml : c.maxLocals = 6) (hK : va_K D vwCl (TY ca) s) (hN : NW s) : ∀ (a d u : Int32) (hsg : isSg (btS (σ 3) (σ 2 1) (σ 2 2)) = false) (hR : lnS (σ 3) (σ 2 1) 741 (σ 2 2) 0 0 0 = (a, d, u)) (H : Heap) (locs : List Loc) (hP : PW D 158 ad (cxf ca ad) (s2 (s2 σ 2 3 (σ 2 2 + 1)) 2 5 u) τ H) (hS : va_S (AA 158 ad) s.heap H locs) (ls : Array Slot) (hl : lv_has ls 6 [(3, .int d), (2, .int a), (0, .ref (ad 2))]), W p l e { frames := 1, cells := 0, slots := 0, locals := 24 } s m args below meth c H locs 0 0 (MQ below (QD D 158 ad (cxf ca ad) (fun v_ S_ T_ => none = v_ ∧ (cuS σ) = S_ ∧ τ = T_)) args s 0 0 (AA 158 ad)) (F0 m 135 ls []) := by
  intro a d u hsg hR H locs hP hS ls hl
  refine lv_aload_n hx hb dX6_cutToken_135 rfl (lv_at hl 2 rfl) ?_
  refine lv_aload_n hx hb dX6_cutToken_136 rfl (lv_at hl 2 rfl) ?_
  refine fgetx hx hb ht inG6 hown hK hP (k := 2) (by decide) (x := (upd (upd (σ 2) 3 (σ 2 2 + 1)) 5 u)) ((s2_k _ _ _ _).trans (congrArg (fun f => upd f 5 u) (s2_k _ _ _ _))) (sh_tape _ _) rfl 3 (by decide) gw_102 (v := .int (σ 2 2 + 1)) rfl dX6_cutToken_137 ?_
  refine lv_aload_n hx hb dX6_cutToken_140 rfl (lv_at hl 2 rfl) ?_
  refine fgetx hx hb ht inG6 hown hK hP (k := 2) (by decide) (x := (upd (upd (σ 2) 3 (σ 2 2 + 1)) 5 u)) ((s2_k _ _ _ _).trans (congrArg (fun f => upd f 5 u) (s2_k _ _ _ _))) (sh_tape _ _) rfl 2 (by decide) gw_101 (v := .int ((σ 2) 2)) rfl dX6_cutToken_141 ?_
  refine lv_iload_n hx hb dX6_cutToken_144 rfl (lv_at hl 1 rfl) ?_
  refine lv_iadd hx hb dX6_cutToken_145 ?_
  refine lv_iload_n hx hb dX6_cutToken_146 rfl (lv_at hl 0 rfl) ?_
  refine lv_iadd hx hb dX6_cutToken_147 ?_
  refine va_mmax hx hb (hml.trans hl.1.symm) hown (ht _ gw_407) (ht _ gw_408) (ht _ gw_68) (ht _ gw_409) (by decide) (Nat.le_of_ble_eq_true rfl) (by decide) (by decide) dX6_cutToken_148 ?_
  refine fputx (ref := "") (w := if (σ 2 2 + 1) < (((σ 2) 2) + a) + d then (((σ 2) 2) + a) + d else (σ 2 2 + 1)) hx hb ht inG6 tyX6 tyX6_ok nmX6 hown hK hP hI hS (k := 2) (by decide) (sh_tape _ _) rfl 3 (by decide) gw_102 rfl rfl rfl (Nat.le_of_ble_eq_true rfl) (sh_tape _ _) dX6_cutToken_151 (fun H locs hP hS => ?_)
  refine lv_iload_n hx hb dX6_cutToken_154 rfl (lv_at hl 0 rfl) ?_
  refine lv_if_ne (tgt := 173) hx hb dX6_cutToken_155 (by decide) (fun c1 => ?_) (fun c1 => ?_)
  · have dc1 := c1
    rw [i_eq] at dc1
    refine lv_iconst (v := 0) hx hb dX6_cutToken_173 (by decide) ?_
    have hw : wdB a d = false := by simp only [wdB, c1, ↓reduceIte]
    refine lv_istore (lv' := [(4, .int 0), (3, .int d), (2, .int a), (0, .ref (ad 2))]) hx hb dX6_cutToken_174 hl (by decide) rfl (fun ls hl => ?_)
    refine lv_iload_n hx hb dX6_cutToken_176 rfl (lv_at hl 2 rfl) ?_
    refine lv_if_ne (tgt := 194) hx hb dX6_cutToken_177 (by decide) (fun c2 => ?_) (fun c2 => ?_)
    · have dc2 := c2
      rw [i_eq] at dc2
      refine lv_iconst (v := 0) hx hb dX6_cutToken_194 (by decide) ?_
      have hn : nmB a d = false := by simp only [nmB, c2, ↓reduceIte]
      refine lv_istore (lv' := [(5, .int 0), (4, .int 0), (3, .int d), (2, .int a), (0, .ref (ad 2))]) hx hb dX6_cutToken_195 hl (by decide) rfl (fun ls hl => ?_)
      refine lv_aload_n hx hb dX6_cutToken_197 rfl (lv_at hl 4 rfl) ?_
      refine lv_iload hx hb dX6_cutToken_198 (lv_at hl 1 rfl) ?_
      refine lv_if_eq (tgt := 207) hx hb dX6_cutToken_200 (by decide) (fun _ => ?_) (fun c => absurd c (by decide))
      refine lv_iload hx hb dX6_cutToken_207 (lv_at hl 0 rfl) ?_
      refine lv_if_eq (tgt := 216) hx hb dX6_cutToken_209 (by decide) (fun _ => ?_) (fun c => absurd c (by decide))
      refine lv_iconst (v := 0) hx hb dX6_cutToken_216 (by decide) ?_
      refine fputx (ref := "") (w := 0) hx hb ht inG6 tyX6 tyX6_ok nmX6 hown hK hP hI hS (k := 2) (by decide) (sh_tape _ _) rfl 4 (by decide) gw_105 rfl rfl rfl (Nat.le_of_ble_eq_true rfl) (sh_tape _ _) dX6_cutToken_217 (fun H locs hP hS => ?_)
      exact ret_v hx hb hr hlk hP hS dX6_cutToken_220 (⟨rfl, by rw [cuS, if_neg (by rw [hsg]; decide), hR]; simp only [kdS, hw, hn, mxS, ↓reduceIte, Bool.false_eq_true], rfl⟩)
    · have dc2 := c2
      rw [i_eq] at dc2
      refine lv_iload_n hx hb dX6_cutToken_180 rfl (lv_at hl 1 rfl) ?_
      refine lv_iconst (v := 1) hx hb dX6_cutToken_181 (by decide) ?_
      refine lv_icmp_lt (tgt := 194) hx hb dX6_cutToken_182 (by decide) (fun c5 => ?_) (fun c5 => ?_)
      · have dc5 := c5
        rw [i_lt] at dc5
        refine lv_iconst (v := 0) hx hb dX6_cutToken_194 (by decide) ?_
        have hn : nmB a d = false := by simp only [nmB, c2, c5, ↓reduceIte]
        refine lv_istore (lv' := [(5, .int 0), (4, .int 0), (3, .int d), (2, .int a), (0, .ref (ad 2))]) hx hb dX6_cutToken_195 hl (by decide) rfl (fun ls hl => ?_)
        refine lv_aload_n hx hb dX6_cutToken_197 rfl (lv_at hl 4 rfl) ?_
        refine lv_iload hx hb dX6_cutToken_198 (lv_at hl 1 rfl) ?_
        refine lv_if_eq (tgt := 207) hx hb dX6_cutToken_200 (by decide) (fun _ => ?_) (fun c => absurd c (by decide))
        refine lv_iload hx hb dX6_cutToken_207 (lv_at hl 0 rfl) ?_
        refine lv_if_eq (tgt := 216) hx hb dX6_cutToken_209 (by decide) (fun _ => ?_) (fun c => absurd c (by decide))
        refine lv_iconst (v := 0) hx hb dX6_cutToken_216 (by decide) ?_
        refine fputx (ref := "") (w := 0) hx hb ht inG6 tyX6 tyX6_ok nmX6 hown hK hP hI hS (k := 2) (by decide) (sh_tape _ _) rfl 4 (by decide) gw_105 rfl rfl rfl (Nat.le_of_ble_eq_true rfl) (sh_tape _ _) dX6_cutToken_217 (fun H locs hP hS => ?_)
        exact ret_v hx hb hr hlk hP hS dX6_cutToken_220 (⟨rfl, by rw [cuS, if_neg (by rw [hsg]; decide), hR]; simp only [kdS, hw, hn, mxS, ↓reduceIte, Bool.false_eq_true], rfl⟩)
      · have dc5 := c5
        rw [i_lt] at dc5
        refine lv_iload_n hx hb dX6_cutToken_185 rfl (lv_at hl 1 rfl) ?_
        refine lv_iconst (v := 4) hx hb dX6_cutToken_186 (by decide) ?_
        refine lv_icmp_gt (tgt := 194) hx hb dX6_cutToken_187 (by decide) (fun c8 => ?_) (fun c8 => ?_)
        · have dc8 := c8
          rw [i_lt] at dc8
          refine lv_iconst (v := 0) hx hb dX6_cutToken_194 (by decide) ?_
          have hn : nmB a d = false := by simp only [nmB, c2, c5, c8, ↓reduceIte]
          refine lv_istore (lv' := [(5, .int 0), (4, .int 0), (3, .int d), (2, .int a), (0, .ref (ad 2))]) hx hb dX6_cutToken_195 hl (by decide) rfl (fun ls hl => ?_)
          refine lv_aload_n hx hb dX6_cutToken_197 rfl (lv_at hl 4 rfl) ?_
          refine lv_iload hx hb dX6_cutToken_198 (lv_at hl 1 rfl) ?_
          refine lv_if_eq (tgt := 207) hx hb dX6_cutToken_200 (by decide) (fun _ => ?_) (fun c => absurd c (by decide))
          refine lv_iload hx hb dX6_cutToken_207 (lv_at hl 0 rfl) ?_
          refine lv_if_eq (tgt := 216) hx hb dX6_cutToken_209 (by decide) (fun _ => ?_) (fun c => absurd c (by decide))
          refine lv_iconst (v := 0) hx hb dX6_cutToken_216 (by decide) ?_
          refine fputx (ref := "") (w := 0) hx hb ht inG6 tyX6 tyX6_ok nmX6 hown hK hP hI hS (k := 2) (by decide) (sh_tape _ _) rfl 4 (by decide) gw_105 rfl rfl rfl (Nat.le_of_ble_eq_true rfl) (sh_tape _ _) dX6_cutToken_217 (fun H locs hP hS => ?_)
          exact ret_v hx hb hr hlk hP hS dX6_cutToken_220 (⟨rfl, by rw [cuS, if_neg (by rw [hsg]; decide), hR]; simp only [kdS, hw, hn, mxS, ↓reduceIte, Bool.false_eq_true], rfl⟩)
        · have dc8 := c8
          rw [i_lt] at dc8
          refine lv_iconst (v := 1) hx hb dX6_cutToken_190 (by decide) ?_
          refine lv_goto (tgt := 195) hx hb dX6_cutToken_191 (by decide) ?_
          have hn : nmB a d = true := by simp only [nmB, c2, c5, c8, ↓reduceIte]
          refine lv_istore (lv' := [(5, .int 1), (4, .int 0), (3, .int d), (2, .int a), (0, .ref (ad 2))]) hx hb dX6_cutToken_195 hl (by decide) rfl (fun ls hl => ?_)
          refine lv_aload_n hx hb dX6_cutToken_197 rfl (lv_at hl 4 rfl) ?_
          refine lv_iload hx hb dX6_cutToken_198 (lv_at hl 1 rfl) ?_
          refine lv_if_eq (tgt := 207) hx hb dX6_cutToken_200 (by decide) (fun _ => ?_) (fun c => absurd c (by decide))
          refine lv_iload hx hb dX6_cutToken_207 (lv_at hl 0 rfl) ?_
          refine lv_if_eq (tgt := 216) hx hb dX6_cutToken_209 (by decide) (fun c => absurd c (by decide)) (fun _ => ?_)
          refine lv_iconst (v := 2) hx hb dX6_cutToken_212 (by decide) ?_
          refine lv_goto (tgt := 217) hx hb dX6_cutToken_213 (by decide) ?_
          refine fputx (ref := "") (w := 2) hx hb ht inG6 tyX6 tyX6_ok nmX6 hown hK hP hI hS (k := 2) (by decide) (sh_tape _ _) rfl 4 (by decide) gw_105 rfl rfl rfl (Nat.le_of_ble_eq_true rfl) (sh_tape _ _) dX6_cutToken_217 (fun H locs hP hS => ?_)
          exact ret_v hx hb hr hlk hP hS dX6_cutToken_220 (⟨rfl, by rw [cuS, if_neg (by rw [hsg]; decide), hR]; simp only [kdS, hw, hn, mxS, ↓reduceIte, Bool.false_eq_true], rfl⟩)
  · have dc1 := c1
    rw [i_eq] at dc1
    refine lv_iload_n hx hb dX6_cutToken_158 rfl (lv_at hl 1 rfl) ?_
    refine lv_iconst (v := 1) hx hb dX6_cutToken_159 (by decide) ?_
    refine lv_icmp_lt (tgt := 173) hx hb dX6_cutToken_160 (by decide) (fun c13 => ?_) (fun c13 => ?_)
    · have dc13 := c13
      rw [i_lt] at dc13
      refine lv_iconst (v := 0) hx hb dX6_cutToken_173 (by decide) ?_
      have hw : wdB a d = false := by simp only [wdB, c1, c13, ↓reduceIte]
      refine lv_istore (lv' := [(4, .int 0), (3, .int d), (2, .int a), (0, .ref (ad 2))]) hx hb dX6_cutToken_174 hl (by decide) rfl (fun ls hl => ?_)
      refine lv_iload_n hx hb dX6_cutToken_176 rfl (lv_at hl 2 rfl) ?_
      refine lv_if_ne (tgt := 194) hx hb dX6_cutToken_177 (by decide) (fun c14 => ?_) (fun c14 => ?_)
      · have dc14 := c14
        rw [i_eq] at dc14
        refine lv_iconst (v := 0) hx hb dX6_cutToken_194 (by decide) ?_
        have hn : nmB a d = false := by simp only [nmB, c14, ↓reduceIte]
        refine lv_istore (lv' := [(5, .int 0), (4, .int 0), (3, .int d), (2, .int a), (0, .ref (ad 2))]) hx hb dX6_cutToken_195 hl (by decide) rfl (fun ls hl => ?_)
        refine lv_aload_n hx hb dX6_cutToken_197 rfl (lv_at hl 4 rfl) ?_
        refine lv_iload hx hb dX6_cutToken_198 (lv_at hl 1 rfl) ?_
        refine lv_if_eq (tgt := 207) hx hb dX6_cutToken_200 (by decide) (fun _ => ?_) (fun c => absurd c (by decide))
        refine lv_iload hx hb dX6_cutToken_207 (lv_at hl 0 rfl) ?_
        refine lv_if_eq (tgt := 216) hx hb dX6_cutToken_209 (by decide) (fun _ => ?_) (fun c => absurd c (by decide))
        refine lv_iconst (v := 0) hx hb dX6_cutToken_216 (by decide) ?_
        refine fputx (ref := "") (w := 0) hx hb ht inG6 tyX6 tyX6_ok nmX6 hown hK hP hI hS (k := 2) (by decide) (sh_tape _ _) rfl 4 (by decide) gw_105 rfl rfl rfl (Nat.le_of_ble_eq_true rfl) (sh_tape _ _) dX6_cutToken_217 (fun H locs hP hS => ?_)
        exact ret_v hx hb hr hlk hP hS dX6_cutToken_220 (⟨rfl, by rw [cuS, if_neg (by rw [hsg]; decide), hR]; simp only [kdS, hw, hn, mxS, ↓reduceIte, Bool.false_eq_true], rfl⟩)
      · have dc14 := c14
        rw [i_eq] at dc14
        refine lv_iload_n hx hb dX6_cutToken_180 rfl (lv_at hl 1 rfl) ?_
        refine lv_iconst (v := 1) hx hb dX6_cutToken_181 (by decide) ?_
        refine lv_icmp_lt (tgt := 194) hx hb dX6_cutToken_182 (by decide) (fun c17 => ?_) (fun c17 => ?_)
        · have dc17 := c17
          rw [i_lt] at dc17
          refine lv_iconst (v := 0) hx hb dX6_cutToken_194 (by decide) ?_
          have hn : nmB a d = false := by simp only [nmB, c14, c17, ↓reduceIte]
          refine lv_istore (lv' := [(5, .int 0), (4, .int 0), (3, .int d), (2, .int a), (0, .ref (ad 2))]) hx hb dX6_cutToken_195 hl (by decide) rfl (fun ls hl => ?_)
          refine lv_aload_n hx hb dX6_cutToken_197 rfl (lv_at hl 4 rfl) ?_
          refine lv_iload hx hb dX6_cutToken_198 (lv_at hl 1 rfl) ?_
          refine lv_if_eq (tgt := 207) hx hb dX6_cutToken_200 (by decide) (fun _ => ?_) (fun c => absurd c (by decide))
          refine lv_iload hx hb dX6_cutToken_207 (lv_at hl 0 rfl) ?_
          refine lv_if_eq (tgt := 216) hx hb dX6_cutToken_209 (by decide) (fun _ => ?_) (fun c => absurd c (by decide))
          refine lv_iconst (v := 0) hx hb dX6_cutToken_216 (by decide) ?_
          refine fputx (ref := "") (w := 0) hx hb ht inG6 tyX6 tyX6_ok nmX6 hown hK hP hI hS (k := 2) (by decide) (sh_tape _ _) rfl 4 (by decide) gw_105 rfl rfl rfl (Nat.le_of_ble_eq_true rfl) (sh_tape _ _) dX6_cutToken_217 (fun H locs hP hS => ?_)
          exact ret_v hx hb hr hlk hP hS dX6_cutToken_220 (⟨rfl, by rw [cuS, if_neg (by rw [hsg]; decide), hR]; simp only [kdS, hw, hn, mxS, ↓reduceIte, Bool.false_eq_true], rfl⟩)
        · have dc17 := c17
          rw [i_lt] at dc17
          refine lv_iload_n hx hb dX6_cutToken_185 rfl (lv_at hl 1 rfl) ?_
          refine lv_iconst (v := 4) hx hb dX6_cutToken_186 (by decide) ?_
          refine lv_icmp_gt (tgt := 194) hx hb dX6_cutToken_187 (by decide) (fun c20 => ?_) (fun c20 => ?_)
          · have dc20 := c20
            rw [i_lt] at dc20
            refine lv_iconst (v := 0) hx hb dX6_cutToken_194 (by decide) ?_
            have hn : nmB a d = false := by simp only [nmB, c14, c17, c20, ↓reduceIte]
            refine lv_istore (lv' := [(5, .int 0), (4, .int 0), (3, .int d), (2, .int a), (0, .ref (ad 2))]) hx hb dX6_cutToken_195 hl (by decide) rfl (fun ls hl => ?_)
            refine lv_aload_n hx hb dX6_cutToken_197 rfl (lv_at hl 4 rfl) ?_
            refine lv_iload hx hb dX6_cutToken_198 (lv_at hl 1 rfl) ?_
            refine lv_if_eq (tgt := 207) hx hb dX6_cutToken_200 (by decide) (fun _ => ?_) (fun c => absurd c (by decide))
            refine lv_iload hx hb dX6_cutToken_207 (lv_at hl 0 rfl) ?_
            refine lv_if_eq (tgt := 216) hx hb dX6_cutToken_209 (by decide) (fun _ => ?_) (fun c => absurd c (by decide))
            refine lv_iconst (v := 0) hx hb dX6_cutToken_216 (by decide) ?_
            refine fputx (ref := "") (w := 0) hx hb ht inG6 tyX6 tyX6_ok nmX6 hown hK hP hI hS (k := 2) (by decide) (sh_tape _ _) rfl 4 (by decide) gw_105 rfl rfl rfl (Nat.le_of_ble_eq_true rfl) (sh_tape _ _) dX6_cutToken_217 (fun H locs hP hS => ?_)
            exact ret_v hx hb hr hlk hP hS dX6_cutToken_220 (⟨rfl, by rw [cuS, if_neg (by rw [hsg]; decide), hR]; simp only [kdS, hw, hn, mxS, ↓reduceIte, Bool.false_eq_true], rfl⟩)
          · have dc20 := c20
            rw [i_lt] at dc20
            refine lv_iconst (v := 1) hx hb dX6_cutToken_190 (by decide) ?_
            refine lv_goto (tgt := 195) hx hb dX6_cutToken_191 (by decide) ?_
            have hn : nmB a d = true := by simp only [nmB, c14, c17, c20, ↓reduceIte]
            refine lv_istore (lv' := [(5, .int 1), (4, .int 0), (3, .int d), (2, .int a), (0, .ref (ad 2))]) hx hb dX6_cutToken_195 hl (by decide) rfl (fun ls hl => ?_)
            refine lv_aload_n hx hb dX6_cutToken_197 rfl (lv_at hl 4 rfl) ?_
            refine lv_iload hx hb dX6_cutToken_198 (lv_at hl 1 rfl) ?_
            refine lv_if_eq (tgt := 207) hx hb dX6_cutToken_200 (by decide) (fun _ => ?_) (fun c => absurd c (by decide))
            refine lv_iload hx hb dX6_cutToken_207 (lv_at hl 0 rfl) ?_
            refine lv_if_eq (tgt := 216) hx hb dX6_cutToken_209 (by decide) (fun c => absurd c (by decide)) (fun _ => ?_)
            refine lv_iconst (v := 2) hx hb dX6_cutToken_212 (by decide) ?_
            refine lv_goto (tgt := 217) hx hb dX6_cutToken_213 (by decide) ?_
            refine fputx (ref := "") (w := 2) hx hb ht inG6 tyX6 tyX6_ok nmX6 hown hK hP hI hS (k := 2) (by decide) (sh_tape _ _) rfl 4 (by decide) gw_105 rfl rfl rfl (Nat.le_of_ble_eq_true rfl) (sh_tape _ _) dX6_cutToken_217 (fun H locs hP hS => ?_)
            exact ret_v hx hb hr hlk hP hS dX6_cutToken_220 (⟨rfl, by rw [cuS, if_neg (by rw [hsg]; decide), hR]; simp only [kdS, hw, hn, mxS, ↓reduceIte, Bool.false_eq_true], rfl⟩)
    · have dc13 := c13
      rw [i_lt] at dc13
      refine lv_iload_n hx hb dX6_cutToken_163 rfl (lv_at hl 1 rfl) ?_
      refine lv_bipush (v := 8) hx hb dX6_cutToken_164 (by decide) ?_
      refine lv_icmp_gt (tgt := 173) hx hb dX6_cutToken_166 (by decide) (fun c25 => ?_) (fun c25 => ?_)
      · have dc25 := c25
        rw [i_lt] at dc25
        refine lv_iconst (v := 0) hx hb dX6_cutToken_173 (by decide) ?_
        have hw : wdB a d = false := by simp only [wdB, c1, c13, c25, ↓reduceIte]
        refine lv_istore (lv' := [(4, .int 0), (3, .int d), (2, .int a), (0, .ref (ad 2))]) hx hb dX6_cutToken_174 hl (by decide) rfl (fun ls hl => ?_)
        refine lv_iload_n hx hb dX6_cutToken_176 rfl (lv_at hl 2 rfl) ?_
        refine lv_if_ne (tgt := 194) hx hb dX6_cutToken_177 (by decide) (fun c26 => ?_) (fun c26 => ?_)
        · have dc26 := c26
          rw [i_eq] at dc26
          refine lv_iconst (v := 0) hx hb dX6_cutToken_194 (by decide) ?_
          have hn : nmB a d = false := by simp only [nmB, c26, ↓reduceIte]
          refine lv_istore (lv' := [(5, .int 0), (4, .int 0), (3, .int d), (2, .int a), (0, .ref (ad 2))]) hx hb dX6_cutToken_195 hl (by decide) rfl (fun ls hl => ?_)
          refine lv_aload_n hx hb dX6_cutToken_197 rfl (lv_at hl 4 rfl) ?_
          refine lv_iload hx hb dX6_cutToken_198 (lv_at hl 1 rfl) ?_
          refine lv_if_eq (tgt := 207) hx hb dX6_cutToken_200 (by decide) (fun _ => ?_) (fun c => absurd c (by decide))
          refine lv_iload hx hb dX6_cutToken_207 (lv_at hl 0 rfl) ?_
          refine lv_if_eq (tgt := 216) hx hb dX6_cutToken_209 (by decide) (fun _ => ?_) (fun c => absurd c (by decide))
          refine lv_iconst (v := 0) hx hb dX6_cutToken_216 (by decide) ?_
          refine fputx (ref := "") (w := 0) hx hb ht inG6 tyX6 tyX6_ok nmX6 hown hK hP hI hS (k := 2) (by decide) (sh_tape _ _) rfl 4 (by decide) gw_105 rfl rfl rfl (Nat.le_of_ble_eq_true rfl) (sh_tape _ _) dX6_cutToken_217 (fun H locs hP hS => ?_)
          exact ret_v hx hb hr hlk hP hS dX6_cutToken_220 (⟨rfl, by rw [cuS, if_neg (by rw [hsg]; decide), hR]; simp only [kdS, hw, hn, mxS, ↓reduceIte, Bool.false_eq_true], rfl⟩)
        · have dc26 := c26
          rw [i_eq] at dc26
          refine lv_iload_n hx hb dX6_cutToken_180 rfl (lv_at hl 1 rfl) ?_
          refine lv_iconst (v := 1) hx hb dX6_cutToken_181 (by decide) ?_
          refine lv_icmp_lt (tgt := 194) hx hb dX6_cutToken_182 (by decide) (fun c29 => ?_) (fun c29 => ?_)
          · have dc29 := c29
            rw [i_lt] at dc29
            refine lv_iconst (v := 0) hx hb dX6_cutToken_194 (by decide) ?_
            have hn : nmB a d = false := by simp only [nmB, c26, c29, ↓reduceIte]
            refine lv_istore (lv' := [(5, .int 0), (4, .int 0), (3, .int d), (2, .int a), (0, .ref (ad 2))]) hx hb dX6_cutToken_195 hl (by decide) rfl (fun ls hl => ?_)
            refine lv_aload_n hx hb dX6_cutToken_197 rfl (lv_at hl 4 rfl) ?_
            refine lv_iload hx hb dX6_cutToken_198 (lv_at hl 1 rfl) ?_
            refine lv_if_eq (tgt := 207) hx hb dX6_cutToken_200 (by decide) (fun _ => ?_) (fun c => absurd c (by decide))
            refine lv_iload hx hb dX6_cutToken_207 (lv_at hl 0 rfl) ?_
            refine lv_if_eq (tgt := 216) hx hb dX6_cutToken_209 (by decide) (fun _ => ?_) (fun c => absurd c (by decide))
            refine lv_iconst (v := 0) hx hb dX6_cutToken_216 (by decide) ?_
            refine fputx (ref := "") (w := 0) hx hb ht inG6 tyX6 tyX6_ok nmX6 hown hK hP hI hS (k := 2) (by decide) (sh_tape _ _) rfl 4 (by decide) gw_105 rfl rfl rfl (Nat.le_of_ble_eq_true rfl) (sh_tape _ _) dX6_cutToken_217 (fun H locs hP hS => ?_)
            exact ret_v hx hb hr hlk hP hS dX6_cutToken_220 (⟨rfl, by rw [cuS, if_neg (by rw [hsg]; decide), hR]; simp only [kdS, hw, hn, mxS, ↓reduceIte, Bool.false_eq_true], rfl⟩)
          · have dc29 := c29
            rw [i_lt] at dc29
            refine lv_iload_n hx hb dX6_cutToken_185 rfl (lv_at hl 1 rfl) ?_
            refine lv_iconst (v := 4) hx hb dX6_cutToken_186 (by decide) ?_
            refine lv_icmp_gt (tgt := 194) hx hb dX6_cutToken_187 (by decide) (fun c32 => ?_) (fun c32 => ?_)
            · have dc32 := c32
              rw [i_lt] at dc32
              refine lv_iconst (v := 0) hx hb dX6_cutToken_194 (by decide) ?_
              have hn : nmB a d = false := by simp only [nmB, c26, c29, c32, ↓reduceIte]
              refine lv_istore (lv' := [(5, .int 0), (4, .int 0), (3, .int d), (2, .int a), (0, .ref (ad 2))]) hx hb dX6_cutToken_195 hl (by decide) rfl (fun ls hl => ?_)
              refine lv_aload_n hx hb dX6_cutToken_197 rfl (lv_at hl 4 rfl) ?_
              refine lv_iload hx hb dX6_cutToken_198 (lv_at hl 1 rfl) ?_
              refine lv_if_eq (tgt := 207) hx hb dX6_cutToken_200 (by decide) (fun _ => ?_) (fun c => absurd c (by decide))
              refine lv_iload hx hb dX6_cutToken_207 (lv_at hl 0 rfl) ?_
              refine lv_if_eq (tgt := 216) hx hb dX6_cutToken_209 (by decide) (fun _ => ?_) (fun c => absurd c (by decide))
              refine lv_iconst (v := 0) hx hb dX6_cutToken_216 (by decide) ?_
              refine fputx (ref := "") (w := 0) hx hb ht inG6 tyX6 tyX6_ok nmX6 hown hK hP hI hS (k := 2) (by decide) (sh_tape _ _) rfl 4 (by decide) gw_105 rfl rfl rfl (Nat.le_of_ble_eq_true rfl) (sh_tape _ _) dX6_cutToken_217 (fun H locs hP hS => ?_)
              exact ret_v hx hb hr hlk hP hS dX6_cutToken_220 (⟨rfl, by rw [cuS, if_neg (by rw [hsg]; decide), hR]; simp only [kdS, hw, hn, mxS, ↓reduceIte, Bool.false_eq_true], rfl⟩)
            · have dc32 := c32
              rw [i_lt] at dc32
              refine lv_iconst (v := 1) hx hb dX6_cutToken_190 (by decide) ?_
              refine lv_goto (tgt := 195) hx hb dX6_cutToken_191 (by decide) ?_
              have hn : nmB a d = true := by simp only [nmB, c26, c29, c32, ↓reduceIte]
              refine lv_istore (lv' := [(5, .int 1), (4, .int 0), (3, .int d), (2, .int a), (0, .ref (ad 2))]) hx hb dX6_cutToken_195 hl (by decide) rfl (fun ls hl => ?_)
              refine lv_aload_n hx hb dX6_cutToken_197 rfl (lv_at hl 4 rfl) ?_
              refine lv_iload hx hb dX6_cutToken_198 (lv_at hl 1 rfl) ?_
              refine lv_if_eq (tgt := 207) hx hb dX6_cutToken_200 (by decide) (fun _ => ?_) (fun c => absurd c (by decide))
              refine lv_iload hx hb dX6_cutToken_207 (lv_at hl 0 rfl) ?_
              refine lv_if_eq (tgt := 216) hx hb dX6_cutToken_209 (by decide) (fun c => absurd c (by decide)) (fun _ => ?_)
              refine lv_iconst (v := 2) hx hb dX6_cutToken_212 (by decide) ?_
              refine lv_goto (tgt := 217) hx hb dX6_cutToken_213 (by decide) ?_
              refine fputx (ref := "") (w := 2) hx hb ht inG6 tyX6 tyX6_ok nmX6 hown hK hP hI hS (k := 2) (by decide) (sh_tape _ _) rfl 4 (by decide) gw_105 rfl rfl rfl (Nat.le_of_ble_eq_true rfl) (sh_tape _ _) dX6_cutToken_217 (fun H locs hP hS => ?_)
              exact ret_v hx hb hr hlk hP hS dX6_cutToken_220 (⟨rfl, by rw [cuS, if_neg (by rw [hsg]; decide), hR]; simp only [kdS, hw, hn, mxS, ↓reduceIte, Bool.false_eq_true], rfl⟩)
      · have dc25 := c25
        rw [i_lt] at dc25
        refine lv_iconst (v := 1) hx hb dX6_cutToken_169 (by decide) ?_
        refine lv_goto (tgt := 174) hx hb dX6_cutToken_170 (by decide) ?_
        have hw : wdB a d = true := by simp only [wdB, c1, c13, c25, ↓reduceIte]
        refine lv_istore (lv' := [(4, .int 1), (3, .int d), (2, .int a), (0, .ref (ad 2))]) hx hb dX6_cutToken_174 hl (by decide) rfl (fun ls hl => ?_)
        refine lv_iload_n hx hb dX6_cutToken_176 rfl (lv_at hl 2 rfl) ?_
        refine lv_if_ne (tgt := 194) hx hb dX6_cutToken_177 (by decide) (fun c37 => ?_) (fun c37 => ?_)
        · have dc37 := c37
          rw [i_eq] at dc37
          refine lv_iconst (v := 0) hx hb dX6_cutToken_194 (by decide) ?_
          have hn : nmB a d = false := by simp only [nmB, c37, ↓reduceIte]
          refine lv_istore (lv' := [(5, .int 0), (4, .int 1), (3, .int d), (2, .int a), (0, .ref (ad 2))]) hx hb dX6_cutToken_195 hl (by decide) rfl (fun ls hl => ?_)
          refine lv_aload_n hx hb dX6_cutToken_197 rfl (lv_at hl 4 rfl) ?_
          refine lv_iload hx hb dX6_cutToken_198 (lv_at hl 1 rfl) ?_
          refine lv_if_eq (tgt := 207) hx hb dX6_cutToken_200 (by decide) (fun c => absurd c (by decide)) (fun _ => ?_)
          refine lv_iconst (v := 1) hx hb dX6_cutToken_203 (by decide) ?_
          refine lv_goto (tgt := 217) hx hb dX6_cutToken_204 (by decide) ?_
          refine fputx (ref := "") (w := 1) hx hb ht inG6 tyX6 tyX6_ok nmX6 hown hK hP hI hS (k := 2) (by decide) (sh_tape _ _) rfl 4 (by decide) gw_105 rfl rfl rfl (Nat.le_of_ble_eq_true rfl) (sh_tape _ _) dX6_cutToken_217 (fun H locs hP hS => ?_)
          exact ret_v hx hb hr hlk hP hS dX6_cutToken_220 (⟨rfl, by rw [cuS, if_neg (by rw [hsg]; decide), hR]; simp only [kdS, hw, hn, mxS, ↓reduceIte, Bool.false_eq_true], rfl⟩)
        · have dc37 := c37
          rw [i_eq] at dc37
          refine lv_iload_n hx hb dX6_cutToken_180 rfl (lv_at hl 1 rfl) ?_
          refine lv_iconst (v := 1) hx hb dX6_cutToken_181 (by decide) ?_
          refine lv_icmp_lt (tgt := 194) hx hb dX6_cutToken_182 (by decide) (fun c39 => ?_) (fun c39 => ?_)
          · have dc39 := c39
            rw [i_lt] at dc39
            refine lv_iconst (v := 0) hx hb dX6_cutToken_194 (by decide) ?_
            have hn : nmB a d = false := by simp only [nmB, c37, c39, ↓reduceIte]
            refine lv_istore (lv' := [(5, .int 0), (4, .int 1), (3, .int d), (2, .int a), (0, .ref (ad 2))]) hx hb dX6_cutToken_195 hl (by decide) rfl (fun ls hl => ?_)
            refine lv_aload_n hx hb dX6_cutToken_197 rfl (lv_at hl 4 rfl) ?_
            refine lv_iload hx hb dX6_cutToken_198 (lv_at hl 1 rfl) ?_
            refine lv_if_eq (tgt := 207) hx hb dX6_cutToken_200 (by decide) (fun c => absurd c (by decide)) (fun _ => ?_)
            refine lv_iconst (v := 1) hx hb dX6_cutToken_203 (by decide) ?_
            refine lv_goto (tgt := 217) hx hb dX6_cutToken_204 (by decide) ?_
            refine fputx (ref := "") (w := 1) hx hb ht inG6 tyX6 tyX6_ok nmX6 hown hK hP hI hS (k := 2) (by decide) (sh_tape _ _) rfl 4 (by decide) gw_105 rfl rfl rfl (Nat.le_of_ble_eq_true rfl) (sh_tape _ _) dX6_cutToken_217 (fun H locs hP hS => ?_)
            exact ret_v hx hb hr hlk hP hS dX6_cutToken_220 (⟨rfl, by rw [cuS, if_neg (by rw [hsg]; decide), hR]; simp only [kdS, hw, hn, mxS, ↓reduceIte, Bool.false_eq_true], rfl⟩)
          · have dc39 := c39
            rw [i_lt] at dc39
            refine lv_iload_n hx hb dX6_cutToken_185 rfl (lv_at hl 1 rfl) ?_
            refine lv_iconst (v := 4) hx hb dX6_cutToken_186 (by decide) ?_
            refine lv_icmp_gt (tgt := 194) hx hb dX6_cutToken_187 (by decide) (fun c41 => ?_) (fun c41 => ?_)
            · have dc41 := c41
              rw [i_lt] at dc41
              refine lv_iconst (v := 0) hx hb dX6_cutToken_194 (by decide) ?_
              have hn : nmB a d = false := by simp only [nmB, c37, c39, c41, ↓reduceIte]
              refine lv_istore (lv' := [(5, .int 0), (4, .int 1), (3, .int d), (2, .int a), (0, .ref (ad 2))]) hx hb dX6_cutToken_195 hl (by decide) rfl (fun ls hl => ?_)
              refine lv_aload_n hx hb dX6_cutToken_197 rfl (lv_at hl 4 rfl) ?_
              refine lv_iload hx hb dX6_cutToken_198 (lv_at hl 1 rfl) ?_
              refine lv_if_eq (tgt := 207) hx hb dX6_cutToken_200 (by decide) (fun c => absurd c (by decide)) (fun _ => ?_)
              refine lv_iconst (v := 1) hx hb dX6_cutToken_203 (by decide) ?_
              refine lv_goto (tgt := 217) hx hb dX6_cutToken_204 (by decide) ?_
              refine fputx (ref := "") (w := 1) hx hb ht inG6 tyX6 tyX6_ok nmX6 hown hK hP hI hS (k := 2) (by decide) (sh_tape _ _) rfl 4 (by decide) gw_105 rfl rfl rfl (Nat.le_of_ble_eq_true rfl) (sh_tape _ _) dX6_cutToken_217 (fun H locs hP hS => ?_)
              exact ret_v hx hb hr hlk hP hS dX6_cutToken_220 (⟨rfl, by rw [cuS, if_neg (by rw [hsg]; decide), hR]; simp only [kdS, hw, hn, mxS, ↓reduceIte, Bool.false_eq_true], rfl⟩)
            · have dc41 := c41
              rw [i_lt] at dc41
              refine lv_iconst (v := 1) hx hb dX6_cutToken_190 (by decide) ?_
              refine lv_goto (tgt := 195) hx hb dX6_cutToken_191 (by decide) ?_
              have hn : nmB a d = true := by simp only [nmB, c37, c39, c41, ↓reduceIte]
              refine lv_istore (lv' := [(5, .int 1), (4, .int 1), (3, .int d), (2, .int a), (0, .ref (ad 2))]) hx hb dX6_cutToken_195 hl (by decide) rfl (fun ls hl => ?_)
              refine lv_aload_n hx hb dX6_cutToken_197 rfl (lv_at hl 4 rfl) ?_
              refine lv_iload hx hb dX6_cutToken_198 (lv_at hl 1 rfl) ?_
              refine lv_if_eq (tgt := 207) hx hb dX6_cutToken_200 (by decide) (fun c => absurd c (by decide)) (fun _ => ?_)
              refine lv_iconst (v := 1) hx hb dX6_cutToken_203 (by decide) ?_
              refine lv_goto (tgt := 217) hx hb dX6_cutToken_204 (by decide) ?_
              refine fputx (ref := "") (w := 1) hx hb ht inG6 tyX6 tyX6_ok nmX6 hown hK hP hI hS (k := 2) (by decide) (sh_tape _ _) rfl 4 (by decide) gw_105 rfl rfl rfl (Nat.le_of_ble_eq_true rfl) (sh_tape _ _) dX6_cutToken_217 (fun H locs hP hS => ?_)
              exact ret_v hx hb hr hlk hP hS dX6_cutToken_220 (⟨rfl, by rw [cuS, if_neg (by rw [hsg]; decide), hR]; simp only [kdS, hw, hn, mxS, ↓reduceIte, Bool.false_eq_true], rfl⟩)
set_option maxHeartbeats 4000000 in
set_option maxRecDepth 100000 in
theorem lp_X6_cut {l : Launch} {D : va_G} {ca : Nat → ClassId} {ad : Nat → Nat} (hI : Inj 158 ad) {σ : MI} {τ : ML}  {p : Program} {e : Env} {s : State} {m : MethodId} {args : Array Value} {below : List Frame} {meth : Method} {c : Code} (hx : p.tables.exec = Jvm.exec) (hb : c.code = cX6_cutToken) (hr : meth.sig.returnType = none) (ht : ∀ w ∈ GG, w.before args s = true) (hown : s.vm.findClass yX6_cutToken.cls = some m.cls) (hlk : meth.locks = false) (hml : c.maxLocals = 6) (hK : va_K D vwCl (TY ca) s) (hN : NW s) : ∀ (n : Nat) (y a d u : Int32) (hn : meaT y < n) (hsg : isSg (btS (σ 3) (σ 2 1) (σ 2 2)) = false) (hR : lnS (σ 3) (σ 2 1) n y a d u = lnS (σ 3) (σ 2 1) 741 (σ 2 2) 0 0 0) (H : Heap) (locs : List Loc) (hP : PW D 158 ad (cxf ca ad) (s2 (s2 σ 2 3 (σ 2 2 + 1)) 2 5 u) τ H) (hS : va_S (AA 158 ad) s.heap H locs) (ls : Array Slot) (hl : lv_has ls 6 [(4, .int y), (3, .int d), (2, .int a), (0, .ref (ad 2))]), W p l e { frames := 1, cells := 0, slots := 0, locals := 24 } s m args below meth c H locs 0 0 (MQ below (QD D 158 ad (cxf ca ad) (fun v_ S_ T_ => none = v_ ∧ (cuS σ) = S_ ∧ τ = T_)) args s 0 0 (AA 158 ad)) (F0 m 58 ls []) := by
  intro n
  induction n with
  | zero => intro y a d u hn hsg hR H locs hP hS ls hl; exfalso; omega
  | succ n ih =>
    intro y a d u hn hsg hR H locs hP hS ls hl
    refine lv_iload hx hb dX6_cutToken_58 (lv_at hl 0 rfl) ?_
    refine lv_aload_n hx hb dX6_cutToken_60 rfl (lv_at hl 3 rfl) ?_
    refine fgetx hx hb ht inG6 hown hK hP (k := 2) (by decide) (x := (upd (upd (σ 2) 3 (σ 2 2 + 1)) 5 u)) ((s2_k _ _ _ _).trans (congrArg (fun f => upd f 5 u) (s2_k _ _ _ _))) (sh_tape _ _) rfl 1 (by decide) gw_98 (v := .int ((σ 2) 1)) rfl dX6_cutToken_61 ?_
    refine lv_icmp_ge (tgt := 135) hx hb dX6_cutToken_64 (by decide) (fun c1 => ?_) (fun c1 => ?_)
    · have dc1 := c1
      rw [i_le] at dc1
      exact lp_X6_tail hI hx hb hr ht hown hlk hml hK hN a d u hsg (by rw [← hR]; simp only [lnS, c1, ↓reduceIte]) _ _ hP hS ls (lv_sub hl [1, 2, 3] rfl)
    · have dc1 := c1
      rw [i_le] at dc1
      refine lv_aload_n hx hb dX6_cutToken_67 rfl (lv_at hl 3 rfl) ?_
      refine lv_iload hx hb dX6_cutToken_68 (lv_at hl 0 rfl) ?_
      refine callv (y := yX6_byteAt) ⟨hx, hb, hml, hown, ht⟩ hK hN hP hS (k := 2) (c_X6_byteAt l D ca ad hI (s2 (s2 σ 2 3 (σ 2 2 + 1)) 2 5 u) τ y) (by decide) (sh_tape _ _) rfl ok_X6_byteAt gw_396 ⟨by decide, by decide⟩ rfl hl.1 rfl (Nat.le_of_ble_eq_true rfl) ⟨by decide, by decide⟩ dX6_cutToken_70 (fun v_ S_ T_ H locs hp2 hP hS => ?_)
      obtain ⟨rfl, rfl, rfl⟩ := hp2
      try dsimp only [Option.toList, List.cons_append, List.nil_append]
      refine stk_i (v := (btS ((σ 3)) ((σ 2) 1) y)) (by first | (rw [(show (s2 (s2 σ 2 3 (σ 2 2 + 1)) 2 5 u) 3 = (σ 3) from ((s2_nk _ _ _ (by omega)).trans (s2_nk _ _ _ (by omega)))), (show (s2 (s2 σ 2 3 (σ 2 2 + 1)) 2 5 u) 2 = (upd (upd (σ 2) 3 (σ 2 2 + 1)) 5 u) from ((s2_k _ _ _ _).trans (congrArg (fun f => upd f 5 u) (s2_k _ _ _ _))))]; done) | (rw [(show (s2 (s2 σ 2 3 (σ 2 2 + 1)) 2 5 u) 3 = (σ 3) from ((s2_nk _ _ _ (by omega)).trans (s2_nk _ _ _ (by omega)))), (show (s2 (s2 σ 2 3 (σ 2 2 + 1)) 2 5 u) 2 = (upd (upd (σ 2) 3 (σ 2 2 + 1)) 5 u) from ((s2_k _ _ _ _).trans (congrArg (fun f => upd f 5 u) (s2_k _ _ _ _))))]; rfl)) ?_
      refine lv_istore (lv' := [(5, .int (btS ((σ 3)) ((σ 2) 1) y)), (4, .int y), (3, .int d), (2, .int a), (0, .ref (ad 2))]) hx hb dX6_cutToken_73 hl (by decide) rfl (fun ls hl => ?_)
      refine lv_iload hx hb dX6_cutToken_75 (lv_at hl 0 rfl) ?_
      refine lv_bipush (v := 97) hx hb dX6_cutToken_77 (by decide) ?_
      refine lv_icmp_lt (tgt := 95) hx hb dX6_cutToken_79 (by decide) (fun c3 => ?_) (fun c3 => ?_)
      · have dc3 := c3
        rw [i_lt] at dc3
        refine lv_iload hx hb dX6_cutToken_95 (lv_at hl 0 rfl) ?_
        refine lv_bipush (v := 48) hx hb dX6_cutToken_97 (by decide) ?_
        refine lv_icmp_lt (tgt := 135) hx hb dX6_cutToken_99 (by decide) (fun c4 => ?_) (fun c4 => ?_)
        · have dc4 := c4
          rw [i_lt] at dc4
          exact lp_X6_tail hI hx hb hr ht hown hlk hml hK hN a d u hsg (by rw [← hR]; simp only [lnS, c1, c3, c4, ↓reduceIte]) _ _ hP hS ls (lv_sub hl [2, 3, 4] rfl)
        · have dc4 := c4
          rw [i_lt] at dc4
          refine lv_iload hx hb dX6_cutToken_102 (lv_at hl 0 rfl) ?_
          refine lv_bipush (v := 57) hx hb dX6_cutToken_104 (by decide) ?_
          refine lv_icmp_gt (tgt := 135) hx hb dX6_cutToken_106 (by decide) (fun c5 => ?_) (fun c5 => ?_)
          · have dc5 := c5
            rw [i_lt] at dc5
            exact lp_X6_tail hI hx hb hr ht hown hlk hml hK hN a d u hsg (by rw [← hR]; simp only [lnS, c1, c3, c4, c5, ↓reduceIte]) _ _ hP hS ls (lv_sub hl [2, 3, 4] rfl)
          · have dc5 := c5
            rw [i_lt] at dc5
            refine lv_iinc (v := d + 1) (lv' := [(3, .int (d + 1)), (5, .int (btS ((σ 3)) ((σ 2) 1) y)), (4, .int y), (2, .int a), (0, .ref (ad 2))]) hx hb dX6_cutToken_109 hl (k := 2) rfl rfl (by decide) rfl (fun ls hl => ?_)
            refine lv_aload_n hx hb dX6_cutToken_112 rfl (lv_at hl 4 rfl) ?_
            refine lv_aload_n hx hb dX6_cutToken_113 rfl (lv_at hl 4 rfl) ?_
            refine fgetx hx hb ht inG6 hown hK hP (k := 2) (by decide) (x := (upd (upd (σ 2) 3 (σ 2 2 + 1)) 5 u)) ((s2_k _ _ _ _).trans (congrArg (fun f => upd f 5 u) (s2_k _ _ _ _))) (sh_tape _ _) rfl 5 (by decide) gw_106 (v := .int u) rfl dX6_cutToken_114 ?_
            refine lv_bipush (v := 10) hx hb dX6_cutToken_117 (by decide) ?_
            refine lv_imul hx hb dX6_cutToken_119 ?_
            refine lv_iload hx hb dX6_cutToken_120 (lv_at hl 1 rfl) ?_
            refine lv_iadd hx hb dX6_cutToken_122 ?_
            refine lv_bipush (v := 48) hx hb dX6_cutToken_123 (by decide) ?_
            refine lv_isub hx hb dX6_cutToken_125 ?_
            refine fputx (ref := "") (w := ((u * 10) + (btS ((σ 3)) ((σ 2) 1) y)) - 48) hx hb ht inG6 tyX6 tyX6_ok nmX6 hown hK hP hI hS (k := 2) (by decide) (sh_tape _ _) rfl 5 (by decide) gw_106 rfl rfl rfl (Nat.le_of_ble_eq_true rfl) (sh_tape _ _) dX6_cutToken_126 (fun H locs hP hS => ?_)
            refine lv_iinc (v := y + 1) (lv' := [(4, .int (y + 1)), (3, .int (d + 1)), (5, .int (btS ((σ 3)) ((σ 2) 1) y)), (2, .int a), (0, .ref (ad 2))]) hx hb dX6_cutToken_129 hl (k := 2) rfl rfl (by decide) rfl (fun ls hl => ?_)
            refine lv_goto (tgt := 58) hx hb dX6_cutToken_132 (by decide) ?_
            rw [s2_s2] at hP
            exact ih (y + 1) (a) (d + 1) (u * 10 + btS (σ 3) (σ 2 1) y - 48) (by have := mea_lo (n := 48) (by decide) c4; omega) hsg (by rw [← hR]; simp only [lnS, c1, c3, c4, c5, ↓reduceIte]) _ _ hP hS ls (lv_sub hl [0, 1, 3, 4] rfl)
      · have dc3 := c3
        rw [i_lt] at dc3
        refine lv_iload hx hb dX6_cutToken_82 (lv_at hl 0 rfl) ?_
        refine lv_bipush (v := 122) hx hb dX6_cutToken_84 (by decide) ?_
        refine lv_icmp_gt (tgt := 95) hx hb dX6_cutToken_86 (by decide) (fun c6 => ?_) (fun c6 => ?_)
        · have dc6 := c6
          rw [i_lt] at dc6
          refine lv_iload hx hb dX6_cutToken_95 (lv_at hl 0 rfl) ?_
          refine lv_bipush (v := 48) hx hb dX6_cutToken_97 (by decide) ?_
          refine lv_icmp_lt (tgt := 135) hx hb dX6_cutToken_99 (by decide) (fun c7 => ?_) (fun c7 => ?_)
          · have dc7 := c7
            rw [i_lt] at dc7
            exact lp_X6_tail hI hx hb hr ht hown hlk hml hK hN a d u hsg (by rw [← hR]; simp only [lnS, c1, c3, c6, c7, ↓reduceIte]) _ _ hP hS ls (lv_sub hl [2, 3, 4] rfl)
          · have dc7 := c7
            rw [i_lt] at dc7
            refine lv_iload hx hb dX6_cutToken_102 (lv_at hl 0 rfl) ?_
            refine lv_bipush (v := 57) hx hb dX6_cutToken_104 (by decide) ?_
            refine lv_icmp_gt (tgt := 135) hx hb dX6_cutToken_106 (by decide) (fun c8 => ?_) (fun c8 => ?_)
            · have dc8 := c8
              rw [i_lt] at dc8
              exact lp_X6_tail hI hx hb hr ht hown hlk hml hK hN a d u hsg (by rw [← hR]; simp only [lnS, c1, c3, c6, c7, c8, ↓reduceIte]) _ _ hP hS ls (lv_sub hl [2, 3, 4] rfl)
            · have dc8 := c8
              rw [i_lt] at dc8
              refine lv_iinc (v := d + 1) (lv' := [(3, .int (d + 1)), (5, .int (btS ((σ 3)) ((σ 2) 1) y)), (4, .int y), (2, .int a), (0, .ref (ad 2))]) hx hb dX6_cutToken_109 hl (k := 2) rfl rfl (by decide) rfl (fun ls hl => ?_)
              refine lv_aload_n hx hb dX6_cutToken_112 rfl (lv_at hl 4 rfl) ?_
              refine lv_aload_n hx hb dX6_cutToken_113 rfl (lv_at hl 4 rfl) ?_
              refine fgetx hx hb ht inG6 hown hK hP (k := 2) (by decide) (x := (upd (upd (σ 2) 3 (σ 2 2 + 1)) 5 u)) ((s2_k _ _ _ _).trans (congrArg (fun f => upd f 5 u) (s2_k _ _ _ _))) (sh_tape _ _) rfl 5 (by decide) gw_106 (v := .int u) rfl dX6_cutToken_114 ?_
              refine lv_bipush (v := 10) hx hb dX6_cutToken_117 (by decide) ?_
              refine lv_imul hx hb dX6_cutToken_119 ?_
              refine lv_iload hx hb dX6_cutToken_120 (lv_at hl 1 rfl) ?_
              refine lv_iadd hx hb dX6_cutToken_122 ?_
              refine lv_bipush (v := 48) hx hb dX6_cutToken_123 (by decide) ?_
              refine lv_isub hx hb dX6_cutToken_125 ?_
              refine fputx (ref := "") (w := ((u * 10) + (btS ((σ 3)) ((σ 2) 1) y)) - 48) hx hb ht inG6 tyX6 tyX6_ok nmX6 hown hK hP hI hS (k := 2) (by decide) (sh_tape _ _) rfl 5 (by decide) gw_106 rfl rfl rfl (Nat.le_of_ble_eq_true rfl) (sh_tape _ _) dX6_cutToken_126 (fun H locs hP hS => ?_)
              refine lv_iinc (v := y + 1) (lv' := [(4, .int (y + 1)), (3, .int (d + 1)), (5, .int (btS ((σ 3)) ((σ 2) 1) y)), (2, .int a), (0, .ref (ad 2))]) hx hb dX6_cutToken_129 hl (k := 2) rfl rfl (by decide) rfl (fun ls hl => ?_)
              refine lv_goto (tgt := 58) hx hb dX6_cutToken_132 (by decide) ?_
              rw [s2_s2] at hP
              exact ih (y + 1) (a) (d + 1) (u * 10 + btS (σ 3) (σ 2 1) y - 48) (by have := mea_lo (n := 48) (by decide) c7; omega) hsg (by rw [← hR]; simp only [lnS, c1, c3, c6, c7, c8, ↓reduceIte]) _ _ hP hS ls (lv_sub hl [0, 1, 3, 4] rfl)
        · have dc6 := c6
          rw [i_lt] at dc6
          refine lv_iinc (v := a + 1) (lv' := [(2, .int (a + 1)), (5, .int (btS ((σ 3)) ((σ 2) 1) y)), (4, .int y), (3, .int d), (0, .ref (ad 2))]) hx hb dX6_cutToken_89 hl (k := 3) rfl rfl (by decide) rfl (fun ls hl => ?_)
          refine lv_goto (tgt := 129) hx hb dX6_cutToken_92 (by decide) ?_
          refine lv_iinc (v := y + 1) (lv' := [(4, .int (y + 1)), (2, .int (a + 1)), (5, .int (btS ((σ 3)) ((σ 2) 1) y)), (3, .int d), (0, .ref (ad 2))]) hx hb dX6_cutToken_129 hl (k := 2) rfl rfl (by decide) rfl (fun ls hl => ?_)
          refine lv_goto (tgt := 58) hx hb dX6_cutToken_132 (by decide) ?_
          exact ih (y + 1) (a + 1) (d) (u) (by have := mea_lo (n := 97) (by decide) c3; omega) hsg (by rw [← hR]; simp only [lnS, c1, c3, c6, ↓reduceIte]) _ _ hP hS ls (lv_sub hl [0, 3, 1, 4] rfl)
set_option maxHeartbeats 4000000 in
set_option maxRecDepth 100000 in
theorem c_X6_cutToken (l : Launch) (D : va_G) (ca : Nat → ClassId) (ad : Nat → Nat) (hI : Inj 158 ad) (σ : MI) (τ : ML)  : CT l D (TY ca) 158 ad (cxf ca ad) yX6_cutToken cX6_cutToken 6 none 1 24 [.ref (ad 2)] σ τ (fun v_ S_ T_ => none = v_ ∧ (cuS σ) = S_ ∧ τ = T_) := by
  refine CT.of (by decide) (Nat.le_of_ble_eq_true rfl) ?_
  intro p e s m args below meth c hx hb hr ht hown hlk hml hP hK hN hS ls hl
  have hl : lv_has ls 6 [(0, .ref (ad 2))] := hl
  refine lv_aload_n hx hb dX6_cutToken_0 rfl (lv_at hl 0 rfl) ?_
  refine lv_aload_n hx hb dX6_cutToken_1 rfl (lv_at hl 0 rfl) ?_
  refine fgetx hx hb ht inG6 hown hK hP (k := 2) (by decide) (x := (σ 2)) rfl (sh_tape _ _) rfl 2 (by decide) gw_101 (v := .int ((σ 2) 2)) rfl dX6_cutToken_2 ?_
  refine callv (y := yX6_byteAt) ⟨hx, hb, hml, hown, ht⟩ hK hN hP hS (k := 2) (c_X6_byteAt l D ca ad hI σ τ ((σ 2) 2)) (by decide) (sh_tape _ _) rfl ok_X6_byteAt gw_396 ⟨by decide, by decide⟩ rfl hl.1 rfl (Nat.le_of_ble_eq_true rfl) ⟨by decide, by decide⟩ dX6_cutToken_5 (fun v_ S_ T_ H locs hp1 hP hS => ?_)
  obtain ⟨rfl, rfl, rfl⟩ := hp1
  try dsimp only [Option.toList, List.cons_append, List.nil_append]
  refine lv_istore_n (lv' := [(1, .int (btS (σ 3) (σ 2 1) ((σ 2) 2))), (0, .ref (ad 2))]) hx hb dX6_cutToken_8 rfl hl (by decide) rfl (fun ls hl => ?_)
  refine lv_aload_n hx hb dX6_cutToken_9 rfl (lv_at hl 1 rfl) ?_
  refine lv_aload_n hx hb dX6_cutToken_10 rfl (lv_at hl 1 rfl) ?_
  refine fgetx hx hb ht inG6 hown hK hP (k := 2) (by decide) (x := (σ 2)) rfl (sh_tape _ _) rfl 2 (by decide) gw_101 (v := .int ((σ 2) 2)) rfl dX6_cutToken_11 ?_
  refine lv_iconst (v := 1) hx hb dX6_cutToken_14 (by decide) ?_
  refine lv_iadd hx hb dX6_cutToken_15 ?_
  refine fputx (ref := "") (w := ((σ 2) 2) + 1) hx hb ht inG6 tyX6 tyX6_ok nmX6 hown hK hP hI hS (k := 2) (by decide) (sh_tape _ _) rfl 3 (by decide) gw_102 rfl rfl rfl (Nat.le_of_ble_eq_true rfl) (sh_tape _ _) dX6_cutToken_16 (fun H locs hP hS => ?_)
  refine lv_iload_n hx hb dX6_cutToken_19 rfl (lv_at hl 0 rfl) ?_
  refine lv_bipush (v := 59) hx hb dX6_cutToken_20 (by decide) ?_
  refine lv_icmp_eq (tgt := 37) hx hb dX6_cutToken_22 (by decide) (fun c2 => ?_) (fun c2 => ?_)
  · have dc2 := c2
    rw [i_eq] at dc2
    refine lv_aload_n hx hb dX6_cutToken_37 rfl (lv_at hl 1 rfl) ?_
    refine lv_iconst (v := 3) hx hb dX6_cutToken_38 (by decide) ?_
    refine fputx (ref := "") (w := 3) hx hb ht inG6 tyX6 tyX6_ok nmX6 hown hK hP hI hS (k := 2) (by decide) (sh_tape _ _) rfl 4 (by decide) gw_105 rfl rfl rfl (Nat.le_of_ble_eq_true rfl) (sh_tape _ _) dX6_cutToken_39 (fun H locs hP hS => ?_)
    exact ret_v hx hb hr hlk hP hS dX6_cutToken_42 (⟨by first | with_reducible rfl | (simp only [cuS, isSg, c2, ↓reduceIte, Bool.false_eq_true]; done) | (simp only [cuS, isSg, c2, ↓reduceIte, Bool.false_eq_true]; rfl) | rfl, by first | with_reducible rfl | (simp only [cuS, isSg, c2, ↓reduceIte, Bool.false_eq_true]; done) | (simp only [cuS, isSg, c2, ↓reduceIte, Bool.false_eq_true]; rfl) | rfl, rfl⟩)
  · have dc2 := c2
    rw [i_eq] at dc2
    refine lv_iload_n hx hb dX6_cutToken_25 rfl (lv_at hl 0 rfl) ?_
    refine lv_bipush (v := 61) hx hb dX6_cutToken_26 (by decide) ?_
    refine lv_icmp_eq (tgt := 37) hx hb dX6_cutToken_28 (by decide) (fun c3 => ?_) (fun c3 => ?_)
    · have dc3 := c3
      rw [i_eq] at dc3
      refine lv_aload_n hx hb dX6_cutToken_37 rfl (lv_at hl 1 rfl) ?_
      refine lv_iconst (v := 3) hx hb dX6_cutToken_38 (by decide) ?_
      refine fputx (ref := "") (w := 3) hx hb ht inG6 tyX6 tyX6_ok nmX6 hown hK hP hI hS (k := 2) (by decide) (sh_tape _ _) rfl 4 (by decide) gw_105 rfl rfl rfl (Nat.le_of_ble_eq_true rfl) (sh_tape _ _) dX6_cutToken_39 (fun H locs hP hS => ?_)
      exact ret_v hx hb hr hlk hP hS dX6_cutToken_42 (⟨by first | with_reducible rfl | (simp only [cuS, isSg, c2, c3, ↓reduceIte, Bool.false_eq_true]; done) | (simp only [cuS, isSg, c2, c3, ↓reduceIte, Bool.false_eq_true]; rfl) | rfl, by first | with_reducible rfl | (simp only [cuS, isSg, c2, c3, ↓reduceIte, Bool.false_eq_true]; done) | (simp only [cuS, isSg, c2, c3, ↓reduceIte, Bool.false_eq_true]; rfl) | rfl, rfl⟩)
    · have dc3 := c3
      rw [i_eq] at dc3
      refine lv_iload_n hx hb dX6_cutToken_31 rfl (lv_at hl 0 rfl) ?_
      refine lv_bipush (v := 43) hx hb dX6_cutToken_32 (by decide) ?_
      refine lv_icmp_ne (tgt := 43) hx hb dX6_cutToken_34 (by decide) (fun c4 => ?_) (fun c4 => ?_)
      · have dc4 := c4
        rw [i_eq] at dc4
        refine lv_iconst (v := 0) hx hb dX6_cutToken_43 (by decide) ?_
        refine lv_istore_n (lv' := [(2, .int 0), (1, .int (btS (σ 3) (σ 2 1) ((σ 2) 2))), (0, .ref (ad 2))]) hx hb dX6_cutToken_44 rfl hl (by decide) rfl (fun ls hl => ?_)
        refine lv_iconst (v := 0) hx hb dX6_cutToken_45 (by decide) ?_
        refine lv_istore_n (lv' := [(3, .int 0), (2, .int 0), (1, .int (btS (σ 3) (σ 2 1) ((σ 2) 2))), (0, .ref (ad 2))]) hx hb dX6_cutToken_46 rfl hl (by decide) rfl (fun ls hl => ?_)
        refine lv_aload_n hx hb dX6_cutToken_47 rfl (lv_at hl 3 rfl) ?_
        refine lv_iconst (v := 0) hx hb dX6_cutToken_48 (by decide) ?_
        refine fputx (ref := "") (w := 0) hx hb ht inG6 tyX6 tyX6_ok nmX6 hown hK hP hI hS (k := 2) (by decide) (sh_tape _ _) rfl 5 (by decide) gw_106 rfl rfl rfl (Nat.le_of_ble_eq_true rfl) (sh_tape _ _) dX6_cutToken_49 (fun H locs hP hS => ?_)
        refine lv_aload_n hx hb dX6_cutToken_52 rfl (lv_at hl 3 rfl) ?_
        refine fgetx hx hb ht inG6 hown hK hP (k := 2) (by decide) (x := (upd (upd (σ 2) 3 (((σ 2) 2) + 1)) 5 0)) ((s2_k _ _ _ _).trans (congrArg (fun f => upd f 5 0) (s2_k _ _ _ _))) (sh_tape _ _) rfl 2 (by decide) gw_101 (v := .int ((σ 2) 2)) rfl dX6_cutToken_53 ?_
        refine lv_istore (lv' := [(4, .int ((σ 2) 2)), (3, .int 0), (2, .int 0), (1, .int (btS (σ 3) (σ 2 1) ((σ 2) 2))), (0, .ref (ad 2))]) hx hb dX6_cutToken_56 hl (by decide) rfl (fun ls hl => ?_)
        exact lp_X6_cut hI hx hb hr ht hown hlk hml hK hN 741 _ _ _ _ (by have := mea_le (σ 2 2); omega) (by simp only [isSg, c2, c3, c4, ↓reduceIte]) rfl _ _ hP hS ls (lv_sub hl [0, 1, 2, 4] rfl)
      · have dc4 := c4
        rw [i_eq] at dc4
        refine lv_aload_n hx hb dX6_cutToken_37 rfl (lv_at hl 1 rfl) ?_
        refine lv_iconst (v := 3) hx hb dX6_cutToken_38 (by decide) ?_
        refine fputx (ref := "") (w := 3) hx hb ht inG6 tyX6 tyX6_ok nmX6 hown hK hP hI hS (k := 2) (by decide) (sh_tape _ _) rfl 4 (by decide) gw_105 rfl rfl rfl (Nat.le_of_ble_eq_true rfl) (sh_tape _ _) dX6_cutToken_39 (fun H locs hP hS => ?_)
        exact ret_v hx hb hr hlk hP hS dX6_cutToken_42 (⟨by first | with_reducible rfl | (simp only [cuS, isSg, c2, c3, c4, ↓reduceIte, Bool.false_eq_true]; done) | (simp only [cuS, isSg, c2, c3, c4, ↓reduceIte, Bool.false_eq_true]; rfl) | rfl, by first | with_reducible rfl | (simp only [cuS, isSg, c2, c3, c4, ↓reduceIte, Bool.false_eq_true]; done) | (simp only [cuS, isSg, c2, c3, c4, ↓reduceIte, Bool.false_eq_true]; rfl) | rfl, rfl⟩)
set_option maxHeartbeats 4000000 in
set_option maxRecDepth 100000 in
theorem lp_X6_adv {l : Launch} {D : va_G} {ca : Nat → ClassId} {ad : Nat → Nat} (hI : Inj 158 ad) {σ : MI} {τ : ML}  {p : Program} {e : Env} {s : State} {m : MethodId} {args : Array Value} {below : List Frame} {meth : Method} {c : Code} (hx : p.tables.exec = Jvm.exec) (hb : c.code = cX6_advance) (hr : meth.sig.returnType = none) (ht : ∀ w ∈ GG, w.before args s = true) (hown : s.vm.findClass yX6_advance.cls = some m.cls) (hlk : meth.locks = false) (hml : c.maxLocals = 1) (hK : va_K D vwCl (TY ca) s) (hN : NW s) : ∀ (n : Nat) (y : Int32) (hn : meaT y < n) (hR : skS (σ 3) (σ 2 1) n y = skS (σ 3) (σ 2 1) 741 (σ 2 3)) (H : Heap) (locs : List Loc) (hP : PW D 158 ad (cxf ca ad) (s2 σ 2 2 y) τ H) (hS : va_S (AA 158 ad) s.heap H locs) (ls : Array Slot) (hl : lv_has ls 1 [(0, .ref (ad 2))]), W p l e { frames := 2, cells := 0, slots := 0, locals := 49 } s m args below meth c H locs 0 0 (MQ below (QD D 158 ad (cxf ca ad) (fun v_ S_ T_ => none = v_ ∧ (adS σ) = S_ ∧ τ = T_)) args s 0 0 (AA 158 ad)) (F0 m 8 ls []) := by
  intro n
  induction n with
  | zero => intro y hn hR H locs hP hS ls hl; exfalso; omega
  | succ n ih =>
    intro y hn hR H locs hP hS ls hl
    refine lv_aload_n hx hb dX6_advance_8 rfl (lv_at hl 0 rfl) ?_
    refine fgetx hx hb ht inG6 hown hK hP (k := 2) (by decide) (x := (upd (σ 2) 2 y)) (s2_k _ _ _ _) (sh_tape _ _) rfl 2 (by decide) gw_101 (v := .int y) rfl dX6_advance_9 ?_
    refine lv_aload_n hx hb dX6_advance_12 rfl (lv_at hl 0 rfl) ?_
    refine fgetx hx hb ht inG6 hown hK hP (k := 2) (by decide) (x := (upd (σ 2) 2 y)) (s2_k _ _ _ _) (sh_tape _ _) rfl 1 (by decide) gw_98 (v := .int ((σ 2) 1)) rfl dX6_advance_13 ?_
    refine lv_icmp_ge (tgt := 46) hx hb dX6_advance_16 (by decide) (fun c1 => ?_) (fun c1 => ?_)
    · have dc1 := c1
      rw [i_le] at dc1
      have hy : adT σ = s2 σ 2 2 y := by rw [adT, ← hR, skS, if_pos c1]
      have hy2 : adT σ 2 2 = y := by rw [hy, s2_eq]
      refine lv_aload_n hx hb dX6_advance_46 rfl (lv_at hl 0 rfl) ?_
      refine fgetx hx hb ht inG6 hown hK hP (k := 2) (by decide) (x := (upd (σ 2) 2 y)) (s2_k _ _ _ _) (sh_tape _ _) rfl 2 (by decide) gw_101 (v := .int y) rfl dX6_advance_47 ?_
      refine lv_sipush (v := 700) hx hb dX6_advance_50 (by decide) ?_
      refine lv_icmp_lt (tgt := 81) hx hb dX6_advance_53 (by decide) (fun c2 => ?_) (fun c2 => ?_)
      · have dc2 := c2
        rw [i_lt] at dc2
        refine lv_aload_n hx hb dX6_advance_81 rfl (lv_at hl 0 rfl) ?_
        refine fgetx hx hb ht inG6 hown hK hP (k := 2) (by decide) (x := (upd (σ 2) 2 y)) (s2_k _ _ _ _) (sh_tape _ _) rfl 2 (by decide) gw_101 (v := .int y) rfl dX6_advance_82 ?_
        refine lv_aload_n hx hb dX6_advance_85 rfl (lv_at hl 0 rfl) ?_
        refine fgetx hx hb ht inG6 hown hK hP (k := 2) (by decide) (x := (upd (σ 2) 2 y)) (s2_k _ _ _ _) (sh_tape _ _) rfl 1 (by decide) gw_98 (v := .int ((σ 2) 1)) rfl dX6_advance_86 ?_
        refine lv_icmp_lt (tgt := 100) hx hb dX6_advance_89 (by decide) (fun c3 => ?_) (fun c3 => ?_)
        · have dc3 := c3
          rw [i_lt] at dc3
          refine lv_aload_n hx hb dX6_advance_100 rfl (lv_at hl 0 rfl) ?_
          refine callv (y := yX6_cutToken) ⟨hx, hb, hml, hown, ht⟩ hK hN hP hS (k := 2) (c_X6_cutToken l D ca ad hI (s2 σ 2 2 y) τ ) (by decide) (sh_tape _ _) rfl ok_X6_cutToken gw_403 ⟨by decide, by decide⟩ rfl hl.1 rfl (Nat.le_of_ble_eq_true rfl) ⟨by decide, by decide⟩ dX6_advance_101 (fun v_ S_ T_ H locs hp4 hP hS => ?_)
          obtain ⟨rfl, rfl, rfl⟩ := hp4
          try dsimp only [Option.toList, List.cons_append, List.nil_append]
          exact ret_v hx hb hr hlk hP hS dX6_advance_104 (⟨rfl, by simp only [adS, hy2, c2, c3, ↓reduceIte]; rw [hy], rfl⟩)
        · have dc3 := c3
          rw [i_lt] at dc3
          refine lv_aload_n hx hb dX6_advance_92 rfl (lv_at hl 0 rfl) ?_
          refine lv_iconst (v := 4) hx hb dX6_advance_93 (by decide) ?_
          refine fputx (ref := "") (w := 4) hx hb ht inG6 tyX6 tyX6_ok nmX6 hown hK hP hI hS (k := 2) (by decide) (sh_tape _ _) rfl 4 (by decide) gw_105 rfl rfl rfl (Nat.le_of_ble_eq_true rfl) (sh_tape _ _) dX6_advance_94 (fun H locs hP hS => ?_)
          refine lv_goto (tgt := 104) hx hb dX6_advance_97 (by decide) ?_
          exact ret_v hx hb hr hlk hP hS dX6_advance_104 (⟨rfl, by simp only [adS, hy2, c2, c3, ↓reduceIte]; rw [hy], rfl⟩)
      · have dc2 := c2
        rw [i_lt] at dc2
        refine lv_aload_n hx hb dX6_advance_56 rfl (lv_at hl 0 rfl) ?_
        refine fgetx hx hb ht inG6 hown hK hP (k := 2) (by decide) (x := (upd (σ 2) 2 y)) (s2_k _ _ _ _) (sh_tape _ _) rfl 1 (by decide) gw_98 (v := .int ((σ 2) 1)) rfl dX6_advance_57 ?_
        refine lv_sipush (v := 700) hx hb dX6_advance_60 (by decide) ?_
        refine lv_icmp_le (tgt := 81) hx hb dX6_advance_63 (by decide) (fun c5 => ?_) (fun c5 => ?_)
        · have dc5 := c5
          rw [i_le] at dc5
          refine lv_aload_n hx hb dX6_advance_81 rfl (lv_at hl 0 rfl) ?_
          refine fgetx hx hb ht inG6 hown hK hP (k := 2) (by decide) (x := (upd (σ 2) 2 y)) (s2_k _ _ _ _) (sh_tape _ _) rfl 2 (by decide) gw_101 (v := .int y) rfl dX6_advance_82 ?_
          refine lv_aload_n hx hb dX6_advance_85 rfl (lv_at hl 0 rfl) ?_
          refine fgetx hx hb ht inG6 hown hK hP (k := 2) (by decide) (x := (upd (σ 2) 2 y)) (s2_k _ _ _ _) (sh_tape _ _) rfl 1 (by decide) gw_98 (v := .int ((σ 2) 1)) rfl dX6_advance_86 ?_
          refine lv_icmp_lt (tgt := 100) hx hb dX6_advance_89 (by decide) (fun c6 => ?_) (fun c6 => ?_)
          · have dc6 := c6
            rw [i_lt] at dc6
            refine lv_aload_n hx hb dX6_advance_100 rfl (lv_at hl 0 rfl) ?_
            refine callv (y := yX6_cutToken) ⟨hx, hb, hml, hown, ht⟩ hK hN hP hS (k := 2) (c_X6_cutToken l D ca ad hI (s2 σ 2 2 y) τ ) (by decide) (sh_tape _ _) rfl ok_X6_cutToken gw_403 ⟨by decide, by decide⟩ rfl hl.1 rfl (Nat.le_of_ble_eq_true rfl) ⟨by decide, by decide⟩ dX6_advance_101 (fun v_ S_ T_ H locs hp7 hP hS => ?_)
            obtain ⟨rfl, rfl, rfl⟩ := hp7
            try dsimp only [Option.toList, List.cons_append, List.nil_append]
            exact ret_v hx hb hr hlk hP hS dX6_advance_104 (⟨rfl, by simp only [adS, hy2, c2, c5, c6, ↓reduceIte]; rw [hy], rfl⟩)
          · have dc6 := c6
            rw [i_lt] at dc6
            refine lv_aload_n hx hb dX6_advance_92 rfl (lv_at hl 0 rfl) ?_
            refine lv_iconst (v := 4) hx hb dX6_advance_93 (by decide) ?_
            refine fputx (ref := "") (w := 4) hx hb ht inG6 tyX6 tyX6_ok nmX6 hown hK hP hI hS (k := 2) (by decide) (sh_tape _ _) rfl 4 (by decide) gw_105 rfl rfl rfl (Nat.le_of_ble_eq_true rfl) (sh_tape _ _) dX6_advance_94 (fun H locs hP hS => ?_)
            refine lv_goto (tgt := 104) hx hb dX6_advance_97 (by decide) ?_
            exact ret_v hx hb hr hlk hP hS dX6_advance_104 (⟨rfl, by simp only [adS, hy2, c2, c5, c6, ↓reduceIte]; rw [hy], rfl⟩)
        · have dc5 := c5
          rw [i_le] at dc5
          refine lv_aload_n hx hb dX6_advance_66 rfl (lv_at hl 0 rfl) ?_
          refine lv_sipush (v := 700) hx hb dX6_advance_67 (by decide) ?_
          refine fputx (ref := "") (w := 700) hx hb ht inG6 tyX6 tyX6_ok nmX6 hown hK hP hI hS (k := 2) (by decide) (sh_tape _ _) rfl 2 (by decide) gw_101 rfl rfl rfl (Nat.le_of_ble_eq_true rfl) (sh_tape _ _) dX6_advance_70 (fun H locs hP hS => ?_)
          refine lv_aload_n hx hb dX6_advance_73 rfl (lv_at hl 0 rfl) ?_
          refine lv_iconst (v := 0) hx hb dX6_advance_74 (by decide) ?_
          refine fputx (ref := "") (w := 0) hx hb ht inG6 tyX6 tyX6_ok nmX6 hown hK hP hI hS (k := 2) (by decide) (sh_tape _ _) rfl 4 (by decide) gw_105 rfl rfl rfl (Nat.le_of_ble_eq_true rfl) (sh_tape _ _) dX6_advance_75 (fun H locs hP hS => ?_)
          refine lv_goto (tgt := 104) hx hb dX6_advance_78 (by decide) ?_
          exact ret_v hx hb hr hlk hP hS dX6_advance_104 (⟨rfl, by simp only [adS, hy2, c2, c5, ↓reduceIte]; rw [hy], rfl⟩)
    · have dc1 := c1
      rw [i_le] at dc1
      refine lv_aload_n hx hb dX6_advance_19 rfl (lv_at hl 0 rfl) ?_
      refine lv_aload_n hx hb dX6_advance_20 rfl (lv_at hl 0 rfl) ?_
      refine fgetx hx hb ht inG6 hown hK hP (k := 2) (by decide) (x := (upd (σ 2) 2 y)) (s2_k _ _ _ _) (sh_tape _ _) rfl 2 (by decide) gw_101 (v := .int y) rfl dX6_advance_21 ?_
      refine callv (y := yX6_byteAt) ⟨hx, hb, hml, hown, ht⟩ hK hN hP hS (k := 2) (c_X6_byteAt l D ca ad hI (s2 σ 2 2 y) τ y) (by decide) (sh_tape _ _) rfl ok_X6_byteAt gw_396 ⟨by decide, by decide⟩ rfl hl.1 rfl (Nat.le_of_ble_eq_true rfl) ⟨by decide, by decide⟩ dX6_advance_24 (fun v_ S_ T_ H locs hp8 hP hS => ?_)
      obtain ⟨rfl, rfl, rfl⟩ := hp8
      try dsimp only [Option.toList, List.cons_append, List.nil_append]
      refine stk_i (v := (btS ((σ 3)) ((σ 2) 1) y)) (by first | (rw [(show (s2 σ 2 2 y) 3 = (σ 3) from (s2_nk _ _ _ (by omega))), (show (s2 σ 2 2 y) 2 = (upd (σ 2) 2 y) from (s2_k _ _ _ _))]; done) | (rw [(show (s2 σ 2 2 y) 3 = (σ 3) from (s2_nk _ _ _ (by omega))), (show (s2 σ 2 2 y) 2 = (upd (σ 2) 2 y) from (s2_k _ _ _ _))]; rfl)) ?_
      refine calls (y := yX6_isBlank) ⟨hx, hb, hml, hown, ht⟩ hK hN hP hS (c_X6_isBlank l D ca ad hI (s2 σ 2 2 y) τ (btS ((σ 3)) ((σ 2) 1) y)) ok_X6_isBlank gw_400 ⟨by decide, by decide⟩ rfl hl.1 rfl (Nat.le_of_ble_eq_true rfl) ⟨by decide, by decide⟩ dX6_advance_27 (fun v_ S_ T_ H locs hp9 hP hS => ?_)
      obtain ⟨rfl, rfl, rfl⟩ := hp9
      try dsimp only [Option.toList, List.cons_append, List.nil_append]
      refine br_eq (tgt := 46) hx hb dX6_advance_30 (by decide) (fun c10 => ?_) (fun c10 => ?_)
      · have hy : adT σ = s2 σ 2 2 y := by rw [adT, ← hR, skS, if_neg c1, if_neg (by rw [c10]; decide)]
        have hy2 : adT σ 2 2 = y := by rw [hy, s2_eq]
        refine lv_aload_n hx hb dX6_advance_46 rfl (lv_at hl 0 rfl) ?_
        refine fgetx hx hb ht inG6 hown hK hP (k := 2) (by decide) (x := (upd (σ 2) 2 y)) (s2_k _ _ _ _) (sh_tape _ _) rfl 2 (by decide) gw_101 (v := .int y) rfl dX6_advance_47 ?_
        refine lv_sipush (v := 700) hx hb dX6_advance_50 (by decide) ?_
        refine lv_icmp_lt (tgt := 81) hx hb dX6_advance_53 (by decide) (fun c11 => ?_) (fun c11 => ?_)
        · have dc11 := c11
          rw [i_lt] at dc11
          refine lv_aload_n hx hb dX6_advance_81 rfl (lv_at hl 0 rfl) ?_
          refine fgetx hx hb ht inG6 hown hK hP (k := 2) (by decide) (x := (upd (σ 2) 2 y)) (s2_k _ _ _ _) (sh_tape _ _) rfl 2 (by decide) gw_101 (v := .int y) rfl dX6_advance_82 ?_
          refine lv_aload_n hx hb dX6_advance_85 rfl (lv_at hl 0 rfl) ?_
          refine fgetx hx hb ht inG6 hown hK hP (k := 2) (by decide) (x := (upd (σ 2) 2 y)) (s2_k _ _ _ _) (sh_tape _ _) rfl 1 (by decide) gw_98 (v := .int ((σ 2) 1)) rfl dX6_advance_86 ?_
          refine lv_icmp_lt (tgt := 100) hx hb dX6_advance_89 (by decide) (fun c12 => ?_) (fun c12 => ?_)
          · have dc12 := c12
            rw [i_lt] at dc12
            refine lv_aload_n hx hb dX6_advance_100 rfl (lv_at hl 0 rfl) ?_
            refine callv (y := yX6_cutToken) ⟨hx, hb, hml, hown, ht⟩ hK hN hP hS (k := 2) (c_X6_cutToken l D ca ad hI (s2 σ 2 2 y) τ ) (by decide) (sh_tape _ _) rfl ok_X6_cutToken gw_403 ⟨by decide, by decide⟩ rfl hl.1 rfl (Nat.le_of_ble_eq_true rfl) ⟨by decide, by decide⟩ dX6_advance_101 (fun v_ S_ T_ H locs hp13 hP hS => ?_)
            obtain ⟨rfl, rfl, rfl⟩ := hp13
            try dsimp only [Option.toList, List.cons_append, List.nil_append]
            exact ret_v hx hb hr hlk hP hS dX6_advance_104 (⟨rfl, by simp only [adS, hy2, c10, c11, c12, ↓reduceIte]; rw [hy], rfl⟩)
          · have dc12 := c12
            rw [i_lt] at dc12
            refine lv_aload_n hx hb dX6_advance_92 rfl (lv_at hl 0 rfl) ?_
            refine lv_iconst (v := 4) hx hb dX6_advance_93 (by decide) ?_
            refine fputx (ref := "") (w := 4) hx hb ht inG6 tyX6 tyX6_ok nmX6 hown hK hP hI hS (k := 2) (by decide) (sh_tape _ _) rfl 4 (by decide) gw_105 rfl rfl rfl (Nat.le_of_ble_eq_true rfl) (sh_tape _ _) dX6_advance_94 (fun H locs hP hS => ?_)
            refine lv_goto (tgt := 104) hx hb dX6_advance_97 (by decide) ?_
            exact ret_v hx hb hr hlk hP hS dX6_advance_104 (⟨rfl, by simp only [adS, hy2, c10, c11, c12, ↓reduceIte]; rw [hy], rfl⟩)
        · have dc11 := c11
          rw [i_lt] at dc11
          refine lv_aload_n hx hb dX6_advance_56 rfl (lv_at hl 0 rfl) ?_
          refine fgetx hx hb ht inG6 hown hK hP (k := 2) (by decide) (x := (upd (σ 2) 2 y)) (s2_k _ _ _ _) (sh_tape _ _) rfl 1 (by decide) gw_98 (v := .int ((σ 2) 1)) rfl dX6_advance_57 ?_
          refine lv_sipush (v := 700) hx hb dX6_advance_60 (by decide) ?_
          refine lv_icmp_le (tgt := 81) hx hb dX6_advance_63 (by decide) (fun c14 => ?_) (fun c14 => ?_)
          · have dc14 := c14
            rw [i_le] at dc14
            refine lv_aload_n hx hb dX6_advance_81 rfl (lv_at hl 0 rfl) ?_
            refine fgetx hx hb ht inG6 hown hK hP (k := 2) (by decide) (x := (upd (σ 2) 2 y)) (s2_k _ _ _ _) (sh_tape _ _) rfl 2 (by decide) gw_101 (v := .int y) rfl dX6_advance_82 ?_
            refine lv_aload_n hx hb dX6_advance_85 rfl (lv_at hl 0 rfl) ?_
            refine fgetx hx hb ht inG6 hown hK hP (k := 2) (by decide) (x := (upd (σ 2) 2 y)) (s2_k _ _ _ _) (sh_tape _ _) rfl 1 (by decide) gw_98 (v := .int ((σ 2) 1)) rfl dX6_advance_86 ?_
            refine lv_icmp_lt (tgt := 100) hx hb dX6_advance_89 (by decide) (fun c15 => ?_) (fun c15 => ?_)
            · have dc15 := c15
              rw [i_lt] at dc15
              refine lv_aload_n hx hb dX6_advance_100 rfl (lv_at hl 0 rfl) ?_
              refine callv (y := yX6_cutToken) ⟨hx, hb, hml, hown, ht⟩ hK hN hP hS (k := 2) (c_X6_cutToken l D ca ad hI (s2 σ 2 2 y) τ ) (by decide) (sh_tape _ _) rfl ok_X6_cutToken gw_403 ⟨by decide, by decide⟩ rfl hl.1 rfl (Nat.le_of_ble_eq_true rfl) ⟨by decide, by decide⟩ dX6_advance_101 (fun v_ S_ T_ H locs hp16 hP hS => ?_)
              obtain ⟨rfl, rfl, rfl⟩ := hp16
              try dsimp only [Option.toList, List.cons_append, List.nil_append]
              exact ret_v hx hb hr hlk hP hS dX6_advance_104 (⟨rfl, by simp only [adS, hy2, c10, c11, c14, c15, ↓reduceIte]; rw [hy], rfl⟩)
            · have dc15 := c15
              rw [i_lt] at dc15
              refine lv_aload_n hx hb dX6_advance_92 rfl (lv_at hl 0 rfl) ?_
              refine lv_iconst (v := 4) hx hb dX6_advance_93 (by decide) ?_
              refine fputx (ref := "") (w := 4) hx hb ht inG6 tyX6 tyX6_ok nmX6 hown hK hP hI hS (k := 2) (by decide) (sh_tape _ _) rfl 4 (by decide) gw_105 rfl rfl rfl (Nat.le_of_ble_eq_true rfl) (sh_tape _ _) dX6_advance_94 (fun H locs hP hS => ?_)
              refine lv_goto (tgt := 104) hx hb dX6_advance_97 (by decide) ?_
              exact ret_v hx hb hr hlk hP hS dX6_advance_104 (⟨rfl, by simp only [adS, hy2, c10, c11, c14, c15, ↓reduceIte]; rw [hy], rfl⟩)
          · have dc14 := c14
            rw [i_le] at dc14
            refine lv_aload_n hx hb dX6_advance_66 rfl (lv_at hl 0 rfl) ?_
            refine lv_sipush (v := 700) hx hb dX6_advance_67 (by decide) ?_
            refine fputx (ref := "") (w := 700) hx hb ht inG6 tyX6 tyX6_ok nmX6 hown hK hP hI hS (k := 2) (by decide) (sh_tape _ _) rfl 2 (by decide) gw_101 rfl rfl rfl (Nat.le_of_ble_eq_true rfl) (sh_tape _ _) dX6_advance_70 (fun H locs hP hS => ?_)
            refine lv_aload_n hx hb dX6_advance_73 rfl (lv_at hl 0 rfl) ?_
            refine lv_iconst (v := 0) hx hb dX6_advance_74 (by decide) ?_
            refine fputx (ref := "") (w := 0) hx hb ht inG6 tyX6 tyX6_ok nmX6 hown hK hP hI hS (k := 2) (by decide) (sh_tape _ _) rfl 4 (by decide) gw_105 rfl rfl rfl (Nat.le_of_ble_eq_true rfl) (sh_tape _ _) dX6_advance_75 (fun H locs hP hS => ?_)
            refine lv_goto (tgt := 104) hx hb dX6_advance_78 (by decide) ?_
            exact ret_v hx hb hr hlk hP hS dX6_advance_104 (⟨rfl, by simp only [adS, hy2, c10, c11, c14, ↓reduceIte]; rw [hy], rfl⟩)
      · refine lv_aload_n hx hb dX6_advance_33 rfl (lv_at hl 0 rfl) ?_
        refine lv_dup hx hb dX6_advance_34 rfl ?_
        refine fgetx hx hb ht inG6 hown hK hP (k := 2) (by decide) (x := (upd (σ 2) 2 y)) (s2_k _ _ _ _) (sh_tape _ _) rfl 2 (by decide) gw_101 (v := .int y) rfl dX6_advance_35 ?_
        refine lv_iconst (v := 1) hx hb dX6_advance_38 (by decide) ?_
        refine lv_iadd hx hb dX6_advance_39 ?_
        refine fputx (ref := "") (w := y + 1) hx hb ht inG6 tyX6 tyX6_ok nmX6 hown hK hP hI hS (k := 2) (by decide) (sh_tape _ _) rfl 2 (by decide) gw_101 rfl rfl rfl (Nat.le_of_ble_eq_true rfl) (sh_tape _ _) dX6_advance_40 (fun H locs hP hS => ?_)
        refine lv_goto (tgt := 8) hx hb dX6_advance_43 (by decide) ?_
        rw [s2_s2] at hP
        exact ih (y + 1) (by have := mea_bl c10; omega) (by rw [← hR]; simp only [skS, c1, c10, ↓reduceIte]) _ _ hP hS ls (lv_sub hl [0] rfl)
set_option maxHeartbeats 4000000 in
set_option maxRecDepth 100000 in
theorem c_X6_advance (l : Launch) (D : va_G) (ca : Nat → ClassId) (ad : Nat → Nat) (hI : Inj 158 ad) (σ : MI) (τ : ML)  : CT l D (TY ca) 158 ad (cxf ca ad) yX6_advance cX6_advance 1 none 2 49 [.ref (ad 2)] σ τ (fun v_ S_ T_ => none = v_ ∧ (adS σ) = S_ ∧ τ = T_) := by
  refine CT.of (by decide) (Nat.le_of_ble_eq_true rfl) ?_
  intro p e s m args below meth c hx hb hr ht hown hlk hml hP hK hN hS ls hl
  have hl : lv_has ls 1 [(0, .ref (ad 2))] := hl
  refine lv_aload_n hx hb dX6_advance_0 rfl (lv_at hl 0 rfl) ?_
  refine lv_aload_n hx hb dX6_advance_1 rfl (lv_at hl 0 rfl) ?_
  refine fgetx hx hb ht inG6 hown hK hP (k := 2) (by decide) (x := (σ 2)) rfl (sh_tape _ _) rfl 3 (by decide) gw_102 (v := .int ((σ 2) 3)) rfl dX6_advance_2 ?_
  refine fputx (ref := "") (w := (σ 2) 3) hx hb ht inG6 tyX6 tyX6_ok nmX6 hown hK hP hI hS (k := 2) (by decide) (sh_tape _ _) rfl 2 (by decide) gw_101 rfl rfl rfl (Nat.le_of_ble_eq_true rfl) (sh_tape _ _) dX6_advance_5 (fun H locs hP hS => ?_)
  exact lp_X6_adv hI hx hb hr ht hown hlk hml hK hN 741 _ (by have := mea_le (σ 2 3); omega) rfl _ _ hP hS ls hl
set_option maxHeartbeats 4000000 in
set_option maxRecDepth 100000 in
theorem c_X6_begin (l : Launch) (D : va_G) (ca : Nat → ClassId) (ad : Nat → Nat) (hI : Inj 158 ad) (σ : MI) (τ : ML)  : CT l D (TY ca) 158 ad (cxf ca ad) yX6_begin cX6_begin 1 none 3 69 [.ref (ad 2)] σ τ (fun v_ S_ T_ => none = v_ ∧ (adS (s2 σ 2 3 0)) = S_ ∧ τ = T_) := by
  refine CT.of (by decide) (Nat.le_of_ble_eq_true rfl) ?_
  intro p e s m args below meth c hx hb hr ht hown hlk hml hP hK hN hS ls hl
  have hl : lv_has ls 1 [(0, .ref (ad 2))] := hl
  refine lv_aload_n hx hb dX6_begin_0 rfl (lv_at hl 0 rfl) ?_
  refine lv_iconst (v := 0) hx hb dX6_begin_1 (by decide) ?_
  refine fputx (ref := "") (w := 0) hx hb ht inG6 tyX6 tyX6_ok nmX6 hown hK hP hI hS (k := 2) (by decide) (sh_tape _ _) rfl 3 (by decide) gw_102 rfl rfl rfl (Nat.le_of_ble_eq_true rfl) (sh_tape _ _) dX6_begin_2 (fun H locs hP hS => ?_)
  refine lv_aload_n hx hb dX6_begin_5 rfl (lv_at hl 0 rfl) ?_
  refine callv (y := yX6_advance) ⟨hx, hb, hml, hown, ht⟩ hK hN hP hS (k := 2) (c_X6_advance l D ca ad hI (s2 σ 2 3 0) τ ) (by decide) (sh_tape _ _) rfl ok_X6_advance gw_392 ⟨by decide, by decide⟩ rfl hl.1 rfl (Nat.le_of_ble_eq_true rfl) ⟨by decide, by decide⟩ dX6_begin_6 (fun v_ S_ T_ H locs hp1 hP hS => ?_)
  obtain ⟨rfl, rfl, rfl⟩ := hp1
  try dsimp only [Option.toList, List.cons_append, List.nil_append]
  exact ret_v hx hb hr hlk hP hS dX6_begin_9 (⟨by first | with_reducible rfl | (simp only [↓reduceIte, Bool.false_eq_true]; done) | (simp only [↓reduceIte, Bool.false_eq_true]; rfl) | rfl, by first | with_reducible rfl | (simp only [↓reduceIte, Bool.false_eq_true]; done) | (simp only [↓reduceIte, Bool.false_eq_true]; rfl) | rfl, rfl⟩)
set_option maxHeartbeats 4000000 in
set_option maxRecDepth 100000 in
theorem c_X6_isSign (l : Launch) (D : va_G) (ca : Nat → ClassId) (ad : Nat → Nat) (hI : Inj 158 ad) (σ : MI) (τ : ML) (x : Int32) : CT l D (TY ca) 158 ad (cxf ca ad) yX6_isSign cX6_isSign 2 (some .boolean) 1 21 [.ref (ad 2), .int x] σ τ (fun v_ S_ T_ => some (.int (b2i (sigS σ x))) = v_ ∧ σ = S_ ∧ τ = T_) := by
  refine CT.of (by decide) (Nat.le_of_ble_eq_true rfl) ?_
  intro p e s m args below meth c hx hb hr ht hown hlk hml hP hK hN hS ls hl
  have hl : lv_has ls 2 [(0, .ref (ad 2)), (1, .int x)] := hl
  refine lv_aload_n hx hb dX6_isSign_0 rfl (lv_at hl 0 rfl) ?_
  refine fgetx hx hb ht inG6 hown hK hP (k := 2) (by decide) (x := (σ 2)) rfl (sh_tape _ _) rfl 4 (by decide) gw_105 (v := .int ((σ 2) 4)) rfl dX6_isSign_1 ?_
  refine lv_iconst (v := 3) hx hb dX6_isSign_4 (by decide) ?_
  refine lv_icmp_ne (tgt := 24) hx hb dX6_isSign_5 (by decide) (fun c1 => ?_) (fun c1 => ?_)
  · have dc1 := c1
    rw [i_eq] at dc1
    refine lv_iconst (v := 0) hx hb dX6_isSign_24 (by decide) ?_
    exact ret_z hx hb hr hlk hP hS dX6_isSign_25 (b := false) rfl (⟨by first | with_reducible rfl | (simp only [sigS, c1, ↓reduceIte, Bool.false_eq_true]; done) | (simp only [sigS, c1, ↓reduceIte, Bool.false_eq_true]; rfl) | rfl, by first | with_reducible rfl | (simp only [sigS, c1, ↓reduceIte, Bool.false_eq_true]; done) | (simp only [sigS, c1, ↓reduceIte, Bool.false_eq_true]; rfl) | rfl, rfl⟩)
  · have dc1 := c1
    rw [i_eq] at dc1
    refine lv_aload_n hx hb dX6_isSign_8 rfl (lv_at hl 0 rfl) ?_
    refine lv_aload_n hx hb dX6_isSign_9 rfl (lv_at hl 0 rfl) ?_
    refine fgetx hx hb ht inG6 hown hK hP (k := 2) (by decide) (x := (σ 2)) rfl (sh_tape _ _) rfl 2 (by decide) gw_101 (v := .int ((σ 2) 2)) rfl dX6_isSign_10 ?_
    refine callv (y := yX6_byteAt) ⟨hx, hb, hml, hown, ht⟩ hK hN hP hS (k := 2) (c_X6_byteAt l D ca ad hI σ τ ((σ 2) 2)) (by decide) (sh_tape _ _) rfl ok_X6_byteAt gw_396 ⟨by decide, by decide⟩ rfl hl.1 rfl (Nat.le_of_ble_eq_true rfl) ⟨by decide, by decide⟩ dX6_isSign_13 (fun v_ S_ T_ H locs hp2 hP hS => ?_)
    obtain ⟨rfl, rfl, rfl⟩ := hp2
    try dsimp only [Option.toList, List.cons_append, List.nil_append]
    refine lv_iload_n hx hb dX6_isSign_16 rfl (lv_at hl 1 rfl) ?_
    refine lv_icmp_ne (tgt := 24) hx hb dX6_isSign_17 (by decide) (fun c3 => ?_) (fun c3 => ?_)
    · have dc3 := c3
      rw [i_eq] at dc3
      refine lv_iconst (v := 0) hx hb dX6_isSign_24 (by decide) ?_
      exact ret_z hx hb hr hlk hP hS dX6_isSign_25 (b := false) rfl (⟨by first | with_reducible rfl | (simp only [sigS, c1, c3, ↓reduceIte, Bool.false_eq_true]; done) | (simp only [sigS, c1, c3, ↓reduceIte, Bool.false_eq_true]; rfl) | rfl, by first | with_reducible rfl | (simp only [sigS, c1, c3, ↓reduceIte, Bool.false_eq_true]; done) | (simp only [sigS, c1, c3, ↓reduceIte, Bool.false_eq_true]; rfl) | rfl, rfl⟩)
    · have dc3 := c3
      rw [i_eq] at dc3
      refine lv_iconst (v := 1) hx hb dX6_isSign_20 (by decide) ?_
      refine lv_goto (tgt := 25) hx hb dX6_isSign_21 (by decide) ?_
      exact ret_z hx hb hr hlk hP hS dX6_isSign_25 (b := true) rfl (⟨by first | with_reducible rfl | (simp only [sigS, c1, c3, ↓reduceIte, Bool.false_eq_true]; done) | (simp only [sigS, c1, c3, ↓reduceIte, Bool.false_eq_true]; rfl) | rfl, by first | with_reducible rfl | (simp only [sigS, c1, c3, ↓reduceIte, Bool.false_eq_true]; done) | (simp only [sigS, c1, c3, ↓reduceIte, Bool.false_eq_true]; rfl) | rfl, rfl⟩)
set_option maxHeartbeats 4000000 in
set_option maxRecDepth 100000 in
theorem lp_X6_same {l : Launch} {D : va_G} {ca : Nat → ClassId} {ad : Nat → Nat} (hI : Inj 158 ad) {σ : MI} {τ : ML} (pl sz : Int32) {p : Program} {e : Env} {s : State} {m : MethodId} {args : Array Value} {below : List Frame} {meth : Method} {c : Code} (hx : p.tables.exec = Jvm.exec) (hb : c.code = cX6_isSameAs) (hr : meth.sig.returnType = (some .boolean)) (ht : ∀ w ∈ GG, w.before args s = true) (hown : s.vm.findClass yX6_isSameAs.cls = some m.cls) (hlk : meth.locks = false) (hml : c.maxLocals = 4) (hK : va_K D vwCl (TY ca) s) (hN : NW s) : ∀ (n : Nat) (k : Nat) (hk : k ≤ sz.toNatClampNeg) (hn : sz.toNatClampNeg - k < n) (hk1 : σ 2 4 = 1) (hk2 : σ 2 3 - σ 2 2 = sz) (hall : ∀ j, j < k → (fun k => decide (btS (σ 3) (σ 2 1) (σ 2 2 + nI k) = btS (σ 3) (σ 2 1) (pl + nI k))) j = true) (H : Heap) (locs : List Loc) (hP : PW D 158 ad (cxf ca ad) σ τ H) (hS : va_S (AA 158 ad) s.heap H locs) (ls : Array Slot) (hl : lv_has ls 4 [(3, .int (nI k)), (0, .ref (ad 2)), (1, .int pl), (2, .int sz)]), W p l e { frames := 1, cells := 0, slots := 0, locals := 21 } s m args below meth c H locs 0 0 (MQ below (QD D 158 ad (cxf ca ad) (fun v_ S_ T_ => some (.int (b2i (samS σ pl sz))) = v_ ∧ σ = S_ ∧ τ = T_)) args s 0 0 (AA 158 ad)) (F0 m 25 ls []) := by
  intro n
  induction n with
  | zero => intro k hk hn hk1 hk2 hall H locs hP hS ls hl; exfalso; omega
  | succ n ih =>
    intro k hk hn hk1 hk2 hall H locs hP hS ls hl
    have hc := clampI sz
    have hr9 := fb_rng sz
    have ek : (nI k).toInt = k := nI_toInt (by omega)
    refine lv_iload_n hx hb dX6_isSameAs_25 rfl (lv_at hl 0 rfl) ?_
    refine lv_iload_n hx hb dX6_isSameAs_26 rfl (lv_at hl 3 rfl) ?_
    refine lv_icmp_ge (tgt := 58) hx hb dX6_isSameAs_27 (by decide) (fun c1 => ?_) (fun c1 => ?_)
    · have dc1 := c1
      rw [i_le] at dc1
      refine lv_iconst (v := 1) hx hb dX6_isSameAs_58 (by decide) ?_
      exact ret_z hx hb hr hlk hP hS dX6_isSameAs_59 (b := true) rfl (⟨by simp only [samS, hk1, hk2, ↓reduceIte]; rw [allS_t (fun j hj => hall j (by omega))], rfl, rfl⟩)
    · have dc1 := c1
      rw [i_le] at dc1
      refine lv_aload_n hx hb dX6_isSameAs_30 rfl (lv_at hl 1 rfl) ?_
      refine lv_aload_n hx hb dX6_isSameAs_31 rfl (lv_at hl 1 rfl) ?_
      refine fgetx hx hb ht inG6 hown hK hP (k := 2) (by decide) (x := (σ 2)) rfl (sh_tape _ _) rfl 2 (by decide) gw_101 (v := .int ((σ 2) 2)) rfl dX6_isSameAs_32 ?_
      refine lv_iload_n hx hb dX6_isSameAs_35 rfl (lv_at hl 0 rfl) ?_
      refine lv_iadd hx hb dX6_isSameAs_36 ?_
      refine callv (y := yX6_byteAt) ⟨hx, hb, hml, hown, ht⟩ hK hN hP hS (k := 2) (c_X6_byteAt l D ca ad hI σ τ (((σ 2) 2) + (nI k))) (by decide) (sh_tape _ _) rfl ok_X6_byteAt gw_396 ⟨by decide, by decide⟩ rfl hl.1 rfl (Nat.le_of_ble_eq_true rfl) ⟨by decide, by decide⟩ dX6_isSameAs_37 (fun v_ S_ T_ H locs hp2 hP hS => ?_)
      obtain ⟨rfl, rfl, rfl⟩ := hp2
      try dsimp only [Option.toList, List.cons_append, List.nil_append]
      refine lv_aload_n hx hb dX6_isSameAs_40 rfl (lv_at hl 1 rfl) ?_
      refine lv_iload_n hx hb dX6_isSameAs_41 rfl (lv_at hl 2 rfl) ?_
      refine lv_iload_n hx hb dX6_isSameAs_42 rfl (lv_at hl 0 rfl) ?_
      refine lv_iadd hx hb dX6_isSameAs_43 ?_
      refine callv (y := yX6_byteAt) ⟨hx, hb, hml, hown, ht⟩ hK hN hP hS (k := 2) (c_X6_byteAt l D ca ad hI σ τ (pl + (nI k))) (by decide) (sh_tape _ _) rfl ok_X6_byteAt gw_396 ⟨by decide, by decide⟩ rfl hl.1 rfl (Nat.le_of_ble_eq_true rfl) ⟨by decide, by decide⟩ dX6_isSameAs_44 (fun v_ S_ T_ H locs hp3 hP hS => ?_)
      obtain ⟨rfl, rfl, rfl⟩ := hp3
      try dsimp only [Option.toList, List.cons_append, List.nil_append]
      refine lv_icmp_eq (tgt := 52) hx hb dX6_isSameAs_47 (by decide) (fun c4 => ?_) (fun c4 => ?_)
      · have dc4 := c4
        rw [i_eq] at dc4
        refine lv_iinc (v := (nI k) + 1) (lv' := [(3, .int ((nI k) + 1)), (0, .ref (ad 2)), (1, .int pl), (2, .int sz)]) hx hb dX6_isSameAs_52 hl (k := 0) rfl rfl (by decide) rfl (fun ls hl => ?_)
        refine lv_goto (tgt := 25) hx hb dX6_isSameAs_55 (by decide) ?_
        rw [nI_1] at hl
        exact ih (k + 1) (by omega) (by omega) hk1 hk2 (fun j hj => by rcases (by omega : j < k ∨ j = k) with q | q; exact hall j q; rw [q]; exact decide_eq_true c4) _ _ hP hS ls (lv_sub hl [0, 1, 2, 3] rfl)
      · have dc4 := c4
        rw [i_eq] at dc4
        refine lv_iconst (v := 0) hx hb dX6_isSameAs_50 (by decide) ?_
        exact ret_z hx hb hr hlk hP hS dX6_isSameAs_51 (b := false) rfl (⟨by simp only [samS, hk1, hk2, ↓reduceIte]; rw [allS_f (k := k) (by omega) (decide_eq_false c4)], rfl, rfl⟩)
set_option maxHeartbeats 4000000 in
set_option maxRecDepth 100000 in
theorem c_X6_isSameAs (l : Launch) (D : va_G) (ca : Nat → ClassId) (ad : Nat → Nat) (hI : Inj 158 ad) (σ : MI) (τ : ML) (pl sz : Int32) : CT l D (TY ca) 158 ad (cxf ca ad) yX6_isSameAs cX6_isSameAs 4 (some .boolean) 1 21 [.ref (ad 2), .int pl, .int sz] σ τ (fun v_ S_ T_ => some (.int (b2i (samS σ pl sz))) = v_ ∧ σ = S_ ∧ τ = T_) := by
  refine CT.of (by decide) (Nat.le_of_ble_eq_true rfl) ?_
  intro p e s m args below meth c hx hb hr ht hown hlk hml hP hK hN hS ls hl
  have hl : lv_has ls 4 [(0, .ref (ad 2)), (1, .int pl), (2, .int sz)] := hl
  refine lv_aload_n hx hb dX6_isSameAs_0 rfl (lv_at hl 0 rfl) ?_
  refine fgetx hx hb ht inG6 hown hK hP (k := 2) (by decide) (x := (σ 2)) rfl (sh_tape _ _) rfl 4 (by decide) gw_105 (v := .int ((σ 2) 4)) rfl dX6_isSameAs_1 ?_
  refine lv_iconst (v := 1) hx hb dX6_isSameAs_4 (by decide) ?_
  refine lv_icmp_ne (tgt := 21) hx hb dX6_isSameAs_5 (by decide) (fun c1 => ?_) (fun c1 => ?_)
  · have dc1 := c1
    rw [i_eq] at dc1
    refine lv_iconst (v := 0) hx hb dX6_isSameAs_21 (by decide) ?_
    exact ret_z hx hb hr hlk hP hS dX6_isSameAs_22 (b := false) rfl (⟨by first | with_reducible rfl | (simp only [samS, c1, ↓reduceIte, Bool.false_eq_true]; done) | (simp only [samS, c1, ↓reduceIte, Bool.false_eq_true]; rfl) | rfl, by first | with_reducible rfl | (simp only [samS, c1, ↓reduceIte, Bool.false_eq_true]; done) | (simp only [samS, c1, ↓reduceIte, Bool.false_eq_true]; rfl) | rfl, rfl⟩)
  · have dc1 := c1
    rw [i_eq] at dc1
    refine lv_aload_n hx hb dX6_isSameAs_8 rfl (lv_at hl 0 rfl) ?_
    refine fgetx hx hb ht inG6 hown hK hP (k := 2) (by decide) (x := (σ 2)) rfl (sh_tape _ _) rfl 3 (by decide) gw_102 (v := .int ((σ 2) 3)) rfl dX6_isSameAs_9 ?_
    refine lv_aload_n hx hb dX6_isSameAs_12 rfl (lv_at hl 0 rfl) ?_
    refine fgetx hx hb ht inG6 hown hK hP (k := 2) (by decide) (x := (σ 2)) rfl (sh_tape _ _) rfl 2 (by decide) gw_101 (v := .int ((σ 2) 2)) rfl dX6_isSameAs_13 ?_
    refine lv_isub hx hb dX6_isSameAs_16 ?_
    refine lv_iload_n hx hb dX6_isSameAs_17 rfl (lv_at hl 2 rfl) ?_
    refine lv_icmp_eq (tgt := 23) hx hb dX6_isSameAs_18 (by decide) (fun c2 => ?_) (fun c2 => ?_)
    · have dc2 := c2
      rw [i_eq] at dc2
      refine lv_iconst (v := 0) hx hb dX6_isSameAs_23 (by decide) ?_
      refine lv_istore_n (lv' := [(3, .int 0), (0, .ref (ad 2)), (1, .int pl), (2, .int sz)]) hx hb dX6_isSameAs_24 rfl hl (by decide) rfl (fun ls hl => ?_)
      exact lp_X6_same hI pl sz hx hb hr ht hown hlk hml hK hN (sz.toNatClampNeg + 1) 0 (by omega) (by omega) c1 c2 (fun j hj => by omega) _ _ hP hS ls hl
    · have dc2 := c2
      rw [i_eq] at dc2
      refine lv_iconst (v := 0) hx hb dX6_isSameAs_21 (by decide) ?_
      exact ret_z hx hb hr hlk hP hS dX6_isSameAs_22 (b := false) rfl (⟨by first | with_reducible rfl | (simp only [samS, c1, c2, ↓reduceIte, Bool.false_eq_true]; done) | (simp only [samS, c1, c2, ↓reduceIte, Bool.false_eq_true]; rfl) | rfl, by first | with_reducible rfl | (simp only [samS, c1, c2, ↓reduceIte, Bool.false_eq_true]; done) | (simp only [samS, c1, c2, ↓reduceIte, Bool.false_eq_true]; rfl) | rfl, rfl⟩)
set_option maxHeartbeats 4000000 in
set_option maxRecDepth 100000 in
theorem c_X8_feed (l : Launch) (D : va_G) (ca : Nat → ClassId) (ad : Nat → Nat) (hI : Inj 158 ad) (σ : MI) (τ : ML) (a b_ c_ d e_ : Int32) : CT l D (TY ca) 158 ad (cxf ca ad) yX8_feed cX8_feed 7 (some .int) 1 22 [.ref (ad 0), .int a, .int b_, .int c_, .int d, .int e_] σ τ (fun v_ S_ T_ => some (.int (feR σ a b_ c_ d e_)) = v_ ∧ (feM σ a b_ c_ d e_) = S_ ∧ τ = T_) := by
  refine CT.of (by decide) (Nat.le_of_ble_eq_true rfl) ?_
  intro p e s m args below meth c hx hb hr ht hown hlk hml hP hK hN hS ls hl
  have hl : lv_has ls 7 [(0, .ref (ad 0)), (1, .int a), (2, .int b_), (3, .int c_), (4, .int d), (5, .int e_)] := hl
  have hbz := bz_lt (σ 0 1)
  refine lv_aload_n hx hb dX8_feed_0 rfl (lv_at hl 0 rfl) ?_
  refine fgetx hx hb ht inG8 hown hK hP (k := 0) (by decide) (x := (σ 0)) rfl (sh_desk _ _) rfl 0 (by decide) gw_351 (v := .ref (ad 1)) rfl dX8_feed_1 ?_
  refine fgetxN hx hb ht inG7 hown hK hP (k := 1) (by decide) (x := (σ 1)) rfl (sh_read _ _) rfl 0 (by decide) (hN.get 236 nw_236 rfl) (v := .ref (ad 2)) rfl dX8_feed_4 ?_
  refine lv_astore (lv' := [(6, .ref (ad 2)), (0, .ref (ad 0)), (1, .int a), (2, .int b_), (3, .int c_), (4, .int d), (5, .int e_)]) hx hb dX8_feed_7 hl (by decide) rfl (fun ls hl => ?_)
  refine lv_aload hx hb dX8_feed_9 (lv_at hl 0 rfl) ?_
  refine fgetxN hx hb ht inG6 hown hK hP (k := 2) (by decide) (x := (σ 2)) rfl (sh_tape _ _) rfl 1 (by decide) (hN.get 99 nw_99 rfl) (v := .int ((σ 2) 1)) rfl dX8_feed_11 ?_
  refine lv_bipush (v := 20) hx hb dX8_feed_14 (by decide) ?_
  refine lv_iadd hx hb dX8_feed_16 ?_
  refine lv_sipush (v := 740) hx hb dX8_feed_17 (by decide) ?_
  refine lv_icmp_le (tgt := 25) hx hb dX8_feed_20 (by decide) (fun c1 => ?_) (fun c1 => ?_)
  · have dc1 := c1
    rw [i_le] at dc1
    refine lv_aload hx hb dX8_feed_25 (lv_at hl 0 rfl) ?_
    refine lv_iload_n hx hb dX8_feed_27 rfl (lv_at hl 2 rfl) ?_
    refine callv (y := yX6_append) ⟨hx, hb, hml, hown, ht⟩ hK hN hP hS (k := 2) (c_X6_append l D ca ad hI σ τ a) (by decide) (sh_tape _ _) rfl ok_X6_append gw_368 ⟨by decide, by decide⟩ rfl hl.1 rfl (Nat.le_of_ble_eq_true rfl) ⟨by decide, by decide⟩ dX8_feed_28 (fun v_ S_ T_ H locs hp2 hP hS => ?_)
    obtain ⟨rfl, rfl, rfl⟩ := hp2
    try dsimp only [Option.toList, List.cons_append, List.nil_append]
    refine lv_aload hx hb dX8_feed_31 (lv_at hl 0 rfl) ?_
    refine lv_iload_n hx hb dX8_feed_33 rfl (lv_at hl 3 rfl) ?_
    refine callv (y := yX6_append) ⟨hx, hb, hml, hown, ht⟩ hK hN hP hS (k := 2) (c_X6_append l D ca ad hI (apS σ a 4) τ b_) (by decide) (sh_tape _ _) rfl ok_X6_append gw_368 ⟨by decide, by decide⟩ rfl hl.1 rfl (Nat.le_of_ble_eq_true rfl) ⟨by decide, by decide⟩ dX8_feed_34 (fun v_ S_ T_ H locs hp3 hP hS => ?_)
    obtain ⟨rfl, rfl, rfl⟩ := hp3
    try dsimp only [Option.toList, List.cons_append, List.nil_append]
    refine lv_aload hx hb dX8_feed_37 (lv_at hl 0 rfl) ?_
    refine lv_iload_n hx hb dX8_feed_39 rfl (lv_at hl 4 rfl) ?_
    refine callv (y := yX6_append) ⟨hx, hb, hml, hown, ht⟩ hK hN hP hS (k := 2) (c_X6_append l D ca ad hI (apS (apS σ a 4) b_ 4) τ c_) (by decide) (sh_tape _ _) rfl ok_X6_append gw_368 ⟨by decide, by decide⟩ rfl hl.1 rfl (Nat.le_of_ble_eq_true rfl) ⟨by decide, by decide⟩ dX8_feed_40 (fun v_ S_ T_ H locs hp4 hP hS => ?_)
    obtain ⟨rfl, rfl, rfl⟩ := hp4
    try dsimp only [Option.toList, List.cons_append, List.nil_append]
    refine lv_aload hx hb dX8_feed_43 (lv_at hl 0 rfl) ?_
    refine lv_iload hx hb dX8_feed_45 (lv_at hl 5 rfl) ?_
    refine callv (y := yX6_append) ⟨hx, hb, hml, hown, ht⟩ hK hN hP hS (k := 2) (c_X6_append l D ca ad hI (apS (apS (apS σ a 4) b_ 4) c_ 4) τ d) (by decide) (sh_tape _ _) rfl ok_X6_append gw_368 ⟨by decide, by decide⟩ rfl hl.1 rfl (Nat.le_of_ble_eq_true rfl) ⟨by decide, by decide⟩ dX8_feed_47 (fun v_ S_ T_ H locs hp5 hP hS => ?_)
    obtain ⟨rfl, rfl, rfl⟩ := hp5
    try dsimp only [Option.toList, List.cons_append, List.nil_append]
    refine lv_aload hx hb dX8_feed_50 (lv_at hl 0 rfl) ?_
    refine lv_iload hx hb dX8_feed_52 (lv_at hl 6 rfl) ?_
    refine callv (y := yX6_append) ⟨hx, hb, hml, hown, ht⟩ hK hN hP hS (k := 2) (c_X6_append l D ca ad hI (apS (apS (apS (apS σ a 4) b_ 4) c_ 4) d 4) τ e_) (by decide) (sh_tape _ _) rfl ok_X6_append gw_368 ⟨by decide, by decide⟩ rfl hl.1 rfl (Nat.le_of_ble_eq_true rfl) ⟨by decide, by decide⟩ dX8_feed_54 (fun v_ S_ T_ H locs hp6 hP hS => ?_)
    obtain ⟨rfl, rfl, rfl⟩ := hp6
    try dsimp only [Option.toList, List.cons_append, List.nil_append]
    refine lv_aload hx hb dX8_feed_57 (lv_at hl 0 rfl) ?_
    refine fgetxN hx hb ht inG6 hown hK hP (k := 2) (by decide) (x := ((apS (apS (apS (apS (apS σ a 4) b_ 4) c_ 4) d 4) e_ 4) 2)) rfl (sh_tape _ _) rfl 1 (by decide) (hN.get 99 nw_99 rfl) (v := .int (((apS (apS (apS (apS (apS σ a 4) b_ 4) c_ 4) d 4) e_ 4) 2) 1)) rfl dX8_feed_59 ?_
    exact ret_i hx hb hr hlk hP hS dX8_feed_62 (⟨by first | with_reducible rfl | (simp only [feR, feM, c1, ↓reduceIte, Bool.false_eq_true]; done) | (simp only [feR, feM, c1, ↓reduceIte, Bool.false_eq_true]; rfl) | rfl, by first | with_reducible rfl | (simp only [feR, feM, c1, ↓reduceIte, Bool.false_eq_true]; done) | (simp only [feR, feM, c1, ↓reduceIte, Bool.false_eq_true]; rfl) | rfl, rfl⟩)
  · have dc1 := c1
    rw [i_le] at dc1
    refine lv_iconst (v := -1) hx hb dX8_feed_23 (by decide) ?_
    exact ret_i hx hb hr hlk hP hS dX8_feed_24 (⟨by first | with_reducible rfl | (simp only [feR, feM, c1, ↓reduceIte, Bool.false_eq_true]; done) | (simp only [feR, feM, c1, ↓reduceIte, Bool.false_eq_true]; rfl) | rfl, by first | with_reducible rfl | (simp only [feR, feM, c1, ↓reduceIte, Bool.false_eq_true]; done) | (simp only [feR, feM, c1, ↓reduceIte, Bool.false_eq_true]; rfl) | rfl, rfl⟩)
