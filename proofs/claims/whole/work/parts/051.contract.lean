set_option maxHeartbeats 4000000 in
set_option maxRecDepth 100000 in
theorem c_X1_addTerm (l : Launch) (D : va_G) (ca : Nat → ClassId) (ad : Nat → Nat) (hI : Inj 158 ad) (σ : MI) (τ : ML) {b i : Nat} (hb2 : b < 2) (hi : i < 6) (w x : Int32) : CT l D (TY ca) 158 ad (cxf ca ad) yX1_addTerm cX1_addTerm 3 none 0 0 [.ref (ad (83 + 57 * b + 3 * i)), .int w, .int x] σ τ (fun v_ S_ T_ => none = v_ ∧ (addTS σ b i w x) = S_ ∧ τ = T_) := by
  refine CT.of (by decide) (Nat.le_of_ble_eq_true rfl) ?_
  intro p e s m args below meth c hx hb hr ht hown hlk hml hP hK hN hS ls hl
  have hl : lv_has ls 3 [(0, .ref (ad (83 + 57 * b + 3 * i))), (1, .int w), (2, .int x)] := hl
  refine lv_aload_n hx hb dX1_addTerm_0 rfl (lv_at hl 0 rfl) ?_
  refine fgetx hx hb ht inG1 hown hK hP (k := (83 + 57 * b + 3 * i)) (by omega) (x := (σ (83 + 57 * b + 3 * i))) rfl (sh_cont _ _ hb2 hi) rfl 6 (by decide) gw_185 (v := .int ((σ (83 + 57 * b + 3 * i)) 6)) rfl dX1_addTerm_1 ?_
  refine lv_if_lt (tgt := 46) hx hb dX1_addTerm_4 (by decide) (fun c1 => ?_) (fun c1 => ?_)
  · have dc1 := c1
    rw [i_lt] at dc1
    exact ret_v hx hb hr hlk hP hS dX1_addTerm_46 (⟨by first | with_reducible rfl | (simp only [addTS, c1, ↓reduceIte, Bool.false_eq_true]; done) | (simp only [addTS, c1, ↓reduceIte, Bool.false_eq_true]; rfl) | rfl, by first | with_reducible rfl | (simp only [addTS, c1, ↓reduceIte, Bool.false_eq_true]; done) | (simp only [addTS, c1, ↓reduceIte, Bool.false_eq_true]; rfl) | rfl, rfl⟩)
  · have dc1 := c1
    rw [i_lt] at dc1
    refine lv_aload_n hx hb dX1_addTerm_7 rfl (lv_at hl 0 rfl) ?_
    refine fgetx hx hb ht inG1 hown hK hP (k := (83 + 57 * b + 3 * i)) (by omega) (x := (σ (83 + 57 * b + 3 * i))) rfl (sh_cont _ _ hb2 hi) rfl 6 (by decide) gw_185 (v := .int ((σ (83 + 57 * b + 3 * i)) 6)) rfl dX1_addTerm_8 ?_
    refine lv_bipush (v := 6) hx hb dX1_addTerm_11 (by decide) ?_
    refine lv_icmp_ge (tgt := 46) hx hb dX1_addTerm_13 (by decide) (fun c2 => ?_) (fun c2 => ?_)
    · have dc2 := c2
      rw [i_le] at dc2
      exact ret_v hx hb hr hlk hP hS dX1_addTerm_46 (⟨by first | with_reducible rfl | (simp only [addTS, c1, c2, ↓reduceIte, Bool.false_eq_true]; done) | (simp only [addTS, c1, c2, ↓reduceIte, Bool.false_eq_true]; rfl) | rfl, by first | with_reducible rfl | (simp only [addTS, c1, c2, ↓reduceIte, Bool.false_eq_true]; done) | (simp only [addTS, c1, c2, ↓reduceIte, Bool.false_eq_true]; rfl) | rfl, rfl⟩)
    · have dc2 := c2
      rw [i_le] at dc2
      refine lv_aload_n hx hb dX1_addTerm_16 rfl (lv_at hl 0 rfl) ?_
      refine fgetx hx hb ht inG1 hown hK hP (k := (83 + 57 * b + 3 * i)) (by omega) (x := (σ (83 + 57 * b + 3 * i))) rfl (sh_cont _ _ hb2 hi) rfl 7 (by decide) gw_189 (v := .ref (ad (84 + 57 * b + 3 * i))) rfl dX1_addTerm_17 ?_
      refine lv_aload_n hx hb dX1_addTerm_20 rfl (lv_at hl 0 rfl) ?_
      refine fgetx hx hb ht inG1 hown hK hP (k := (83 + 57 * b + 3 * i)) (by omega) (x := (σ (83 + 57 * b + 3 * i))) rfl (sh_cont _ _ hb2 hi) rfl 6 (by decide) gw_185 (v := .int ((σ (83 + 57 * b + 3 * i)) 6)) rfl dX1_addTerm_21 ?_
      refine lv_iload_n hx hb dX1_addTerm_24 rfl (lv_at hl 1 rfl) ?_
      refine astj hx hb hK hP hI hS (k := (84 + 57 * b + 3 * i)) (by omega) 0 (fun f => sh_wgts f _ hb2 hi) rfl (in_lt (n := 6) ‹_› ‹_› rfl) (j := ((σ (83 + 57 * b + 3 * i)) 6).toNatClampNeg) rfl dX1_addTerm_25 (fun H locs hP hS => ?_)
      refine lv_aload_n hx hb dX1_addTerm_26 rfl (lv_at hl 0 rfl) ?_
      refine fgetx hx hb ht inG1 hown hK hP (k := (83 + 57 * b + 3 * i)) (by omega) (x := (σ (83 + 57 * b + 3 * i))) (s2_nk _ _ _ (by omega)) (sh_cont _ _ hb2 hi) rfl 8 (by decide) gw_191 (v := .ref (ad (85 + 57 * b + 3 * i))) rfl dX1_addTerm_27 ?_
      refine lv_aload_n hx hb dX1_addTerm_30 rfl (lv_at hl 0 rfl) ?_
      refine fgetx hx hb ht inG1 hown hK hP (k := (83 + 57 * b + 3 * i)) (by omega) (x := (σ (83 + 57 * b + 3 * i))) (s2_nk _ _ _ (by omega)) (sh_cont _ _ hb2 hi) rfl 6 (by decide) gw_185 (v := .int ((σ (83 + 57 * b + 3 * i)) 6)) rfl dX1_addTerm_31 ?_
      refine lv_iload_n hx hb dX1_addTerm_34 rfl (lv_at hl 2 rfl) ?_
      refine astj hx hb hK hP hI hS (k := (85 + 57 * b + 3 * i)) (by omega) 0 (fun f => sh_cixs f _ hb2 hi) rfl (in_lt (n := 6) ‹_› ‹_› rfl) (j := ((σ (83 + 57 * b + 3 * i)) 6).toNatClampNeg) rfl dX1_addTerm_35 (fun H locs hP hS => ?_)
      refine lv_aload_n hx hb dX1_addTerm_36 rfl (lv_at hl 0 rfl) ?_
      refine lv_dup hx hb dX1_addTerm_37 rfl ?_
      refine fgetx hx hb ht inG1 hown hK hP (k := (83 + 57 * b + 3 * i)) (by omega) (x := (σ (83 + 57 * b + 3 * i))) ((s2_nk _ _ _ (by omega)).trans (s2_nk _ _ _ (by omega))) (sh_cont _ _ hb2 hi) rfl 6 (by decide) gw_185 (v := .int ((σ (83 + 57 * b + 3 * i)) 6)) rfl dX1_addTerm_38 ?_
      refine lv_iconst (v := 1) hx hb dX1_addTerm_41 (by decide) ?_
      refine lv_iadd hx hb dX1_addTerm_42 ?_
      refine fputx (ref := "") (w := ((σ (83 + 57 * b + 3 * i)) 6) + 1) hx hb ht inG1 tyX1 tyX1_ok nmX1 hown hK hP hI hS (k := (83 + 57 * b + 3 * i)) (by omega) (sh_cont _ _ hb2 hi) rfl 6 (by decide) gw_185 rfl rfl rfl (Nat.le_of_ble_eq_true rfl) (sh_cont _ _ hb2 hi) dX1_addTerm_43 (fun H locs hP hS => ?_)
      exact ret_v hx hb hr hlk hP hS dX1_addTerm_46 (⟨by first | with_reducible rfl | (simp only [addTS, c1, c2, ↓reduceIte, Bool.false_eq_true]; done) | (simp only [addTS, c1, c2, ↓reduceIte, Bool.false_eq_true]; rfl) | rfl, by first | with_reducible rfl | (simp only [addTS, c1, c2, ↓reduceIte, Bool.false_eq_true]; done) | (simp only [addTS, c1, c2, ↓reduceIte, Bool.false_eq_true]; rfl) | rfl, rfl⟩)
set_option maxHeartbeats 4000000 in
set_option maxRecDepth 100000 in
theorem lp_X1_uses {l : Launch} {D : va_G} {ca : Nat → ClassId} {ad : Nat → Nat} (hI : Inj 158 ad) {σ : MI} {τ : ML} {b i : Nat} (hb2 : b < 2) (hi : i < 6) (x : Int32) {p : Program} {e : Env} {s : State} {m : MethodId} {args : Array Value} {below : List Frame} {meth : Method} {c : Code} (hx : p.tables.exec = Jvm.exec) (hb : c.code = cX1_usesIndex) (hr : meth.sig.returnType = (some .boolean)) (ht : ∀ w ∈ GG, w.before args s = true) (hown : s.vm.findClass yX1_usesIndex.cls = some m.cls) (hlk : meth.locks = false) (hml : c.maxLocals = 3) (hK : va_K D vwCl (TY ca) s) (hN : NW s) : ∀ (n : Nat) (k : Nat) (hk : k ≤ kmin (σ (83 + 57 * b + 3 * i) 6) 6) (hn : kmin (σ (83 + 57 * b + 3 * i) 6) 6 - k < n) (hno : ∀ j, j < k → σ (85 + 57 * b + 3 * i) j ≠ x) (H : Heap) (locs : List Loc) (hP : PW D 158 ad (cxf ca ad) σ τ H) (hS : va_S (AA 158 ad) s.heap H locs) (ls : Array Slot) (hl : lv_has ls 3 [(2, .int (nI k)), (0, .ref (ad (83 + 57 * b + 3 * i))), (1, .int x)]), W p l e { frames := 0, cells := 0, slots := 0, locals := 0 } s m args below meth c H locs 0 0 (MQ below (QD D 158 ad (cxf ca ad) (fun v_ S_ T_ => some (.int (b2i (anyS (σ (85 + 57 * b + 3 * i)) x (kmin (σ (83 + 57 * b + 3 * i) 6) 6)))) = v_ ∧ σ = S_ ∧ τ = T_)) args s 0 0 (AA 158 ad)) (F0 m 2 ls []) := by
  intro n
  induction n with
  | zero => intro k hk hn hno H locs hP hS ls hl; exact absurd ‹_› (by omega)
  | succ n ih =>
    intro k hk hn hno H locs hP hS ls hl
    have eM : (6 : Int32).toInt = 6 := rfl
    have hc := clampI (σ (83 + 57 * b + 3 * i) 6)
    have hm : kmin (σ (83 + 57 * b + 3 * i) 6) 6 = min (σ (83 + 57 * b + 3 * i) 6).toNatClampNeg 6 := rfl
    have ek : (nI k).toInt = k := nI_toInt (by omega)
    refine lv_iload_n hx hb dX1_usesIndex_2 rfl (lv_at hl 0 rfl) ?_
    refine lv_aload_n hx hb dX1_usesIndex_3 rfl (lv_at hl 1 rfl) ?_
    refine fgetx hx hb ht inG1 hown hK hP (k := (83 + 57 * b + 3 * i)) (by omega) (x := (σ (83 + 57 * b + 3 * i))) rfl (sh_cont _ _ hb2 hi) rfl 6 (by decide) gw_185 (v := .int ((σ (83 + 57 * b + 3 * i)) 6)) rfl dX1_usesIndex_4 ?_
    refine lv_icmp_ge (tgt := 34) hx hb dX1_usesIndex_7 (by decide) (fun c1 => ?_) (fun c1 => ?_)
    · have dc1 := c1
      rw [i_le] at dc1
      have hke : k = kmin (σ (83 + 57 * b + 3 * i) 6) 6 := by omega
      refine lv_iconst (v := 0) hx hb dX1_usesIndex_34 (by decide) ?_
      exact ret_z hx hb hr hlk hP hS dX1_usesIndex_35 (b := false) rfl (⟨by rw [anyS_f (by rw [← hke]; exact hno)], rfl, rfl⟩)
    · have dc1 := c1
      rw [i_le] at dc1
      refine lv_iload_n hx hb dX1_usesIndex_10 rfl (lv_at hl 0 rfl) ?_
      refine lv_bipush (v := 6) hx hb dX1_usesIndex_11 (by decide) ?_
      refine lv_icmp_ge (tgt := 34) hx hb dX1_usesIndex_13 (by decide) (fun c2 => ?_) (fun c2 => ?_)
      · have dc2 := c2
        rw [i_le] at dc2
        have hke : k = kmin (σ (83 + 57 * b + 3 * i) 6) 6 := by omega
        refine lv_iconst (v := 0) hx hb dX1_usesIndex_34 (by decide) ?_
        exact ret_z hx hb hr hlk hP hS dX1_usesIndex_35 (b := false) rfl (⟨by rw [anyS_f (by rw [← hke]; exact hno)], rfl, rfl⟩)
      · have dc2 := c2
        rw [i_le] at dc2
        refine lv_aload_n hx hb dX1_usesIndex_16 rfl (lv_at hl 1 rfl) ?_
        refine fgetx hx hb ht inG1 hown hK hP (k := (83 + 57 * b + 3 * i)) (by omega) (x := (σ (83 + 57 * b + 3 * i))) rfl (sh_cont _ _ hb2 hi) rfl 8 (by decide) gw_191 (v := .ref (ad (85 + 57 * b + 3 * i))) rfl dX1_usesIndex_17 ?_
        refine lv_iload_n hx hb dX1_usesIndex_20 rfl (lv_at hl 0 rfl) ?_
        refine aldj hx hb hK hP (k := (85 + 57 * b + 3 * i)) (by omega) (x := (σ (85 + 57 * b + 3 * i))) rfl 0 (sh_cixs _ _ hb2 hi) rfl (by rw [vp_in_iff]; omega) (j := k) (nI_clamp (by omega)) dX1_usesIndex_21 ?_
        refine lv_iload_n hx hb dX1_usesIndex_22 rfl (lv_at hl 2 rfl) ?_
        refine lv_icmp_ne (tgt := 28) hx hb dX1_usesIndex_23 (by decide) (fun c3 => ?_) (fun c3 => ?_)
        · have dc3 := c3
          rw [i_eq] at dc3
          refine lv_iinc (v := (nI k) + 1) (lv' := [(2, .int ((nI k) + 1)), (0, .ref (ad (83 + 57 * b + 3 * i))), (1, .int x)]) hx hb dX1_usesIndex_28 hl (k := 0) rfl rfl (by decide) rfl (fun ls hl => ?_)
          refine lv_goto (tgt := 2) hx hb dX1_usesIndex_31 (by decide) ?_
          rw [nI_1] at hl
          exact ih (k + 1) (by omega) (by omega) (fun j hj => by rcases (by omega : j < k ∨ j = k) with q | q; exact hno j q; rw [q]; exact c3) _ _ hP hS ls (lv_sub hl [0, 1, 2] rfl)
        · have dc3 := c3
          rw [i_eq] at dc3
          refine lv_iconst (v := 1) hx hb dX1_usesIndex_26 (by decide) ?_
          exact ret_z hx hb hr hlk hP hS dX1_usesIndex_27 (b := true) rfl (⟨by rw [anyS_t (k := k) (by omega) c3], rfl, rfl⟩)
set_option maxHeartbeats 4000000 in
set_option maxRecDepth 100000 in
theorem c_X1_usesIndex (l : Launch) (D : va_G) (ca : Nat → ClassId) (ad : Nat → Nat) (hI : Inj 158 ad) (σ : MI) (τ : ML) {b i : Nat} (hb2 : b < 2) (hi : i < 6) (x : Int32) : CT l D (TY ca) 158 ad (cxf ca ad) yX1_usesIndex cX1_usesIndex 3 (some .boolean) 0 0 [.ref (ad (83 + 57 * b + 3 * i)), .int x] σ τ (fun v_ S_ T_ => some (.int (b2i (anyS (σ (85 + 57 * b + 3 * i)) x (kmin (σ (83 + 57 * b + 3 * i) 6) 6)))) = v_ ∧ σ = S_ ∧ τ = T_) := by
  refine CT.of (by decide) (Nat.le_of_ble_eq_true rfl) ?_
  intro p e s m args below meth c hx hb hr ht hown hlk hml hP hK hN hS ls hl
  have hl : lv_has ls 3 [(0, .ref (ad (83 + 57 * b + 3 * i))), (1, .int x)] := hl
  refine lv_iconst (v := 0) hx hb dX1_usesIndex_0 (by decide) ?_
  refine lv_istore_n (lv' := [(2, .int 0), (0, .ref (ad (83 + 57 * b + 3 * i))), (1, .int x)]) hx hb dX1_usesIndex_1 rfl hl (by decide) rfl (fun ls hl => ?_)
  exact lp_X1_uses hI hb2 hi x hx hb hr ht hown hlk hml hK hN (kmin (σ (83 + 57 * b + 3 * i) 6) 6 + 1) 0 (by omega) (by omega) (fun j hj => by omega) _ _ hP hS ls hl
set_option maxHeartbeats 4000000 in
set_option maxRecDepth 100000 in
theorem lp_X1_thou {l : Launch} {D : va_G} {ca : Nat → ClassId} {ad : Nat → Nat} (hI : Inj 158 ad) {σ : MI} {τ : ML} {b i : Nat} (hb2 : b < 2) (hi : i < 6) {p : Program} {e : Env} {s : State} {m : MethodId} {args : Array Value} {below : List Frame} {meth : Method} {c : Code} (hx : p.tables.exec = Jvm.exec) (hb : c.code = cX1_thousandths) (hr : meth.sig.returnType = (some .int)) (ht : ∀ w ∈ GG, w.before args s = true) (hown : s.vm.findClass yX1_thousandths.cls = some m.cls) (hlk : meth.locks = false) (hml : c.maxLocals = 3) (hK : va_K D vwCl (TY ca) s) (hN : NW s) : ∀ (n : Nat) (k : Nat) (hk : k ≤ kmin (σ (83 + 57 * b + 3 * i) 6) 6) (hn : kmin (σ (83 + 57 * b + 3 * i) 6) 6 - k < n) (a : Int32) (ha : sumI (σ (84 + 57 * b + 3 * i)) (σ (83 + 57 * b + 3 * i) 1) k = a) (H : Heap) (locs : List Loc) (hP : PW D 158 ad (cxf ca ad) σ τ H) (hS : va_S (AA 158 ad) s.heap H locs) (ls : Array Slot) (hl : lv_has ls 3 [(2, .int (nI k)), (1, .int a), (0, .ref (ad (83 + 57 * b + 3 * i)))]), W p l e { frames := 0, cells := 0, slots := 0, locals := 0 } s m args below meth c H locs 0 0 (MQ below (QD D 158 ad (cxf ca ad) (fun v_ S_ T_ => some (.int (sumI (σ (84 + 57 * b + 3 * i)) (σ (83 + 57 * b + 3 * i) 1) (kmin (σ (83 + 57 * b + 3 * i) 6) 6))) = v_ ∧ σ = S_ ∧ τ = T_)) args s 0 0 (AA 158 ad)) (F0 m 7 ls []) := by
  intro n
  induction n with
  | zero => intro k hk hn a ha H locs hP hS ls hl; exact absurd ‹_› (by omega)
  | succ n ih =>
    intro k hk hn a ha H locs hP hS ls hl
    have eM : (6 : Int32).toInt = 6 := rfl
    have hc := clampI (σ (83 + 57 * b + 3 * i) 6)
    have hm : kmin (σ (83 + 57 * b + 3 * i) 6) 6 = min (σ (83 + 57 * b + 3 * i) 6).toNatClampNeg 6 := rfl
    have ek : (nI k).toInt = k := nI_toInt (by omega)
    refine lv_iload_n hx hb dX1_thousandths_7 rfl (lv_at hl 0 rfl) ?_
    refine lv_aload_n hx hb dX1_thousandths_8 rfl (lv_at hl 2 rfl) ?_
    refine fgetx hx hb ht inG1 hown hK hP (k := (83 + 57 * b + 3 * i)) (by omega) (x := (σ (83 + 57 * b + 3 * i))) rfl (sh_cont _ _ hb2 hi) rfl 6 (by decide) gw_185 (v := .int ((σ (83 + 57 * b + 3 * i)) 6)) rfl dX1_thousandths_9 ?_
    refine lv_icmp_ge (tgt := 36) hx hb dX1_thousandths_12 (by decide) (fun c1 => ?_) (fun c1 => ?_)
    · have dc1 := c1
      rw [i_le] at dc1
      have hke : k = kmin (σ (83 + 57 * b + 3 * i) 6) 6 := by omega
      refine lv_iload_n hx hb dX1_thousandths_36 rfl (lv_at hl 1 rfl) ?_
      exact ret_i hx hb hr hlk hP hS dX1_thousandths_37 (⟨by rw [← hke, ha], rfl, rfl⟩)
    · have dc1 := c1
      rw [i_le] at dc1
      refine lv_iload_n hx hb dX1_thousandths_15 rfl (lv_at hl 0 rfl) ?_
      refine lv_bipush (v := 6) hx hb dX1_thousandths_16 (by decide) ?_
      refine lv_icmp_ge (tgt := 36) hx hb dX1_thousandths_18 (by decide) (fun c2 => ?_) (fun c2 => ?_)
      · have dc2 := c2
        rw [i_le] at dc2
        have hke : k = kmin (σ (83 + 57 * b + 3 * i) 6) 6 := by omega
        refine lv_iload_n hx hb dX1_thousandths_36 rfl (lv_at hl 1 rfl) ?_
        exact ret_i hx hb hr hlk hP hS dX1_thousandths_37 (⟨by rw [← hke, ha], rfl, rfl⟩)
      · have dc2 := c2
        rw [i_le] at dc2
        refine lv_iload_n hx hb dX1_thousandths_21 rfl (lv_at hl 1 rfl) ?_
        refine lv_aload_n hx hb dX1_thousandths_22 rfl (lv_at hl 2 rfl) ?_
        refine fgetx hx hb ht inG1 hown hK hP (k := (83 + 57 * b + 3 * i)) (by omega) (x := (σ (83 + 57 * b + 3 * i))) rfl (sh_cont _ _ hb2 hi) rfl 7 (by decide) gw_189 (v := .ref (ad (84 + 57 * b + 3 * i))) rfl dX1_thousandths_23 ?_
        refine lv_iload_n hx hb dX1_thousandths_26 rfl (lv_at hl 0 rfl) ?_
        refine aldj hx hb hK hP (k := (84 + 57 * b + 3 * i)) (by omega) (x := (σ (84 + 57 * b + 3 * i))) rfl 0 (sh_wgts _ _ hb2 hi) rfl (by rw [vp_in_iff]; omega) (j := k) (nI_clamp (by omega)) dX1_thousandths_27 ?_
        refine lv_iadd hx hb dX1_thousandths_28 ?_
        refine lv_istore_n (lv' := [(1, .int (a + ((σ (84 + 57 * b + 3 * i)) k))), (2, .int (nI k)), (0, .ref (ad (83 + 57 * b + 3 * i)))]) hx hb dX1_thousandths_29 rfl hl (by decide) rfl (fun ls hl => ?_)
        refine lv_iinc (v := (nI k) + 1) (lv' := [(2, .int ((nI k) + 1)), (1, .int (a + ((σ (84 + 57 * b + 3 * i)) k))), (0, .ref (ad (83 + 57 * b + 3 * i)))]) hx hb dX1_thousandths_30 hl (k := 1) rfl rfl (by decide) rfl (fun ls hl => ?_)
        refine lv_goto (tgt := 7) hx hb dX1_thousandths_33 (by decide) ?_
        rw [nI_1] at hl
        exact ih (k + 1) (by omega) (by omega) _ (by simp only [sumI, ha]) _ _ hP hS ls (lv_sub hl [0, 1, 2] rfl)
set_option maxHeartbeats 4000000 in
set_option maxRecDepth 100000 in
theorem c_X1_thousandths (l : Launch) (D : va_G) (ca : Nat → ClassId) (ad : Nat → Nat) (hI : Inj 158 ad) (σ : MI) (τ : ML) {b i : Nat} (hb2 : b < 2) (hi : i < 6) : CT l D (TY ca) 158 ad (cxf ca ad) yX1_thousandths cX1_thousandths 3 (some .int) 0 0 [.ref (ad (83 + 57 * b + 3 * i))] σ τ (fun v_ S_ T_ => some (.int (sumI (σ (84 + 57 * b + 3 * i)) (σ (83 + 57 * b + 3 * i) 1) (kmin (σ (83 + 57 * b + 3 * i) 6) 6))) = v_ ∧ σ = S_ ∧ τ = T_) := by
  refine CT.of (by decide) (Nat.le_of_ble_eq_true rfl) ?_
  intro p e s m args below meth c hx hb hr ht hown hlk hml hP hK hN hS ls hl
  have hl : lv_has ls 3 [(0, .ref (ad (83 + 57 * b + 3 * i)))] := hl
  refine lv_aload_n hx hb dX1_thousandths_0 rfl (lv_at hl 0 rfl) ?_
  refine fgetx hx hb ht inG1 hown hK hP (k := (83 + 57 * b + 3 * i)) (by omega) (x := (σ (83 + 57 * b + 3 * i))) rfl (sh_cont _ _ hb2 hi) rfl 1 (by decide) gw_169 (v := .int ((σ (83 + 57 * b + 3 * i)) 1)) rfl dX1_thousandths_1 ?_
  refine lv_istore_n (lv' := [(1, .int ((σ (83 + 57 * b + 3 * i)) 1)), (0, .ref (ad (83 + 57 * b + 3 * i)))]) hx hb dX1_thousandths_4 rfl hl (by decide) rfl (fun ls hl => ?_)
  refine lv_iconst (v := 0) hx hb dX1_thousandths_5 (by decide) ?_
  refine lv_istore_n (lv' := [(2, .int 0), (1, .int ((σ (83 + 57 * b + 3 * i)) 1)), (0, .ref (ad (83 + 57 * b + 3 * i)))]) hx hb dX1_thousandths_6 rfl hl (by decide) rfl (fun ls hl => ?_)
  exact lp_X1_thou hI hb2 hi hx hb hr ht hown hlk hml hK hN (kmin (σ (83 + 57 * b + 3 * i) 6) 6 + 1) 0 (by omega) (by omega) _ rfl _ _ hP hS ls hl
set_option maxHeartbeats 4000000 in
set_option maxRecDepth 100000 in
theorem c_X1_termFigure (l : Launch) (D : va_G) (ca : Nat → ClassId) (ad : Nat → Nat) (hI : Inj 158 ad) (σ : MI) (τ : ML) {b i : Nat} (hb2 : b < 2) (hi : i < 6) (q : Int32) : CT l D (TY ca) 158 ad (cxf ca ad) yX1_termFigure cX1_termFigure 3 (some .int) 0 0 [.ref (ad (83 + 57 * b + 3 * i)), .int q] σ τ (fun v_ S_ T_ => some (.int (termS (σ (84 + 57 * b + 3 * i)) (σ (85 + 57 * b + 3 * i)) (σ (83 + 57 * b + 3 * i) 6) q)) = v_ ∧ σ = S_ ∧ τ = T_) := by
  refine CT.of (by decide) (Nat.le_of_ble_eq_true rfl) ?_
  intro p e s m args below meth c hx hb hr ht hown hlk hml hP hK hN hS ls hl
  have hl : lv_has ls 3 [(0, .ref (ad (83 + 57 * b + 3 * i))), (1, .int q)] := hl
  refine lv_iload_n hx hb dX1_termFigure_0 rfl (lv_at hl 1 rfl) ?_
  refine lv_iconst (v := 2) hx hb dX1_termFigure_1 (by decide) ?_
  refine lv_idiv hx hb dX1_termFigure_2 (by decide) ?_
  refine lv_istore_n (lv' := [(2, .int (q / 2)), (0, .ref (ad (83 + 57 * b + 3 * i))), (1, .int q)]) hx hb dX1_termFigure_3 rfl hl (by decide) rfl (fun ls hl => ?_)
  refine lv_iload_n hx hb dX1_termFigure_4 rfl (lv_at hl 2 rfl) ?_
  refine lv_if_lt (tgt := 22) hx hb dX1_termFigure_5 (by decide) (fun c1 => ?_) (fun c1 => ?_)
  · have dc1 := c1
    rw [i_lt] at dc1
    refine lv_iconst (v := -1) hx hb dX1_termFigure_22 (by decide) ?_
    exact ret_i hx hb hr hlk hP hS dX1_termFigure_23 (⟨by first | with_reducible rfl | (simp only [termS, c1, ↓reduceIte, Bool.false_eq_true]; done) | (simp only [termS, c1, ↓reduceIte, Bool.false_eq_true]; rfl) | rfl, by first | with_reducible rfl | (simp only [termS, c1, ↓reduceIte, Bool.false_eq_true]; done) | (simp only [termS, c1, ↓reduceIte, Bool.false_eq_true]; rfl) | rfl, rfl⟩)
  · have dc1 := c1
    rw [i_lt] at dc1
    refine lv_iload_n hx hb dX1_termFigure_8 rfl (lv_at hl 0 rfl) ?_
    refine lv_aload_n hx hb dX1_termFigure_9 rfl (lv_at hl 1 rfl) ?_
    refine fgetx hx hb ht inG1 hown hK hP (k := (83 + 57 * b + 3 * i)) (by omega) (x := (σ (83 + 57 * b + 3 * i))) rfl (sh_cont _ _ hb2 hi) rfl 6 (by decide) gw_185 (v := .int ((σ (83 + 57 * b + 3 * i)) 6)) rfl dX1_termFigure_10 ?_
    refine lv_icmp_ge (tgt := 22) hx hb dX1_termFigure_13 (by decide) (fun c2 => ?_) (fun c2 => ?_)
    · have dc2 := c2
      rw [i_le] at dc2
      refine lv_iconst (v := -1) hx hb dX1_termFigure_22 (by decide) ?_
      exact ret_i hx hb hr hlk hP hS dX1_termFigure_23 (⟨by first | with_reducible rfl | (simp only [termS, c1, c2, ↓reduceIte, Bool.false_eq_true]; done) | (simp only [termS, c1, c2, ↓reduceIte, Bool.false_eq_true]; rfl) | rfl, by first | with_reducible rfl | (simp only [termS, c1, c2, ↓reduceIte, Bool.false_eq_true]; done) | (simp only [termS, c1, c2, ↓reduceIte, Bool.false_eq_true]; rfl) | rfl, rfl⟩)
    · have dc2 := c2
      rw [i_le] at dc2
      refine lv_iload_n hx hb dX1_termFigure_16 rfl (lv_at hl 0 rfl) ?_
      refine lv_bipush (v := 6) hx hb dX1_termFigure_17 (by decide) ?_
      refine lv_icmp_lt (tgt := 24) hx hb dX1_termFigure_19 (by decide) (fun c3 => ?_) (fun c3 => ?_)
      · have dc3 := c3
        rw [i_lt] at dc3
        refine lv_iload_n hx hb dX1_termFigure_24 rfl (lv_at hl 2 rfl) ?_
        refine lv_iconst (v := 2) hx hb dX1_termFigure_25 (by decide) ?_
        refine lv_irem hx hb dX1_termFigure_26 (by decide) ?_
        refine lv_if_ne (tgt := 39) hx hb dX1_termFigure_27 (by decide) (fun c4 => ?_) (fun c4 => ?_)
        · have dc4 := c4
          rw [i_eq] at dc4
          refine lv_aload_n hx hb dX1_termFigure_39 rfl (lv_at hl 1 rfl) ?_
          refine fgetx hx hb ht inG1 hown hK hP (k := (83 + 57 * b + 3 * i)) (by omega) (x := (σ (83 + 57 * b + 3 * i))) rfl (sh_cont _ _ hb2 hi) rfl 8 (by decide) gw_191 (v := .ref (ad (85 + 57 * b + 3 * i))) rfl dX1_termFigure_40 ?_
          refine lv_iload_n hx hb dX1_termFigure_43 rfl (lv_at hl 0 rfl) ?_
          refine aldj hx hb hK hP (k := (85 + 57 * b + 3 * i)) (by omega) (x := (σ (85 + 57 * b + 3 * i))) rfl 0 (sh_cixs _ _ hb2 hi) rfl (half_in ‹_› ‹_›) (j := (q / 2).toNatClampNeg) rfl dX1_termFigure_44 ?_
          exact ret_i hx hb hr hlk hP hS dX1_termFigure_45 (⟨by first | with_reducible rfl | (simp only [termS, c1, c2, c3, c4, ↓reduceIte, Bool.false_eq_true]; done) | (simp only [termS, c1, c2, c3, c4, ↓reduceIte, Bool.false_eq_true]; rfl) | rfl, by first | with_reducible rfl | (simp only [termS, c1, c2, c3, c4, ↓reduceIte, Bool.false_eq_true]; done) | (simp only [termS, c1, c2, c3, c4, ↓reduceIte, Bool.false_eq_true]; rfl) | rfl, rfl⟩)
        · have dc4 := c4
          rw [i_eq] at dc4
          refine lv_aload_n hx hb dX1_termFigure_30 rfl (lv_at hl 1 rfl) ?_
          refine fgetx hx hb ht inG1 hown hK hP (k := (83 + 57 * b + 3 * i)) (by omega) (x := (σ (83 + 57 * b + 3 * i))) rfl (sh_cont _ _ hb2 hi) rfl 7 (by decide) gw_189 (v := .ref (ad (84 + 57 * b + 3 * i))) rfl dX1_termFigure_31 ?_
          refine lv_iload_n hx hb dX1_termFigure_34 rfl (lv_at hl 0 rfl) ?_
          refine aldj hx hb hK hP (k := (84 + 57 * b + 3 * i)) (by omega) (x := (σ (84 + 57 * b + 3 * i))) rfl 0 (sh_wgts _ _ hb2 hi) rfl (half_in ‹_› ‹_›) (j := (q / 2).toNatClampNeg) rfl dX1_termFigure_35 ?_
          refine lv_goto (tgt := 45) hx hb dX1_termFigure_36 (by decide) ?_
          exact ret_i hx hb hr hlk hP hS dX1_termFigure_45 (⟨by first | with_reducible rfl | (simp only [termS, c1, c2, c3, c4, ↓reduceIte, Bool.false_eq_true]; done) | (simp only [termS, c1, c2, c3, c4, ↓reduceIte, Bool.false_eq_true]; rfl) | rfl, by first | with_reducible rfl | (simp only [termS, c1, c2, c3, c4, ↓reduceIte, Bool.false_eq_true]; done) | (simp only [termS, c1, c2, c3, c4, ↓reduceIte, Bool.false_eq_true]; rfl) | rfl, rfl⟩)
      · have dc3 := c3
        rw [i_lt] at dc3
        refine lv_iconst (v := -1) hx hb dX1_termFigure_22 (by decide) ?_
        exact ret_i hx hb hr hlk hP hS dX1_termFigure_23 (⟨by first | with_reducible rfl | (simp only [termS, c1, c2, c3, ↓reduceIte, Bool.false_eq_true]; done) | (simp only [termS, c1, c2, c3, ↓reduceIte, Bool.false_eq_true]; rfl) | rfl, by first | with_reducible rfl | (simp only [termS, c1, c2, c3, ↓reduceIte, Bool.false_eq_true]; done) | (simp only [termS, c1, c2, c3, ↓reduceIte, Bool.false_eq_true]; rfl) | rfl, rfl⟩)
set_option maxHeartbeats 4000000 in
set_option maxRecDepth 100000 in
theorem c_X1_moveBy (l : Launch) (D : va_G) (ca : Nat → ClassId) (ad : Nat → Nat) (hI : Inj 158 ad) (σ : MI) (τ : ML) {b i : Nat} (hb2 : b < 2) (hi : i < 6) (fa : Int32) : CT l D (TY ca) 158 ad (cxf ca ad) yX1_moveBy cX1_moveBy 4 (some .int) 1 24 [.ref (ad (83 + 57 * b + 3 * i)), .int fa] σ τ (fun v_ S_ T_ => some (.int (mvS (σ (83 + 57 * b + 3 * i) 3) (σ (83 + 57 * b + 3 * i) 4) (σ (83 + 57 * b + 3 * i) 5) fa)) = v_ ∧ σ = S_ ∧ τ = T_) := by
  refine CT.of (by decide) (Nat.le_of_ble_eq_true rfl) ?_
  intro p e s m args below meth c hx hb hr ht hown hlk hml hP hK hN hS ls hl
  have hl : lv_has ls 4 [(0, .ref (ad (83 + 57 * b + 3 * i))), (1, .int fa)] := hl
  refine lv_iload_n hx hb dX1_moveBy_0 rfl (lv_at hl 1 rfl) ?_
  refine lv_ldc hx hb hown (ht _ gw_683) dX1_moveBy_1 ?_
  refine lv_isub hx hb dX1_moveBy_3 ?_
  refine lv_istore_n (lv' := [(2, .int (fa - 1000000)), (0, .ref (ad (83 + 57 * b + 3 * i))), (1, .int fa)]) hx hb dX1_moveBy_4 rfl hl (by decide) rfl (fun ls hl => ?_)
  refine lv_aload_n hx hb dX1_moveBy_5 rfl (lv_at hl 1 rfl) ?_
  refine fgetx hx hb ht inG1 hown hK hP (k := (83 + 57 * b + 3 * i)) (by omega) (x := (σ (83 + 57 * b + 3 * i))) rfl (sh_cont _ _ hb2 hi) rfl 3 (by decide) gw_176 (v := .int ((σ (83 + 57 * b + 3 * i)) 3)) rfl dX1_moveBy_6 ?_
  refine lv_sipush (v := 1000) hx hb dX1_moveBy_9 (by decide) ?_
  refine lv_imul hx hb dX1_moveBy_12 ?_
  refine lv_istore_n (lv' := [(3, .int (((σ (83 + 57 * b + 3 * i)) 3) * 1000)), (2, .int (fa - 1000000)), (0, .ref (ad (83 + 57 * b + 3 * i))), (1, .int fa)]) hx hb dX1_moveBy_13 rfl hl (by decide) rfl (fun ls hl => ?_)
  refine lv_iload_n hx hb dX1_moveBy_14 rfl (lv_at hl 1 rfl) ?_
  refine va_mabs hx hb (hml.trans hl.1.symm) hown (ht _ gw_684) (ht _ gw_685) (ht _ gw_68) (ht _ gw_686) (by decide) (Nat.le_of_ble_eq_true rfl) (by decide) (by decide) dX1_moveBy_15 ?_
  refine lv_iload_n hx hb dX1_moveBy_18 rfl (lv_at hl 0 rfl) ?_
  refine lv_icmp_gt (tgt := 24) hx hb dX1_moveBy_19 (by decide) (fun c1 => ?_) (fun c1 => ?_)
  · have dc1 := c1
    rw [i_lt] at dc1
    have c1 : σ (83 + 57 * b + 3 * i) 3 * 1000 < mvA (fa - 1000000) := c1
    refine lv_aload_n hx hb dX1_moveBy_24 rfl (lv_at hl 2 rfl) ?_
    refine fgetx hx hb ht inG1 hown hK hP (k := (83 + 57 * b + 3 * i)) (by omega) (x := (σ (83 + 57 * b + 3 * i))) rfl (sh_cont _ _ hb2 hi) rfl 5 (by decide) gw_182 (v := .int ((σ (83 + 57 * b + 3 * i)) 5)) rfl dX1_moveBy_25 ?_
    refine lv_if_eq (tgt := 44) hx hb dX1_moveBy_28 (by decide) (fun c2 => ?_) (fun c2 => ?_)
    · have dc2 := c2
      rw [i_eq] at dc2
      refine lv_iload_n hx hb dX1_moveBy_44 rfl (lv_at hl 1 rfl) ?_
      refine lv_i2l (v := (fa - 1000000).toInt64) hx hb dX1_moveBy_45 rfl ?_
      refine lv_aload_n hx hb dX1_moveBy_46 rfl (lv_at hl 2 rfl) ?_
      refine fgetx hx hb ht inG1 hown hK hP (k := (83 + 57 * b + 3 * i)) (by omega) (x := (σ (83 + 57 * b + 3 * i))) rfl (sh_cont _ _ hb2 hi) rfl 4 (by decide) gw_179 (v := .int ((σ (83 + 57 * b + 3 * i)) 4)) rfl dX1_moveBy_47 ?_
      refine lv_i2l (v := ((σ (83 + 57 * b + 3 * i)) 4).toInt64) hx hb dX1_moveBy_50 rfl ?_
      refine lv_lmul hx hb dX1_moveBy_51 ?_
      refine lv_ldc2 hx hb hown (ht _ gw_687) dX1_moveBy_52 ?_
      refine lv_ldiv hx hb dX1_moveBy_55 (by decide) ?_
      refine lv_l2i (v := ((((fa - 1000000).toInt64) * (((σ (83 + 57 * b + 3 * i)) 4).toInt64)) / 100).toInt32) hx hb dX1_moveBy_56 rfl ?_
      exact ret_i hx hb hr hlk hP hS dX1_moveBy_57 (⟨by first | with_reducible rfl | (simp only [mvS, mvF, c1, c2, ↓reduceIte, Bool.false_eq_true]; done) | (simp only [mvS, mvF, c1, c2, ↓reduceIte, Bool.false_eq_true]; rfl) | rfl, by first | with_reducible rfl | (simp only [mvS, mvF, c1, c2, ↓reduceIte, Bool.false_eq_true]; done) | (simp only [mvS, mvF, c1, c2, ↓reduceIte, Bool.false_eq_true]; rfl) | rfl, rfl⟩)
    · have dc2 := c2
      rw [i_eq] at dc2
      refine lv_iload_n hx hb dX1_moveBy_31 rfl (lv_at hl 1 rfl) ?_
      refine lv_iload_n hx hb dX1_moveBy_32 rfl (lv_at hl 1 rfl) ?_
      refine lv_if_ge (tgt := 40) hx hb dX1_moveBy_33 (by decide) (fun c3 => ?_) (fun c3 => ?_)
      · have dc3 := c3
        rw [i_le] at dc3
        refine lv_iload_n hx hb dX1_moveBy_40 rfl (lv_at hl 0 rfl) ?_
        refine lv_ineg hx hb dX1_moveBy_41 ?_
        refine lv_iadd hx hb dX1_moveBy_42 ?_
        refine lv_istore_n (lv' := [(2, .int ((fa - 1000000) + (-(((σ (83 + 57 * b + 3 * i)) 3) * 1000)))), (3, .int (((σ (83 + 57 * b + 3 * i)) 3) * 1000)), (0, .ref (ad (83 + 57 * b + 3 * i))), (1, .int fa)]) hx hb dX1_moveBy_43 rfl hl (by decide) rfl (fun ls hl => ?_)
        refine lv_iload_n hx hb dX1_moveBy_44 rfl (lv_at hl 0 rfl) ?_
        refine lv_i2l (v := ((fa - 1000000) + (-(((σ (83 + 57 * b + 3 * i)) 3) * 1000))).toInt64) hx hb dX1_moveBy_45 rfl ?_
        refine lv_aload_n hx hb dX1_moveBy_46 rfl (lv_at hl 2 rfl) ?_
        refine fgetx hx hb ht inG1 hown hK hP (k := (83 + 57 * b + 3 * i)) (by omega) (x := (σ (83 + 57 * b + 3 * i))) rfl (sh_cont _ _ hb2 hi) rfl 4 (by decide) gw_179 (v := .int ((σ (83 + 57 * b + 3 * i)) 4)) rfl dX1_moveBy_47 ?_
        refine lv_i2l (v := ((σ (83 + 57 * b + 3 * i)) 4).toInt64) hx hb dX1_moveBy_50 rfl ?_
        refine lv_lmul hx hb dX1_moveBy_51 ?_
        refine lv_ldc2 hx hb hown (ht _ gw_687) dX1_moveBy_52 ?_
        refine lv_ldiv hx hb dX1_moveBy_55 (by decide) ?_
        refine lv_l2i (v := (((((fa - 1000000) + (-(((σ (83 + 57 * b + 3 * i)) 3) * 1000))).toInt64) * (((σ (83 + 57 * b + 3 * i)) 4).toInt64)) / 100).toInt32) hx hb dX1_moveBy_56 rfl ?_
        exact ret_i hx hb hr hlk hP hS dX1_moveBy_57 (⟨by first | with_reducible rfl | (simp only [mvS, mvF, c1, c2, c3, ↓reduceIte, Bool.false_eq_true]; done) | (simp only [mvS, mvF, c1, c2, c3, ↓reduceIte, Bool.false_eq_true]; rfl) | rfl, by first | with_reducible rfl | (simp only [mvS, mvF, c1, c2, c3, ↓reduceIte, Bool.false_eq_true]; done) | (simp only [mvS, mvF, c1, c2, c3, ↓reduceIte, Bool.false_eq_true]; rfl) | rfl, rfl⟩)
      · have dc3 := c3
        rw [i_le] at dc3
        refine lv_iload_n hx hb dX1_moveBy_36 rfl (lv_at hl 0 rfl) ?_
        refine lv_goto (tgt := 42) hx hb dX1_moveBy_37 (by decide) ?_
        refine lv_iadd hx hb dX1_moveBy_42 ?_
        refine lv_istore_n (lv' := [(2, .int ((fa - 1000000) + (((σ (83 + 57 * b + 3 * i)) 3) * 1000))), (3, .int (((σ (83 + 57 * b + 3 * i)) 3) * 1000)), (0, .ref (ad (83 + 57 * b + 3 * i))), (1, .int fa)]) hx hb dX1_moveBy_43 rfl hl (by decide) rfl (fun ls hl => ?_)
        refine lv_iload_n hx hb dX1_moveBy_44 rfl (lv_at hl 0 rfl) ?_
        refine lv_i2l (v := ((fa - 1000000) + (((σ (83 + 57 * b + 3 * i)) 3) * 1000)).toInt64) hx hb dX1_moveBy_45 rfl ?_
        refine lv_aload_n hx hb dX1_moveBy_46 rfl (lv_at hl 2 rfl) ?_
        refine fgetx hx hb ht inG1 hown hK hP (k := (83 + 57 * b + 3 * i)) (by omega) (x := (σ (83 + 57 * b + 3 * i))) rfl (sh_cont _ _ hb2 hi) rfl 4 (by decide) gw_179 (v := .int ((σ (83 + 57 * b + 3 * i)) 4)) rfl dX1_moveBy_47 ?_
        refine lv_i2l (v := ((σ (83 + 57 * b + 3 * i)) 4).toInt64) hx hb dX1_moveBy_50 rfl ?_
        refine lv_lmul hx hb dX1_moveBy_51 ?_
        refine lv_ldc2 hx hb hown (ht _ gw_687) dX1_moveBy_52 ?_
        refine lv_ldiv hx hb dX1_moveBy_55 (by decide) ?_
        refine lv_l2i (v := (((((fa - 1000000) + (((σ (83 + 57 * b + 3 * i)) 3) * 1000)).toInt64) * (((σ (83 + 57 * b + 3 * i)) 4).toInt64)) / 100).toInt32) hx hb dX1_moveBy_56 rfl ?_
        exact ret_i hx hb hr hlk hP hS dX1_moveBy_57 (⟨by first | with_reducible rfl | (simp only [mvS, mvF, c1, c2, c3, ↓reduceIte, Bool.false_eq_true]; done) | (simp only [mvS, mvF, c1, c2, c3, ↓reduceIte, Bool.false_eq_true]; rfl) | rfl, by first | with_reducible rfl | (simp only [mvS, mvF, c1, c2, c3, ↓reduceIte, Bool.false_eq_true]; done) | (simp only [mvS, mvF, c1, c2, c3, ↓reduceIte, Bool.false_eq_true]; rfl) | rfl, rfl⟩)
  · have dc1 := c1
    rw [i_lt] at dc1
    have c1 : ¬ σ (83 + 57 * b + 3 * i) 3 * 1000 < mvA (fa - 1000000) := c1
    refine lv_iconst (v := 0) hx hb dX1_moveBy_22 (by decide) ?_
    exact ret_i hx hb hr hlk hP hS dX1_moveBy_23 (⟨by first | with_reducible rfl | (simp only [mvS, mvF, c1, ↓reduceIte, Bool.false_eq_true]; done) | (simp only [mvS, mvF, c1, ↓reduceIte, Bool.false_eq_true]; rfl) | rfl, by first | with_reducible rfl | (simp only [mvS, mvF, c1, ↓reduceIte, Bool.false_eq_true]; done) | (simp only [mvS, mvF, c1, ↓reduceIte, Bool.false_eq_true]; rfl) | rfl, rfl⟩)
set_option maxHeartbeats 4000000 in
set_option maxRecDepth 100000 in
theorem c_X1_priceBy (l : Launch) (D : va_G) (ca : Nat → ClassId) (ad : Nat → Nat) (hI : Inj 158 ad) (σ : MI) (τ : ML) {b i : Nat} (hb2 : b < 2) (hi : i < 6) (mv : Int32) : CT l D (TY ca) 158 ad (cxf ca ad) yX1_priceBy cX1_priceBy 2 (some .int) 0 0 [.ref (ad (83 + 57 * b + 3 * i)), .int mv] σ τ (fun v_ S_ T_ => some (.int (prS (σ (83 + 57 * b + 3 * i) 0) mv)) = v_ ∧ σ = S_ ∧ τ = T_) := by
  refine CT.of (by decide) (Nat.le_of_ble_eq_true rfl) ?_
  intro p e s m args below meth c hx hb hr ht hown hlk hml hP hK hN hS ls hl
  have hl : lv_has ls 2 [(0, .ref (ad (83 + 57 * b + 3 * i))), (1, .int mv)] := hl
  refine lv_aload_n hx hb dX1_priceBy_0 rfl (lv_at hl 0 rfl) ?_
  refine fgetx hx hb ht inG1 hown hK hP (k := (83 + 57 * b + 3 * i)) (by omega) (x := (σ (83 + 57 * b + 3 * i))) rfl (sh_cont _ _ hb2 hi) rfl 0 (by decide) gw_166 (v := .int ((σ (83 + 57 * b + 3 * i)) 0)) rfl dX1_priceBy_1 ?_
  refine lv_i2l (v := ((σ (83 + 57 * b + 3 * i)) 0).toInt64) hx hb dX1_priceBy_4 rfl ?_
  refine lv_ldc hx hb hown (ht _ gw_683) dX1_priceBy_5 ?_
  refine lv_iload_n hx hb dX1_priceBy_7 rfl (lv_at hl 1 rfl) ?_
  refine lv_iadd hx hb dX1_priceBy_8 ?_
  refine lv_i2l (v := (1000000 + mv).toInt64) hx hb dX1_priceBy_9 rfl ?_
  refine lv_lmul hx hb dX1_priceBy_10 ?_
  refine lv_ldc2 hx hb hown (ht _ gw_692) dX1_priceBy_11 ?_
  refine lv_ladd hx hb dX1_priceBy_14 ?_
  refine lv_ldc2 hx hb hown (ht _ gw_693) dX1_priceBy_15 ?_
  refine lv_ldiv hx hb dX1_priceBy_18 (by decide) ?_
  refine lv_l2i (v := ((((((σ (83 + 57 * b + 3 * i)) 0).toInt64) * ((1000000 + mv).toInt64)) + 500000) / 1000000).toInt32) hx hb dX1_priceBy_19 rfl ?_
  exact ret_i hx hb hr hlk hP hS dX1_priceBy_20 (⟨by first | with_reducible rfl | (simp only [prS, ↓reduceIte, Bool.false_eq_true]; done) | (simp only [prS, ↓reduceIte, Bool.false_eq_true]; rfl) | rfl, by first | with_reducible rfl | (simp only [prS, ↓reduceIte, Bool.false_eq_true]; done) | (simp only [prS, ↓reduceIte, Bool.false_eq_true]; rfl) | rfl, rfl⟩)
set_option maxHeartbeats 4000000 in
set_option maxRecDepth 100000 in
theorem c_X2_unsettle (l : Launch) (D : va_G) (ca : Nat → ClassId) (ad : Nat → Nat) (hI : Inj 158 ad) (σ : MI) (τ : ML) {d : Nat} (hd : d < 30) : CT l D (TY ca) 158 ad (cxf ca ad) yX2_unsettle cX2_unsettle 1 none 0 0 [.ref (ad (14 + d))] σ τ (fun v_ S_ T_ => none = v_ ∧ (s2 σ (14 + d) 6 (-1)) = S_ ∧ (s2L τ (14 + d) 7 0) = T_) := by
  refine CT.of (by decide) (Nat.le_of_ble_eq_true rfl) ?_
  intro p e s m args below meth c hx hb hr ht hown hlk hml hP hK hN hS ls hl
  have hl : lv_has ls 1 [(0, .ref (ad (14 + d)))] := hl
  refine lv_aload_n hx hb dX2_unsettle_0 rfl (lv_at hl 0 rfl) ?_
  refine lv_lconst (v := 0) hx hb dX2_unsettle_1 (by decide) ?_
  refine fputy (ref := "") (w := 0) hx hb ht inG2 tyX2 tyX2_ok nmX2 hown hK hP hI hS (k := (14 + d)) (by omega) (sh_deli _ _ hd) rfl 7 (by decide) gw_289 rfl rfl rfl (Nat.le_of_ble_eq_true rfl) (sh_deli _ _ hd) dX2_unsettle_2 (fun H locs hP hS => ?_)
  refine lv_aload_n hx hb dX2_unsettle_5 rfl (lv_at hl 0 rfl) ?_
  refine lv_iconst (v := -1) hx hb dX2_unsettle_6 (by decide) ?_
  refine fputx (ref := "") (w := (-1)) hx hb ht inG2 tyX2 tyX2_ok nmX2 hown hK hP hI hS (k := (14 + d)) (by omega) (sh_deli _ _ hd) rfl 6 (by decide) gw_286 rfl rfl rfl (Nat.le_of_ble_eq_true rfl) (sh_deli _ _ hd) dX2_unsettle_7 (fun H locs hP hS => ?_)
  exact ret_v hx hb hr hlk hP hS dX2_unsettle_10 (⟨by first | with_reducible rfl | (simp only [↓reduceIte, Bool.false_eq_true]; done) | (simp only [↓reduceIte, Bool.false_eq_true]; rfl) | rfl, by first | with_reducible rfl | (simp only [↓reduceIte, Bool.false_eq_true]; done) | (simp only [↓reduceIte, Bool.false_eq_true]; rfl) | rfl, rfl⟩)
set_option maxHeartbeats 4000000 in
set_option maxRecDepth 100000 in
theorem c_X2_take (l : Launch) (D : va_G) (ca : Nat → ClassId) (ad : Nat → Nat) (hI : Inj 158 ad) (σ : MI) (τ : ML) {d : Nat} (hd : d < 30) (x y z w : Int32) : CT l D (TY ca) 158 ad (cxf ca ad) yX2_take cX2_take 5 none 1 20 [.ref (ad (14 + d)), .int x, .int y, .int z, .int w] σ τ (fun v_ S_ T_ => none = v_ ∧ (s2 (s2 (s2 (s2 (s2 σ (14 + d) 0 x) (14 + d) 1 y) (14 + d) 2 z) (14 + d) 3 w) (14 + d) 6 (-1)) = S_ ∧ (s2L τ (14 + d) 7 0) = T_) := by
  refine CT.of (by decide) (Nat.le_of_ble_eq_true rfl) ?_
  intro p e s m args below meth c hx hb hr ht hown hlk hml hP hK hN hS ls hl
  have hl : lv_has ls 5 [(0, .ref (ad (14 + d))), (1, .int x), (2, .int y), (3, .int z), (4, .int w)] := hl
  refine lv_aload_n hx hb dX2_take_0 rfl (lv_at hl 0 rfl) ?_
  refine lv_iload_n hx hb dX2_take_1 rfl (lv_at hl 1 rfl) ?_
  refine fputx (ref := "") (w := x) hx hb ht inG2 tyX2 tyX2_ok nmX2 hown hK hP hI hS (k := (14 + d)) (by omega) (sh_deli _ _ hd) rfl 0 (by decide) gw_271 rfl rfl rfl (Nat.le_of_ble_eq_true rfl) (sh_deli _ _ hd) dX2_take_2 (fun H locs hP hS => ?_)
  refine lv_aload_n hx hb dX2_take_5 rfl (lv_at hl 0 rfl) ?_
  refine lv_iload_n hx hb dX2_take_6 rfl (lv_at hl 2 rfl) ?_
  refine fputx (ref := "") (w := y) hx hb ht inG2 tyX2 tyX2_ok nmX2 hown hK hP hI hS (k := (14 + d)) (by omega) (sh_deli _ _ hd) rfl 1 (by decide) gw_274 rfl rfl rfl (Nat.le_of_ble_eq_true rfl) (sh_deli _ _ hd) dX2_take_7 (fun H locs hP hS => ?_)
  refine lv_aload_n hx hb dX2_take_10 rfl (lv_at hl 0 rfl) ?_
  refine lv_iload_n hx hb dX2_take_11 rfl (lv_at hl 3 rfl) ?_
  refine fputx (ref := "") (w := z) hx hb ht inG2 tyX2 tyX2_ok nmX2 hown hK hP hI hS (k := (14 + d)) (by omega) (sh_deli _ _ hd) rfl 2 (by decide) gw_276 rfl rfl rfl (Nat.le_of_ble_eq_true rfl) (sh_deli _ _ hd) dX2_take_12 (fun H locs hP hS => ?_)
  refine lv_aload_n hx hb dX2_take_15 rfl (lv_at hl 0 rfl) ?_
  refine lv_iload hx hb dX2_take_16 (lv_at hl 4 rfl) ?_
  refine fputx (ref := "") (w := w) hx hb ht inG2 tyX2 tyX2_ok nmX2 hown hK hP hI hS (k := (14 + d)) (by omega) (sh_deli _ _ hd) rfl 3 (by decide) gw_279 rfl rfl rfl (Nat.le_of_ble_eq_true rfl) (sh_deli _ _ hd) dX2_take_18 (fun H locs hP hS => ?_)
  refine lv_aload_n hx hb dX2_take_21 rfl (lv_at hl 0 rfl) ?_
  refine callv (y := yX2_unsettle) ⟨hx, hb, hml, hown, ht⟩ hK hN hP hS (k := (14 + d)) (c_X2_unsettle l D ca ad hI (s2 (s2 (s2 (s2 σ (14 + d) 0 x) (14 + d) 1 y) (14 + d) 2 z) (14 + d) 3 w) τ hd) (by omega) (sh_deli _ _ hd) rfl ok_X2_unsettle gw_755 ⟨by decide, by decide⟩ rfl hl.1 rfl (Nat.le_of_ble_eq_true rfl) ⟨by decide, by decide⟩ dX2_take_22 (fun v_ S_ T_ H locs hp1 hP hS => ?_)
  obtain ⟨rfl, rfl, rfl⟩ := hp1
  try dsimp only [Option.toList, List.cons_append, List.nil_append]
  exact ret_v hx hb hr hlk hP hS dX2_take_25 (⟨by first | with_reducible rfl | (simp only [↓reduceIte, Bool.false_eq_true]; done) | (simp only [↓reduceIte, Bool.false_eq_true]; rfl) | rfl, by first | with_reducible rfl | (simp only [↓reduceIte, Bool.false_eq_true]; done) | (simp only [↓reduceIte, Bool.false_eq_true]; rfl) | rfl, rfl⟩)
set_option maxHeartbeats 4000000 in
set_option maxRecDepth 100000 in
theorem c_X2_bill (l : Launch) (D : va_G) (ca : Nat → ClassId) (ad : Nat → Nat) (hI : Inj 158 ad) (σ : MI) (τ : ML) {d : Nat} (hd : d < 30) (x y : Int32) : CT l D (TY ca) 158 ad (cxf ca ad) yX2_bill cX2_bill 4 none 0 0 [.ref (ad (14 + d)), .int x, .int y] σ τ (fun v_ S_ T_ => none = v_ ∧ (bilS σ d x y) = S_ ∧ τ = T_) := by
  refine CT.of (by decide) (Nat.le_of_ble_eq_true rfl) ?_
  intro p e s m args below meth c hx hb hr ht hown hlk hml hP hK hN hS ls hl
  have hl : lv_has ls 4 [(0, .ref (ad (14 + d))), (1, .int x), (2, .int y)] := hl
  refine lv_iload_n hx hb dX2_bill_0 rfl (lv_at hl 1 rfl) ?_
  refine lv_iload_n hx hb dX2_bill_1 rfl (lv_at hl 2 rfl) ?_
  refine lv_icmp_gt (tgt := 9) hx hb dX2_bill_2 (by decide) (fun c1 => ?_) (fun c1 => ?_)
  · have dc1 := c1
    rw [i_lt] at dc1
    refine lv_iconst (v := 0) hx hb dX2_bill_9 (by decide) ?_
    refine lv_istore_n (lv' := [(3, .int 0), (0, .ref (ad (14 + d))), (1, .int x), (2, .int y)]) hx hb dX2_bill_10 rfl hl (by decide) rfl (fun ls hl => ?_)
    refine lv_aload_n hx hb dX2_bill_11 rfl (lv_at hl 1 rfl) ?_
    refine lv_iload_n hx hb dX2_bill_12 rfl (lv_at hl 0 rfl) ?_
    refine lv_if_eq (tgt := 23) hx hb dX2_bill_13 (by decide) (fun _ => ?_) (fun c => absurd c (by decide))
    refine lv_aload_n hx hb dX2_bill_23 rfl (lv_at hl 1 rfl) ?_
    refine fgetx hx hb ht inG2 hown hK hP (k := (14 + d)) (by omega) (x := (σ (14 + d))) rfl (sh_deli _ _ hd) rfl 2 (by decide) gw_276 (v := .int ((σ (14 + d)) 2)) rfl dX2_bill_24 ?_
    refine fputx (ref := "") (w := (σ (14 + d)) 2) hx hb ht inG2 tyX2 tyX2_ok nmX2 hown hK hP hI hS (k := (14 + d)) (by omega) (sh_deli _ _ hd) rfl 4 (by decide) gw_281 rfl rfl rfl (Nat.le_of_ble_eq_true rfl) (sh_deli _ _ hd) dX2_bill_27 (fun H locs hP hS => ?_)
    refine lv_aload_n hx hb dX2_bill_30 rfl (lv_at hl 1 rfl) ?_
    refine lv_iload_n hx hb dX2_bill_31 rfl (lv_at hl 0 rfl) ?_
    refine lv_if_eq (tgt := 39) hx hb dX2_bill_32 (by decide) (fun _ => ?_) (fun c => absurd c (by decide))
    refine lv_iload_n hx hb dX2_bill_39 rfl (lv_at hl 3 rfl) ?_
    refine fputx (ref := "") (w := y) hx hb ht inG2 tyX2 tyX2_ok nmX2 hown hK hP hI hS (k := (14 + d)) (by omega) (sh_deli _ _ hd) rfl 5 (by decide) gw_284 rfl rfl rfl (Nat.le_of_ble_eq_true rfl) (sh_deli _ _ hd) dX2_bill_40 (fun H locs hP hS => ?_)
    exact ret_v hx hb hr hlk hP hS dX2_bill_43 (⟨by first | with_reducible rfl | (simp only [bilS, c1, ↓reduceIte, Bool.false_eq_true]; done) | (simp only [bilS, c1, ↓reduceIte, Bool.false_eq_true]; rfl) | rfl, by first | with_reducible rfl | (simp only [bilS, c1, ↓reduceIte, Bool.false_eq_true]; done) | (simp only [bilS, c1, ↓reduceIte, Bool.false_eq_true]; rfl) | rfl, rfl⟩)
  · have dc1 := c1
    rw [i_lt] at dc1
    refine lv_iconst (v := 1) hx hb dX2_bill_5 (by decide) ?_
    refine lv_goto (tgt := 10) hx hb dX2_bill_6 (by decide) ?_
    refine lv_istore_n (lv' := [(3, .int 1), (0, .ref (ad (14 + d))), (1, .int x), (2, .int y)]) hx hb dX2_bill_10 rfl hl (by decide) rfl (fun ls hl => ?_)
    refine lv_aload_n hx hb dX2_bill_11 rfl (lv_at hl 1 rfl) ?_
    refine lv_iload_n hx hb dX2_bill_12 rfl (lv_at hl 0 rfl) ?_
    refine lv_if_eq (tgt := 23) hx hb dX2_bill_13 (by decide) (fun c => absurd c (by decide)) (fun _ => ?_)
    refine lv_aload_n hx hb dX2_bill_16 rfl (lv_at hl 1 rfl) ?_
    refine fgetx hx hb ht inG2 hown hK hP (k := (14 + d)) (by omega) (x := (σ (14 + d))) rfl (sh_deli _ _ hd) rfl 1 (by decide) gw_274 (v := .int ((σ (14 + d)) 1)) rfl dX2_bill_17 ?_
    refine lv_goto (tgt := 27) hx hb dX2_bill_20 (by decide) ?_
    refine fputx (ref := "") (w := (σ (14 + d)) 1) hx hb ht inG2 tyX2 tyX2_ok nmX2 hown hK hP hI hS (k := (14 + d)) (by omega) (sh_deli _ _ hd) rfl 4 (by decide) gw_281 rfl rfl rfl (Nat.le_of_ble_eq_true rfl) (sh_deli _ _ hd) dX2_bill_27 (fun H locs hP hS => ?_)
    refine lv_aload_n hx hb dX2_bill_30 rfl (lv_at hl 1 rfl) ?_
    refine lv_iload_n hx hb dX2_bill_31 rfl (lv_at hl 0 rfl) ?_
    refine lv_if_eq (tgt := 39) hx hb dX2_bill_32 (by decide) (fun c => absurd c (by decide)) (fun _ => ?_)
    refine lv_iload_n hx hb dX2_bill_35 rfl (lv_at hl 2 rfl) ?_
    refine lv_goto (tgt := 40) hx hb dX2_bill_36 (by decide) ?_
    refine fputx (ref := "") (w := x) hx hb ht inG2 tyX2 tyX2_ok nmX2 hown hK hP hI hS (k := (14 + d)) (by omega) (sh_deli _ _ hd) rfl 5 (by decide) gw_284 rfl rfl rfl (Nat.le_of_ble_eq_true rfl) (sh_deli _ _ hd) dX2_bill_40 (fun H locs hP hS => ?_)
    exact ret_v hx hb hr hlk hP hS dX2_bill_43 (⟨by first | with_reducible rfl | (simp only [bilS, c1, ↓reduceIte, Bool.false_eq_true]; done) | (simp only [bilS, c1, ↓reduceIte, Bool.false_eq_true]; rfl) | rfl, by first | with_reducible rfl | (simp only [bilS, c1, ↓reduceIte, Bool.false_eq_true]; done) | (simp only [bilS, c1, ↓reduceIte, Bool.false_eq_true]; rfl) | rfl, rfl⟩)
set_option maxHeartbeats 4000000 in
set_option maxRecDepth 100000 in
theorem c_X2_billed (l : Launch) (D : va_G) (ca : Nat → ClassId) (ad : Nat → Nat) (hI : Inj 158 ad) (σ : MI) (τ : ML) {d : Nat} (hd : d < 30) : CT l D (TY ca) 158 ad (cxf ca ad) yX2_billed cX2_billed 1 (some .long) 0 0 [.ref (ad (14 + d))] σ τ (fun v_ S_ T_ => some (.long ((σ (14 + d) 3).toInt64 * (σ (14 + d) 5).toInt64)) = v_ ∧ σ = S_ ∧ τ = T_) := by
  refine CT.of (by decide) (Nat.le_of_ble_eq_true rfl) ?_
  intro p e s m args below meth c hx hb hr ht hown hlk hml hP hK hN hS ls hl
  have hl : lv_has ls 1 [(0, .ref (ad (14 + d)))] := hl
  refine lv_aload_n hx hb dX2_billed_0 rfl (lv_at hl 0 rfl) ?_
  refine fgetx hx hb ht inG2 hown hK hP (k := (14 + d)) (by omega) (x := (σ (14 + d))) rfl (sh_deli _ _ hd) rfl 3 (by decide) gw_279 (v := .int ((σ (14 + d)) 3)) rfl dX2_billed_1 ?_
  refine lv_i2l (v := ((σ (14 + d)) 3).toInt64) hx hb dX2_billed_4 rfl ?_
  refine lv_aload_n hx hb dX2_billed_5 rfl (lv_at hl 0 rfl) ?_
  refine fgetx hx hb ht inG2 hown hK hP (k := (14 + d)) (by omega) (x := (σ (14 + d))) rfl (sh_deli _ _ hd) rfl 5 (by decide) gw_284 (v := .int ((σ (14 + d)) 5)) rfl dX2_billed_6 ?_
  refine lv_i2l (v := ((σ (14 + d)) 5).toInt64) hx hb dX2_billed_9 rfl ?_
  refine lv_lmul hx hb dX2_billed_10 ?_
  exact ret_l hx hb hr hlk hP hS dX2_billed_11 (⟨by first | with_reducible rfl | (simp only [↓reduceIte, Bool.false_eq_true]; done) | (simp only [↓reduceIte, Bool.false_eq_true]; rfl) | rfl, by first | with_reducible rfl | (simp only [↓reduceIte, Bool.false_eq_true]; done) | (simp only [↓reduceIte, Bool.false_eq_true]; rfl) | rfl, rfl⟩)
set_option maxHeartbeats 4000000 in
set_option maxRecDepth 100000 in
theorem c_X2_isSettled (l : Launch) (D : va_G) (ca : Nat → ClassId) (ad : Nat → Nat) (hI : Inj 158 ad) (σ : MI) (τ : ML) {d : Nat} (hd : d < 30) : CT l D (TY ca) 158 ad (cxf ca ad) yX2_isSettled cX2_isSettled 1 (some .boolean) 0 0 [.ref (ad (14 + d))] σ τ (fun v_ S_ T_ => some (.int (b2i (isSet (σ (14 + d) 6)))) = v_ ∧ σ = S_ ∧ τ = T_) := by
  refine CT.of (by decide) (Nat.le_of_ble_eq_true rfl) ?_
  intro p e s m args below meth c hx hb hr ht hown hlk hml hP hK hN hS ls hl
  have hl : lv_has ls 1 [(0, .ref (ad (14 + d)))] := hl
  refine lv_aload_n hx hb dX2_isSettled_0 rfl (lv_at hl 0 rfl) ?_
  refine fgetx hx hb ht inG2 hown hK hP (k := (14 + d)) (by omega) (x := (σ (14 + d))) rfl (sh_deli _ _ hd) rfl 6 (by decide) gw_286 (v := .int ((σ (14 + d)) 6)) rfl dX2_isSettled_1 ?_
  refine lv_iconst (v := -1) hx hb dX2_isSettled_4 (by decide) ?_
  refine lv_icmp_eq (tgt := 12) hx hb dX2_isSettled_5 (by decide) (fun c1 => ?_) (fun c1 => ?_)
  · have dc1 := c1
    rw [i_eq] at dc1
    refine lv_iconst (v := 0) hx hb dX2_isSettled_12 (by decide) ?_
    exact ret_z hx hb hr hlk hP hS dX2_isSettled_13 (b := false) rfl (⟨by first | with_reducible rfl | (simp only [isSet, c1, ↓reduceIte, Bool.false_eq_true]; done) | (simp only [isSet, c1, ↓reduceIte, Bool.false_eq_true]; rfl) | rfl, by first | with_reducible rfl | (simp only [isSet, c1, ↓reduceIte, Bool.false_eq_true]; done) | (simp only [isSet, c1, ↓reduceIte, Bool.false_eq_true]; rfl) | rfl, rfl⟩)
  · have dc1 := c1
    rw [i_eq] at dc1
    refine lv_iconst (v := 1) hx hb dX2_isSettled_8 (by decide) ?_
    refine lv_goto (tgt := 13) hx hb dX2_isSettled_9 (by decide) ?_
    exact ret_z hx hb hr hlk hP hS dX2_isSettled_13 (b := true) rfl (⟨by first | with_reducible rfl | (simp only [isSet, c1, ↓reduceIte, Bool.false_eq_true]; done) | (simp only [isSet, c1, ↓reduceIte, Bool.false_eq_true]; rfl) | rfl, by first | with_reducible rfl | (simp only [isSet, c1, ↓reduceIte, Bool.false_eq_true]; done) | (simp only [isSet, c1, ↓reduceIte, Bool.false_eq_true]; rfl) | rfl, rfl⟩)
set_option maxHeartbeats 4000000 in
set_option maxRecDepth 100000 in
theorem c_X2_settle (l : Launch) (D : va_G) (ca : Nat → ClassId) (ad : Nat → Nat) (hI : Inj 158 ad) (σ : MI) (τ : ML) {d : Nat} (hd : d < 30) (x y : Int32) : CT l D (TY ca) 158 ad (cxf ca ad) yX2_settle cX2_settle 3 none 1 20 [.ref (ad (14 + d)), .int x, .int y] σ τ (fun v_ S_ T_ => none = v_ ∧ (s2 σ (14 + d) 6 y) = S_ ∧ (s2L τ (14 + d) 7 ((σ (14 + d) 3).toInt64 * x.toInt64 - (σ (14 + d) 3).toInt64 * (σ (14 + d) 5).toInt64)) = T_) := by
  refine CT.of (by decide) (Nat.le_of_ble_eq_true rfl) ?_
  intro p e s m args below meth c hx hb hr ht hown hlk hml hP hK hN hS ls hl
  have hl : lv_has ls 3 [(0, .ref (ad (14 + d))), (1, .int x), (2, .int y)] := hl
  refine lv_aload_n hx hb dX2_settle_0 rfl (lv_at hl 0 rfl) ?_
  refine lv_aload_n hx hb dX2_settle_1 rfl (lv_at hl 0 rfl) ?_
  refine fgetx hx hb ht inG2 hown hK hP (k := (14 + d)) (by omega) (x := (σ (14 + d))) rfl (sh_deli _ _ hd) rfl 3 (by decide) gw_279 (v := .int ((σ (14 + d)) 3)) rfl dX2_settle_2 ?_
  refine lv_i2l (v := ((σ (14 + d)) 3).toInt64) hx hb dX2_settle_5 rfl ?_
  refine lv_iload_n hx hb dX2_settle_6 rfl (lv_at hl 1 rfl) ?_
  refine lv_i2l (v := x.toInt64) hx hb dX2_settle_7 rfl ?_
  refine lv_lmul hx hb dX2_settle_8 ?_
  refine lv_aload_n hx hb dX2_settle_9 rfl (lv_at hl 0 rfl) ?_
  refine callv (y := yX2_billed) ⟨hx, hb, hml, hown, ht⟩ hK hN hP hS (k := (14 + d)) (c_X2_billed l D ca ad hI σ τ hd) (by omega) (sh_deli _ _ hd) rfl ok_X2_billed gw_779 ⟨by decide, by decide⟩ rfl hl.1 rfl (Nat.le_of_ble_eq_true rfl) ⟨by decide, by decide⟩ dX2_settle_10 (fun v_ S_ T_ H locs hp1 hP hS => ?_)
  obtain ⟨rfl, rfl, rfl⟩ := hp1
  try dsimp only [Option.toList, List.cons_append, List.nil_append]
  refine lv_lsub hx hb dX2_settle_13 ?_
  refine fputy (ref := "") (w := ((((σ (14 + d)) 3).toInt64) * x.toInt64) - ((σ (14 + d) 3).toInt64 * (σ (14 + d) 5).toInt64)) hx hb ht inG2 tyX2 tyX2_ok nmX2 hown hK hP hI hS (k := (14 + d)) (by omega) (sh_deli _ _ hd) rfl 7 (by decide) gw_289 rfl rfl rfl (Nat.le_of_ble_eq_true rfl) (sh_deli _ _ hd) dX2_settle_14 (fun H locs hP hS => ?_)
  refine lv_aload_n hx hb dX2_settle_17 rfl (lv_at hl 0 rfl) ?_
  refine lv_iload_n hx hb dX2_settle_18 rfl (lv_at hl 2 rfl) ?_
  refine fputx (ref := "") (w := y) hx hb ht inG2 tyX2 tyX2_ok nmX2 hown hK hP hI hS (k := (14 + d)) (by omega) (sh_deli _ _ hd) rfl 6 (by decide) gw_286 rfl rfl rfl (Nat.le_of_ble_eq_true rfl) (sh_deli _ _ hd) dX2_settle_19 (fun H locs hP hS => ?_)
  exact ret_v hx hb hr hlk hP hS dX2_settle_22 (⟨by first | with_reducible rfl | (simp only [↓reduceIte, Bool.false_eq_true]; done) | (simp only [↓reduceIte, Bool.false_eq_true]; rfl) | rfl, by first | with_reducible rfl | (simp only [↓reduceIte, Bool.false_eq_true]; done) | (simp only [↓reduceIte, Bool.false_eq_true]; rfl) | rfl, rfl⟩)
set_option maxHeartbeats 4000000 in
set_option maxRecDepth 100000 in
theorem c_X3_forget (l : Launch) (D : va_G) (ca : Nat → ClassId) (ad : Nat → Nat) (hI : Inj 158 ad) (σ : MI) (τ : ML)  : CT l D (TY ca) 158 ad (cxf ca ad) yX3_forget cX3_forget 1 none 0 0 [.ref (ad 6)] σ τ (fun v_ S_ T_ => none = v_ ∧ (s2 σ 6 6 0) = S_ ∧ τ = T_) := by
  refine CT.of (by decide) (Nat.le_of_ble_eq_true rfl) ?_
  intro p e s m args below meth c hx hb hr ht hown hlk hml hP hK hN hS ls hl
  have hl : lv_has ls 1 [(0, .ref (ad 6))] := hl
  refine lv_aload_n hx hb dX3_forget_0 rfl (lv_at hl 0 rfl) ?_
  refine lv_iconst (v := 0) hx hb dX3_forget_1 (by decide) ?_
  refine fputx (ref := "") (w := 0) hx hb ht inG3 tyX3 tyX3_ok nmX3 hown hK hP hI hS (k := 6) (by decide) (sh_hist _ _) rfl 6 (by decide) gw_334 rfl rfl rfl (Nat.le_of_ble_eq_true rfl) (sh_hist _ _) dX3_forget_2 (fun H locs hP hS => ?_)
  exact ret_v hx hb hr hlk hP hS dX3_forget_5 (⟨by first | with_reducible rfl | (simp only [↓reduceIte, Bool.false_eq_true]; done) | (simp only [↓reduceIte, Bool.false_eq_true]; rfl) | rfl, by first | with_reducible rfl | (simp only [↓reduceIte, Bool.false_eq_true]; done) | (simp only [↓reduceIte, Bool.false_eq_true]; rfl) | rfl, rfl⟩)
set_option maxHeartbeats 4000000 in
set_option maxRecDepth 100000 in
theorem c_X3_keep (l : Launch) (D : va_G) (ca : Nat → ClassId) (ad : Nat → Nat) (hI : Inj 158 ad) (σ : MI) (τ : ML) (a i_ m_ n_ k_ : Int32) : CT l D (TY ca) 158 ad (cxf ca ad) yX3_keep cX3_keep 6 none 1 24 [.ref (ad 6), .int a, .int i_, .int m_, .int n_, .int k_] σ τ (fun v_ S_ T_ => none = v_ ∧ (keepS σ a i_ m_ n_ k_) = S_ ∧ τ = T_) := by
  refine CT.of (by decide) (Nat.le_of_ble_eq_true rfl) ?_
  intro p e s m args below meth c hx hb hr ht hown hlk hml hP hK hN hS ls hl
  have hl : lv_has ls 6 [(0, .ref (ad 6)), (1, .int a), (2, .int i_), (3, .int m_), (4, .int n_), (5, .int k_)] := hl
  refine lv_aload_n hx hb dX3_keep_0 rfl (lv_at hl 0 rfl) ?_
  refine fgetx hx hb ht inG3 hown hK hP (k := 6) (by decide) (x := (σ 6)) rfl (sh_hist _ _) rfl 5 (by decide) gw_333 (v := .int ((σ 6) 5)) rfl dX3_keep_1 ?_
  refine lv_if_lt (tgt := 16) hx hb dX3_keep_4 (by decide) (fun c1 => ?_) (fun c1 => ?_)
  · have dc1 := c1
    rw [i_lt] at dc1
    exact ret_v hx hb hr hlk hP hS dX3_keep_16 (⟨by first | with_reducible rfl | (simp only [keepS, rm8, mn8, c1, ↓reduceIte, Bool.false_eq_true]; done) | (simp only [keepS, rm8, mn8, c1, ↓reduceIte, Bool.false_eq_true]; rfl) | rfl, by first | with_reducible rfl | (simp only [keepS, rm8, mn8, c1, ↓reduceIte, Bool.false_eq_true]; done) | (simp only [keepS, rm8, mn8, c1, ↓reduceIte, Bool.false_eq_true]; rfl) | rfl, rfl⟩)
  · have dc1 := c1
    rw [i_lt] at dc1
    refine lv_aload_n hx hb dX3_keep_7 rfl (lv_at hl 0 rfl) ?_
    refine fgetx hx hb ht inG3 hown hK hP (k := 6) (by decide) (x := (σ 6)) rfl (sh_hist _ _) rfl 5 (by decide) gw_333 (v := .int ((σ 6) 5)) rfl dX3_keep_8 ?_
    refine lv_bipush (v := 8) hx hb dX3_keep_11 (by decide) ?_
    refine lv_icmp_lt (tgt := 17) hx hb dX3_keep_13 (by decide) (fun c2 => ?_) (fun c2 => ?_)
    · have dc2 := c2
      rw [i_lt] at dc2
      refine lv_aload_n hx hb dX3_keep_17 rfl (lv_at hl 0 rfl) ?_
      refine fgetx hx hb ht inG3 hown hK hP (k := 6) (by decide) (x := (σ 6)) rfl (sh_hist _ _) rfl 0 (by decide) gw_323 (v := .ref (ad 7)) rfl dX3_keep_18 ?_
      refine lv_aload_n hx hb dX3_keep_21 rfl (lv_at hl 0 rfl) ?_
      refine fgetx hx hb ht inG3 hown hK hP (k := 6) (by decide) (x := (σ 6)) rfl (sh_hist _ _) rfl 5 (by decide) gw_333 (v := .int ((σ 6) 5)) rfl dX3_keep_22 ?_
      refine lv_iload_n hx hb dX3_keep_25 rfl (lv_at hl 1 rfl) ?_
      refine astj hx hb hK hP hI hS (k := 7) (by decide) 0 (fun f => sh_h7 f _ ) rfl (in_lt2 (n := 8) ‹_› ‹_› rfl) (j := ((σ 6) 5).toNatClampNeg) rfl dX3_keep_26 (fun H locs hP hS => ?_)
      refine lv_aload_n hx hb dX3_keep_27 rfl (lv_at hl 0 rfl) ?_
      refine fgetx hx hb ht inG3 hown hK hP (k := 6) (by decide) (x := (σ 6)) (s2_nk _ _ _ (by omega)) (sh_hist _ _) rfl 1 (by decide) gw_325 (v := .ref (ad 8)) rfl dX3_keep_28 ?_
      refine lv_aload_n hx hb dX3_keep_31 rfl (lv_at hl 0 rfl) ?_
      refine fgetx hx hb ht inG3 hown hK hP (k := 6) (by decide) (x := (σ 6)) (s2_nk _ _ _ (by omega)) (sh_hist _ _) rfl 5 (by decide) gw_333 (v := .int ((σ 6) 5)) rfl dX3_keep_32 ?_
      refine lv_iload_n hx hb dX3_keep_35 rfl (lv_at hl 2 rfl) ?_
      refine astj hx hb hK hP hI hS (k := 8) (by decide) 0 (fun f => sh_h8 f _ ) rfl (in_lt2 (n := 8) ‹_› ‹_› rfl) (j := ((σ 6) 5).toNatClampNeg) rfl dX3_keep_36 (fun H locs hP hS => ?_)
      refine lv_aload_n hx hb dX3_keep_37 rfl (lv_at hl 0 rfl) ?_
      refine fgetx hx hb ht inG3 hown hK hP (k := 6) (by decide) (x := (σ 6)) ((s2_nk _ _ _ (by omega)).trans (s2_nk _ _ _ (by omega))) (sh_hist _ _) rfl 2 (by decide) gw_327 (v := .ref (ad 9)) rfl dX3_keep_38 ?_
      refine lv_aload_n hx hb dX3_keep_41 rfl (lv_at hl 0 rfl) ?_
      refine fgetx hx hb ht inG3 hown hK hP (k := 6) (by decide) (x := (σ 6)) ((s2_nk _ _ _ (by omega)).trans (s2_nk _ _ _ (by omega))) (sh_hist _ _) rfl 5 (by decide) gw_333 (v := .int ((σ 6) 5)) rfl dX3_keep_42 ?_
      refine lv_iload_n hx hb dX3_keep_45 rfl (lv_at hl 3 rfl) ?_
      refine astj hx hb hK hP hI hS (k := 9) (by decide) 0 (fun f => sh_h9 f _ ) rfl (in_lt2 (n := 8) ‹_› ‹_› rfl) (j := ((σ 6) 5).toNatClampNeg) rfl dX3_keep_46 (fun H locs hP hS => ?_)
      refine lv_aload_n hx hb dX3_keep_47 rfl (lv_at hl 0 rfl) ?_
      refine fgetx hx hb ht inG3 hown hK hP (k := 6) (by decide) (x := (σ 6)) ((s2_nk _ _ _ (by omega)).trans ((s2_nk _ _ _ (by omega)).trans (s2_nk _ _ _ (by omega)))) (sh_hist _ _) rfl 3 (by decide) gw_329 (v := .ref (ad 10)) rfl dX3_keep_48 ?_
      refine lv_aload_n hx hb dX3_keep_51 rfl (lv_at hl 0 rfl) ?_
      refine fgetx hx hb ht inG3 hown hK hP (k := 6) (by decide) (x := (σ 6)) ((s2_nk _ _ _ (by omega)).trans ((s2_nk _ _ _ (by omega)).trans (s2_nk _ _ _ (by omega)))) (sh_hist _ _) rfl 5 (by decide) gw_333 (v := .int ((σ 6) 5)) rfl dX3_keep_52 ?_
      refine lv_iload hx hb dX3_keep_55 (lv_at hl 4 rfl) ?_
      refine astj hx hb hK hP hI hS (k := 10) (by decide) 0 (fun f => sh_h10 f _ ) rfl (in_lt2 (n := 8) ‹_› ‹_› rfl) (j := ((σ 6) 5).toNatClampNeg) rfl dX3_keep_57 (fun H locs hP hS => ?_)
      refine lv_aload_n hx hb dX3_keep_58 rfl (lv_at hl 0 rfl) ?_
      refine fgetx hx hb ht inG3 hown hK hP (k := 6) (by decide) (x := (σ 6)) ((s2_nk _ _ _ (by omega)).trans ((s2_nk _ _ _ (by omega)).trans ((s2_nk _ _ _ (by omega)).trans (s2_nk _ _ _ (by omega))))) (sh_hist _ _) rfl 4 (by decide) gw_331 (v := .ref (ad 11)) rfl dX3_keep_59 ?_
      refine lv_aload_n hx hb dX3_keep_62 rfl (lv_at hl 0 rfl) ?_
      refine fgetx hx hb ht inG3 hown hK hP (k := 6) (by decide) (x := (σ 6)) ((s2_nk _ _ _ (by omega)).trans ((s2_nk _ _ _ (by omega)).trans ((s2_nk _ _ _ (by omega)).trans (s2_nk _ _ _ (by omega))))) (sh_hist _ _) rfl 5 (by decide) gw_333 (v := .int ((σ 6) 5)) rfl dX3_keep_63 ?_
      refine lv_iload hx hb dX3_keep_66 (lv_at hl 5 rfl) ?_
      refine astj hx hb hK hP hI hS (k := 11) (by decide) 0 (fun f => sh_h11 f _ ) rfl (in_lt2 (n := 8) ‹_› ‹_› rfl) (j := ((σ 6) 5).toNatClampNeg) rfl dX3_keep_68 (fun H locs hP hS => ?_)
      refine lv_aload_n hx hb dX3_keep_69 rfl (lv_at hl 0 rfl) ?_
      refine lv_aload_n hx hb dX3_keep_70 rfl (lv_at hl 0 rfl) ?_
      refine fgetx hx hb ht inG3 hown hK hP (k := 6) (by decide) (x := (σ 6)) ((s2_nk _ _ _ (by omega)).trans ((s2_nk _ _ _ (by omega)).trans ((s2_nk _ _ _ (by omega)).trans ((s2_nk _ _ _ (by omega)).trans (s2_nk _ _ _ (by omega)))))) (sh_hist _ _) rfl 5 (by decide) gw_333 (v := .int ((σ 6) 5)) rfl dX3_keep_71 ?_
      refine lv_iconst (v := 1) hx hb dX3_keep_74 (by decide) ?_
      refine lv_iadd hx hb dX3_keep_75 ?_
      refine lv_bipush (v := 8) hx hb dX3_keep_76 (by decide) ?_
      refine lv_irem hx hb dX3_keep_78 (by decide) ?_
      refine fputx (ref := "") (w := (((σ 6) 5) + 1) - (((σ 6) 5) + 1) / 8 * 8) hx hb ht inG3 tyX3 tyX3_ok nmX3 hown hK hP hI hS (k := 6) (by decide) (sh_hist _ _) rfl 5 (by decide) gw_333 rfl rfl rfl (Nat.le_of_ble_eq_true rfl) (sh_hist _ _) dX3_keep_79 (fun H locs hP hS => ?_)
      refine lv_aload_n hx hb dX3_keep_82 rfl (lv_at hl 0 rfl) ?_
      refine lv_aload_n hx hb dX3_keep_83 rfl (lv_at hl 0 rfl) ?_
      refine fgetx hx hb ht inG3 hown hK hP (k := 6) (by decide) (x := (upd (σ 6) 5 ((((σ 6) 5) + 1) - (((σ 6) 5) + 1) / 8 * 8))) ((s2_k _ _ _ _).trans (congrArg (fun f => upd f 5 ((((σ 6) 5) + 1) - (((σ 6) 5) + 1) / 8 * 8)) ((s2_nk _ _ _ (by omega)).trans ((s2_nk _ _ _ (by omega)).trans ((s2_nk _ _ _ (by omega)).trans ((s2_nk _ _ _ (by omega)).trans (s2_nk _ _ _ (by omega)))))))) (sh_hist _ _) rfl 6 (by decide) gw_334 (v := .int ((σ 6) 6)) rfl dX3_keep_84 ?_
      refine lv_iconst (v := 1) hx hb dX3_keep_87 (by decide) ?_
      refine lv_iadd hx hb dX3_keep_88 ?_
      refine lv_bipush (v := 8) hx hb dX3_keep_89 (by decide) ?_
      refine va_mmin hx hb (hml.trans hl.1.symm) hown (ht _ gw_729) (ht _ gw_621) (ht _ gw_68) (ht _ gw_622) (by decide) (Nat.le_of_ble_eq_true rfl) (by decide) (by decide) dX3_keep_91 ?_
      refine fputx (ref := "") (w := if 8 < ((σ 6) 6) + 1 then 8 else ((σ 6) 6) + 1) hx hb ht inG3 tyX3 tyX3_ok nmX3 hown hK hP hI hS (k := 6) (by decide) (sh_hist _ _) rfl 6 (by decide) gw_334 rfl rfl rfl (Nat.le_of_ble_eq_true rfl) (sh_hist _ _) dX3_keep_94 (fun H locs hP hS => ?_)
      exact ret_v hx hb hr hlk hP hS dX3_keep_97 (⟨by first | with_reducible rfl | (simp only [keepS, rm8, mn8, c1, c2, ↓reduceIte, Bool.false_eq_true]; done) | (simp only [keepS, rm8, mn8, c1, c2, ↓reduceIte, Bool.false_eq_true]; rfl) | rfl, by first | with_reducible rfl | (simp only [keepS, rm8, mn8, c1, c2, ↓reduceIte, Bool.false_eq_true]; done) | (simp only [keepS, rm8, mn8, c1, c2, ↓reduceIte, Bool.false_eq_true]; rfl) | rfl, rfl⟩)
    · have dc2 := c2
      rw [i_lt] at dc2
      exact ret_v hx hb hr hlk hP hS dX3_keep_16 (⟨by first | with_reducible rfl | (simp only [keepS, rm8, mn8, c1, c2, ↓reduceIte, Bool.false_eq_true]; done) | (simp only [keepS, rm8, mn8, c1, c2, ↓reduceIte, Bool.false_eq_true]; rfl) | rfl, by first | with_reducible rfl | (simp only [keepS, rm8, mn8, c1, c2, ↓reduceIte, Bool.false_eq_true]; done) | (simp only [keepS, rm8, mn8, c1, c2, ↓reduceIte, Bool.false_eq_true]; rfl) | rfl, rfl⟩)
set_option maxHeartbeats 4000000 in
set_option maxRecDepth 100000 in
theorem c_X3_takeLatest (l : Launch) (D : va_G) (ca : Nat → ClassId) (ad : Nat → Nat) (hI : Inj 158 ad) (σ : MI) (τ : ML)  : CT l D (TY ca) 158 ad (cxf ca ad) yX3_takeLatest cX3_takeLatest 1 (some .int) 0 0 [.ref (ad 6)] σ τ (fun v_ S_ T_ => some (.int (tlR σ)) = v_ ∧ (tlS σ) = S_ ∧ τ = T_) := by
  refine CT.of (by decide) (Nat.le_of_ble_eq_true rfl) ?_
  intro p e s m args below meth c hx hb hr ht hown hlk hml hP hK hN hS ls hl
  have hl : lv_has ls 1 [(0, .ref (ad 6))] := hl
  refine lv_aload_n hx hb dX3_takeLatest_0 rfl (lv_at hl 0 rfl) ?_
  refine fgetx hx hb ht inG3 hown hK hP (k := 6) (by decide) (x := (σ 6)) rfl (sh_hist _ _) rfl 6 (by decide) gw_334 (v := .int ((σ 6) 6)) rfl dX3_takeLatest_1 ?_
  refine lv_if_gt (tgt := 9) hx hb dX3_takeLatest_4 (by decide) (fun c1 => ?_) (fun c1 => ?_)
  · have dc1 := c1
    rw [i_lt] at dc1
    refine lv_aload_n hx hb dX3_takeLatest_9 rfl (lv_at hl 0 rfl) ?_
    refine lv_aload_n hx hb dX3_takeLatest_10 rfl (lv_at hl 0 rfl) ?_
    refine fgetx hx hb ht inG3 hown hK hP (k := 6) (by decide) (x := (σ 6)) rfl (sh_hist _ _) rfl 5 (by decide) gw_333 (v := .int ((σ 6) 5)) rfl dX3_takeLatest_11 ?_
    refine lv_bipush (v := 8) hx hb dX3_takeLatest_14 (by decide) ?_
    refine lv_iadd hx hb dX3_takeLatest_16 ?_
    refine lv_iconst (v := 1) hx hb dX3_takeLatest_17 (by decide) ?_
    refine lv_isub hx hb dX3_takeLatest_18 ?_
    refine lv_bipush (v := 8) hx hb dX3_takeLatest_19 (by decide) ?_
    refine lv_irem hx hb dX3_takeLatest_21 (by decide) ?_
    refine fputx (ref := "") (w := ((((σ 6) 5) + 8) - 1) - ((((σ 6) 5) + 8) - 1) / 8 * 8) hx hb ht inG3 tyX3 tyX3_ok nmX3 hown hK hP hI hS (k := 6) (by decide) (sh_hist _ _) rfl 5 (by decide) gw_333 rfl rfl rfl (Nat.le_of_ble_eq_true rfl) (sh_hist _ _) dX3_takeLatest_22 (fun H locs hP hS => ?_)
    refine lv_aload_n hx hb dX3_takeLatest_25 rfl (lv_at hl 0 rfl) ?_
    refine lv_dup hx hb dX3_takeLatest_26 rfl ?_
    refine fgetx hx hb ht inG3 hown hK hP (k := 6) (by decide) (x := (upd (σ 6) 5 (((((σ 6) 5) + 8) - 1) - ((((σ 6) 5) + 8) - 1) / 8 * 8))) (s2_k _ _ _ _) (sh_hist _ _) rfl 6 (by decide) gw_334 (v := .int ((σ 6) 6)) rfl dX3_takeLatest_27 ?_
    refine lv_iconst (v := 1) hx hb dX3_takeLatest_30 (by decide) ?_
    refine lv_isub hx hb dX3_takeLatest_31 ?_
    refine fputx (ref := "") (w := ((σ 6) 6) - 1) hx hb ht inG3 tyX3 tyX3_ok nmX3 hown hK hP hI hS (k := 6) (by decide) (sh_hist _ _) rfl 6 (by decide) gw_334 rfl rfl rfl (Nat.le_of_ble_eq_true rfl) (sh_hist _ _) dX3_takeLatest_32 (fun H locs hP hS => ?_)
    refine lv_aload_n hx hb dX3_takeLatest_35 rfl (lv_at hl 0 rfl) ?_
    refine fgetx hx hb ht inG3 hown hK hP (k := 6) (by decide) (x := (upd (upd (σ 6) 5 (((((σ 6) 5) + 8) - 1) - ((((σ 6) 5) + 8) - 1) / 8 * 8)) 6 (((σ 6) 6) - 1))) ((s2_k _ _ _ _).trans (congrArg (fun f => upd f 6 (((σ 6) 6) - 1)) (s2_k _ _ _ _))) (sh_hist _ _) rfl 5 (by decide) gw_333 (v := .int (((((σ 6) 5) + 8) - 1) - ((((σ 6) 5) + 8) - 1) / 8 * 8)) rfl dX3_takeLatest_36 ?_
    exact ret_i hx hb hr hlk hP hS dX3_takeLatest_39 (⟨by first | with_reducible rfl | (simp only [tlR, tlS, rm8, c1, ↓reduceIte, Bool.false_eq_true]; done) | (simp only [tlR, tlS, rm8, c1, ↓reduceIte, Bool.false_eq_true]; rfl) | rfl, by first | with_reducible rfl | (simp only [tlR, tlS, rm8, c1, ↓reduceIte, Bool.false_eq_true]; done) | (simp only [tlR, tlS, rm8, c1, ↓reduceIte, Bool.false_eq_true]; rfl) | rfl, rfl⟩)
  · have dc1 := c1
    rw [i_lt] at dc1
    refine lv_iconst (v := -1) hx hb dX3_takeLatest_7 (by decide) ?_
    exact ret_i hx hb hr hlk hP hS dX3_takeLatest_8 (⟨by first | with_reducible rfl | (simp only [tlR, tlS, rm8, c1, ↓reduceIte, Bool.false_eq_true]; done) | (simp only [tlR, tlS, rm8, c1, ↓reduceIte, Bool.false_eq_true]; rfl) | rfl, by first | with_reducible rfl | (simp only [tlR, tlS, rm8, c1, ↓reduceIte, Bool.false_eq_true]; done) | (simp only [tlR, tlS, rm8, c1, ↓reduceIte, Bool.false_eq_true]; rfl) | rfl, rfl⟩)
set_option maxHeartbeats 4000000 in
set_option maxRecDepth 100000 in
theorem c_X5_rowAt (l : Launch) (D : va_G) (ca : Nat → ClassId) (ad : Nat → Nat) (hI : Inj 158 ad) (σ : MI) (τ : ML) (x : Int32) : CT l D (TY ca) 158 ad (cxf ca ad) yX5_rowAt cX5_rowAt 2 (some (.object "PriceDesk$Delivery")) 0 0 [.ref (ad 12), .int x] σ τ (fun v_ S_ T_ => (inC x (σ 12 1) 30 = false ∧ some .null = v_ ∧ σ = S_ ∧ τ = T_) ∨ (inC x (σ 12 1) 30 = true ∧ some (.ref (ad (14 + x.toNatClampNeg))) = v_ ∧ σ = S_ ∧ τ = T_)) := by
  refine CT.of (by decide) (Nat.le_of_ble_eq_true rfl) ?_
  intro p e s m args below meth c hx hb hr ht hown hlk hml hP hK hN hS ls hl
  have hl : lv_has ls 2 [(0, .ref (ad 12)), (1, .int x)] := hl
  refine lv_iload_n hx hb dX5_rowAt_0 rfl (lv_at hl 1 rfl) ?_
  refine lv_if_lt (tgt := 27) hx hb dX5_rowAt_1 (by decide) (fun c1 => ?_) (fun c1 => ?_)
  · have dc1 := c1
    rw [i_lt] at dc1
    refine lv_null hx hb dX5_rowAt_27 ?_
    exact ret_a hx hb hr hlk hP hS dX5_rowAt_28 (by first | exact Or.inl rfl | exact Or.inr ⟨_, rfl⟩) (Or.inl ⟨by simp only [inC, c1, ↓reduceIte], rfl, rfl, rfl⟩)
  · have dc1 := c1
    rw [i_lt] at dc1
    refine lv_iload_n hx hb dX5_rowAt_4 rfl (lv_at hl 1 rfl) ?_
    refine lv_aload_n hx hb dX5_rowAt_5 rfl (lv_at hl 0 rfl) ?_
    refine fgetx hx hb ht inG5 hown hK hP (k := 12) (by decide) (x := (σ 12)) rfl (sh_ledg _ _) rfl 1 (by decide) gw_310 (v := .int ((σ 12) 1)) rfl dX5_rowAt_6 ?_
    refine lv_icmp_ge (tgt := 27) hx hb dX5_rowAt_9 (by decide) (fun c2 => ?_) (fun c2 => ?_)
    · have dc2 := c2
      rw [i_le] at dc2
      refine lv_null hx hb dX5_rowAt_27 ?_
      exact ret_a hx hb hr hlk hP hS dX5_rowAt_28 (by first | exact Or.inl rfl | exact Or.inr ⟨_, rfl⟩) (Or.inl ⟨by simp only [inC, c1, c2, ↓reduceIte], rfl, rfl, rfl⟩)
    · have dc2 := c2
      rw [i_le] at dc2
      refine lv_iload_n hx hb dX5_rowAt_12 rfl (lv_at hl 1 rfl) ?_
      refine lv_bipush (v := 30) hx hb dX5_rowAt_13 (by decide) ?_
      refine lv_icmp_ge (tgt := 27) hx hb dX5_rowAt_15 (by decide) (fun c3 => ?_) (fun c3 => ?_)
      · have dc3 := c3
        rw [i_le] at dc3
        refine lv_null hx hb dX5_rowAt_27 ?_
        exact ret_a hx hb hr hlk hP hS dX5_rowAt_28 (by first | exact Or.inl rfl | exact Or.inr ⟨_, rfl⟩) (Or.inl ⟨by simp only [inC, c1, c2, c3, ↓reduceIte], rfl, rfl, rfl⟩)
      · have dc3 := c3
        rw [i_le] at dc3
        refine lv_aload_n hx hb dX5_rowAt_18 rfl (lv_at hl 0 rfl) ?_
        refine fgetx hx hb ht inG5 hown hK hP (k := 12) (by decide) (x := (σ 12)) rfl (sh_ledg _ _) rfl 0 (by decide) gw_309 (v := .ref (ad 13)) rfl dX5_rowAt_19 ?_
        refine lv_iload_n hx hb dX5_rowAt_22 rfl (lv_at hl 1 rfl) ?_
        refine rldj hx hb hK hP (k := 13) (by decide) 4 (sh_rows _ _) rfl (in_lt (n := 30) ‹_› ‹_› rfl) (j := x.toNatClampNeg) rfl (a := ad (14 + x.toNatClampNeg)) rfl dX5_rowAt_23 ?_
        refine lv_goto (tgt := 28) hx hb dX5_rowAt_24 (by decide) ?_
        exact ret_a hx hb hr hlk hP hS dX5_rowAt_28 (by first | exact Or.inl rfl | exact Or.inr ⟨_, rfl⟩) (Or.inr ⟨by simp only [inC, c1, c2, c3, ↓reduceIte], rfl, rfl, rfl⟩)
set_option maxHeartbeats 4000000 in
set_option maxRecDepth 100000 in
theorem c_X5_addRow (l : Launch) (D : va_G) (ca : Nat → ClassId) (ad : Nat → Nat) (hI : Inj 158 ad) (σ : MI) (τ : ML)  : CT l D (TY ca) 158 ad (cxf ca ad) yX5_addRow cX5_addRow 1 (some (.object "PriceDesk$Delivery")) 0 0 [.ref (ad 12)] σ τ (fun v_ S_ T_ => (inL (σ 12 1) 30 = false ∧ some .null = v_ ∧ σ = S_ ∧ τ = T_) ∨ (inL (σ 12 1) 30 = true ∧ some (.ref (ad (14 + (σ 12 1).toNatClampNeg))) = v_ ∧ s2 σ 12 1 (σ 12 1 + 1) = S_ ∧ τ = T_)) := by
  refine CT.of (by decide) (Nat.le_of_ble_eq_true rfl) ?_
  intro p e s m args below meth c hx hb hr ht hown hlk hml hP hK hN hS ls hl
  have hl : lv_has ls 1 [(0, .ref (ad 12))] := hl
  refine lv_aload_n hx hb dX5_addRow_0 rfl (lv_at hl 0 rfl) ?_
  refine fgetx hx hb ht inG5 hown hK hP (k := 12) (by decide) (x := (σ 12)) rfl (sh_ledg _ _) rfl 1 (by decide) gw_310 (v := .int ((σ 12) 1)) rfl dX5_addRow_1 ?_
  refine lv_if_lt (tgt := 16) hx hb dX5_addRow_4 (by decide) (fun c1 => ?_) (fun c1 => ?_)
  · have dc1 := c1
    rw [i_lt] at dc1
    refine lv_null hx hb dX5_addRow_16 ?_
    exact ret_a hx hb hr hlk hP hS dX5_addRow_17 (by first | exact Or.inl rfl | exact Or.inr ⟨_, rfl⟩) (Or.inl ⟨by simp only [inL, c1, ↓reduceIte], rfl, rfl, rfl⟩)
  · have dc1 := c1
    rw [i_lt] at dc1
    refine lv_aload_n hx hb dX5_addRow_7 rfl (lv_at hl 0 rfl) ?_
    refine fgetx hx hb ht inG5 hown hK hP (k := 12) (by decide) (x := (σ 12)) rfl (sh_ledg _ _) rfl 1 (by decide) gw_310 (v := .int ((σ 12) 1)) rfl dX5_addRow_8 ?_
    refine lv_bipush (v := 30) hx hb dX5_addRow_11 (by decide) ?_
    refine lv_icmp_lt (tgt := 18) hx hb dX5_addRow_13 (by decide) (fun c2 => ?_) (fun c2 => ?_)
    · have dc2 := c2
      rw [i_lt] at dc2
      refine lv_aload_n hx hb dX5_addRow_18 rfl (lv_at hl 0 rfl) ?_
      refine lv_dup hx hb dX5_addRow_19 rfl ?_
      refine fgetx hx hb ht inG5 hown hK hP (k := 12) (by decide) (x := (σ 12)) rfl (sh_ledg _ _) rfl 1 (by decide) gw_310 (v := .int ((σ 12) 1)) rfl dX5_addRow_20 ?_
      refine lv_iconst (v := 1) hx hb dX5_addRow_23 (by decide) ?_
      refine lv_iadd hx hb dX5_addRow_24 ?_
      refine fputx (ref := "") (w := ((σ 12) 1) + 1) hx hb ht inG5 tyX5 tyX5_ok nmX5 hown hK hP hI hS (k := 12) (by decide) (sh_ledg _ _) rfl 1 (by decide) gw_310 rfl rfl rfl (Nat.le_of_ble_eq_true rfl) (sh_ledg _ _) dX5_addRow_25 (fun H locs hP hS => ?_)
      refine lv_aload_n hx hb dX5_addRow_28 rfl (lv_at hl 0 rfl) ?_
      refine fgetx hx hb ht inG5 hown hK hP (k := 12) (by decide) (x := (upd (σ 12) 1 (((σ 12) 1) + 1))) (s2_k _ _ _ _) (sh_ledg _ _) rfl 0 (by decide) gw_309 (v := .ref (ad 13)) rfl dX5_addRow_29 ?_
      refine lv_aload_n hx hb dX5_addRow_32 rfl (lv_at hl 0 rfl) ?_
      refine fgetx hx hb ht inG5 hown hK hP (k := 12) (by decide) (x := (upd (σ 12) 1 (((σ 12) 1) + 1))) (s2_k _ _ _ _) (sh_ledg _ _) rfl 1 (by decide) gw_310 (v := .int (((σ 12) 1) + 1)) rfl dX5_addRow_33 ?_
      refine lv_iconst (v := 1) hx hb dX5_addRow_36 (by decide) ?_
      refine lv_isub hx hb dX5_addRow_37 ?_
      refine rldj hx hb hK hP (k := 13) (by decide) 4 (sh_rows _ _) rfl (by rw [Int32.add_sub_cancel]; exact in_lt2 (n := 30) ‹_› ‹_› rfl) (j := ((((σ 12) 1) + 1) - 1).toNatClampNeg) rfl (a := ad (14 + (((((σ 12) 1) + 1) - 1).toNatClampNeg))) rfl dX5_addRow_38 ?_
      exact ret_a hx hb hr hlk hP hS dX5_addRow_39 (by first | exact Or.inl rfl | exact Or.inr ⟨_, rfl⟩) (Or.inr ⟨by simp only [inL, c1, c2, ↓reduceIte], by rw [Int32.add_sub_cancel], rfl, rfl⟩)
    · have dc2 := c2
      rw [i_lt] at dc2
      refine lv_null hx hb dX5_addRow_16 ?_
      exact ret_a hx hb hr hlk hP hS dX5_addRow_17 (by first | exact Or.inl rfl | exact Or.inr ⟨_, rfl⟩) (Or.inl ⟨by simp only [inL, c1, c2, ↓reduceIte], rfl, rfl, rfl⟩)
set_option maxHeartbeats 4000000 in
set_option maxRecDepth 100000 in
theorem c_X5_dropLatest (l : Launch) (D : va_G) (ca : Nat → ClassId) (ad : Nat → Nat) (hI : Inj 158 ad) (σ : MI) (τ : ML)  : CT l D (TY ca) 158 ad (cxf ca ad) yX5_dropLatest cX5_dropLatest 1 none 0 0 [.ref (ad 12)] σ τ (fun v_ S_ T_ => none = v_ ∧ (drS σ) = S_ ∧ τ = T_) := by
  refine CT.of (by decide) (Nat.le_of_ble_eq_true rfl) ?_
  intro p e s m args below meth c hx hb hr ht hown hlk hml hP hK hN hS ls hl
  have hl : lv_has ls 1 [(0, .ref (ad 12))] := hl
  refine lv_aload_n hx hb dX5_dropLatest_0 rfl (lv_at hl 0 rfl) ?_
  refine fgetx hx hb ht inG5 hown hK hP (k := 12) (by decide) (x := (σ 12)) rfl (sh_ledg _ _) rfl 1 (by decide) gw_310 (v := .int ((σ 12) 1)) rfl dX5_dropLatest_1 ?_
  refine lv_if_le (tgt := 17) hx hb dX5_dropLatest_4 (by decide) (fun c1 => ?_) (fun c1 => ?_)
  · have dc1 := c1
    rw [i_le] at dc1
    exact ret_v hx hb hr hlk hP hS dX5_dropLatest_17 (⟨by first | with_reducible rfl | (simp only [drS, c1, ↓reduceIte, Bool.false_eq_true]; done) | (simp only [drS, c1, ↓reduceIte, Bool.false_eq_true]; rfl) | rfl, by first | with_reducible rfl | (simp only [drS, c1, ↓reduceIte, Bool.false_eq_true]; done) | (simp only [drS, c1, ↓reduceIte, Bool.false_eq_true]; rfl) | rfl, rfl⟩)
  · have dc1 := c1
    rw [i_le] at dc1
    refine lv_aload_n hx hb dX5_dropLatest_7 rfl (lv_at hl 0 rfl) ?_
    refine lv_dup hx hb dX5_dropLatest_8 rfl ?_
    refine fgetx hx hb ht inG5 hown hK hP (k := 12) (by decide) (x := (σ 12)) rfl (sh_ledg _ _) rfl 1 (by decide) gw_310 (v := .int ((σ 12) 1)) rfl dX5_dropLatest_9 ?_
    refine lv_iconst (v := 1) hx hb dX5_dropLatest_12 (by decide) ?_
    refine lv_isub hx hb dX5_dropLatest_13 ?_
    refine fputx (ref := "") (w := ((σ 12) 1) - 1) hx hb ht inG5 tyX5 tyX5_ok nmX5 hown hK hP hI hS (k := 12) (by decide) (sh_ledg _ _) rfl 1 (by decide) gw_310 rfl rfl rfl (Nat.le_of_ble_eq_true rfl) (sh_ledg _ _) dX5_dropLatest_14 (fun H locs hP hS => ?_)
    exact ret_v hx hb hr hlk hP hS dX5_dropLatest_17 (⟨by first | with_reducible rfl | (simp only [drS, c1, ↓reduceIte, Bool.false_eq_true]; done) | (simp only [drS, c1, ↓reduceIte, Bool.false_eq_true]; rfl) | rfl, by first | with_reducible rfl | (simp only [drS, c1, ↓reduceIte, Bool.false_eq_true]; done) | (simp only [drS, c1, ↓reduceIte, Bool.false_eq_true]; rfl) | rfl, rfl⟩)
set_option maxHeartbeats 4000000 in
set_option maxRecDepth 100000 in
theorem lp_X5_count {l : Launch} {D : va_G} {ca : Nat → ClassId} {ad : Nat → Nat} (hI : Inj 158 ad) {σ : MI} {τ : ML}  {p : Program} {e : Env} {s : State} {m : MethodId} {args : Array Value} {below : List Frame} {meth : Method} {c : Code} (hx : p.tables.exec = Jvm.exec) (hb : c.code = cX5_countSettled) (hr : meth.sig.returnType = (some .int)) (ht : ∀ w ∈ GG, w.before args s = true) (hown : s.vm.findClass yX5_countSettled.cls = some m.cls) (hlk : meth.locks = false) (hml : c.maxLocals = 3) (hK : va_K D vwCl (TY ca) s) (hN : NW s) : ∀ (n : Nat) (k : Nat) (hk : k ≤ kmin (σ 12 1) 30) (hn : kmin (σ 12 1) 30 - k < n) (a : Int32) (ha : cntS (fun d => σ (14 + d) 6) k = a) (H : Heap) (locs : List Loc) (hP : PW D 158 ad (cxf ca ad) σ τ H) (hS : va_S (AA 158 ad) s.heap H locs) (ls : Array Slot) (hl : lv_has ls 3 [(2, .int (nI k)), (1, .int a), (0, .ref (ad 12))]), W p l e { frames := 1, cells := 0, slots := 0, locals := 20 } s m args below meth c H locs 0 0 (MQ below (QD D 158 ad (cxf ca ad) (fun v_ S_ T_ => some (.int (cntS (fun d => σ (14 + d) 6) (kmin (σ 12 1) 30))) = v_ ∧ σ = S_ ∧ τ = T_)) args s 0 0 (AA 158 ad)) (F0 m 4 ls []) := by
  intro n
  induction n with
  | zero => intro k hk hn a ha H locs hP hS ls hl; exact absurd ‹_› (by omega)
  | succ n ih =>
    intro k hk hn a ha H locs hP hS ls hl
    have eM : (30 : Int32).toInt = 30 := rfl
    have hc := clampI (σ 12 1)
    have hm : kmin (σ 12 1) 30 = min (σ 12 1).toNatClampNeg 30 := rfl
    have ek : (nI k).toInt = k := nI_toInt (by omega)
    refine lv_iload_n hx hb dX5_countSettled_4 rfl (lv_at hl 0 rfl) ?_
    refine lv_aload_n hx hb dX5_countSettled_5 rfl (lv_at hl 2 rfl) ?_
    refine fgetx hx hb ht inG5 hown hK hP (k := 12) (by decide) (x := (σ 12)) rfl (sh_ledg _ _) rfl 1 (by decide) gw_310 (v := .int ((σ 12) 1)) rfl dX5_countSettled_6 ?_
    refine lv_icmp_ge (tgt := 39) hx hb dX5_countSettled_9 (by decide) (fun c1 => ?_) (fun c1 => ?_)
    · have dc1 := c1
      rw [i_le] at dc1
      have hke : k = kmin (σ 12 1) 30 := by omega
      refine lv_iload_n hx hb dX5_countSettled_39 rfl (lv_at hl 1 rfl) ?_
      exact ret_i hx hb hr hlk hP hS dX5_countSettled_40 (⟨by rw [← hke, ha], rfl, rfl⟩)
    · have dc1 := c1
      rw [i_le] at dc1
      refine lv_iload_n hx hb dX5_countSettled_12 rfl (lv_at hl 0 rfl) ?_
      refine lv_bipush (v := 30) hx hb dX5_countSettled_13 (by decide) ?_
      refine lv_icmp_ge (tgt := 39) hx hb dX5_countSettled_15 (by decide) (fun c2 => ?_) (fun c2 => ?_)
      · have dc2 := c2
        rw [i_le] at dc2
        have hke : k = kmin (σ 12 1) 30 := by omega
        refine lv_iload_n hx hb dX5_countSettled_39 rfl (lv_at hl 1 rfl) ?_
        exact ret_i hx hb hr hlk hP hS dX5_countSettled_40 (⟨by rw [← hke, ha], rfl, rfl⟩)
      · have dc2 := c2
        rw [i_le] at dc2
        refine lv_aload_n hx hb dX5_countSettled_18 rfl (lv_at hl 2 rfl) ?_
        refine fgetx hx hb ht inG5 hown hK hP (k := 12) (by decide) (x := (σ 12)) rfl (sh_ledg _ _) rfl 0 (by decide) gw_309 (v := .ref (ad 13)) rfl dX5_countSettled_19 ?_
        refine lv_iload_n hx hb dX5_countSettled_22 rfl (lv_at hl 0 rfl) ?_
        refine rldj hx hb hK hP (k := 13) (by decide) 4 (sh_rows _ _) rfl (by rw [vp_in_iff]; omega) (j := k) (nI_clamp (by omega)) (a := ad (14 + k)) rfl dX5_countSettled_23 ?_
        refine callv (y := yX2_isSettled) ⟨hx, hb, hml, hown, ht⟩ hK hN hP hS (k := (14 + k)) (c_X2_isSettled l D ca ad hI σ τ (by omega)) (by have b0_ : k < 30 := (by omega); omega) (sh_deli _ _ (by omega)) rfl ok_X2_isSettled gw_601 ⟨by decide, by decide⟩ rfl hl.1 rfl (Nat.le_of_ble_eq_true rfl) ⟨by decide, by decide⟩ dX5_countSettled_24 (fun v_ S_ T_ H locs hp3 hP hS => ?_)
        obtain ⟨rfl, rfl, rfl⟩ := hp3
        try dsimp only [Option.toList, List.cons_append, List.nil_append]
        refine br_eq (tgt := 33) hx hb dX5_countSettled_27 (by decide) (fun c4 => ?_) (fun c4 => ?_)
        · refine lv_iinc (v := (nI k) + 1) (lv' := [(2, .int ((nI k) + 1)), (1, .int a), (0, .ref (ad 12))]) hx hb dX5_countSettled_33 hl (k := 0) rfl rfl (by decide) rfl (fun ls hl => ?_)
          refine lv_goto (tgt := 4) hx hb dX5_countSettled_36 (by decide) ?_
          rw [nI_1] at hl
          exact ih (k + 1) (by omega) (by omega) _ (by simp only [cntS, c4, ↓reduceIte, ha, Bool.false_eq_true]) _ _ hP hS ls (lv_sub hl [0, 1, 2] rfl)
        · refine lv_iinc (v := a + 1) (lv' := [(1, .int (a + 1)), (2, .int (nI k)), (0, .ref (ad 12))]) hx hb dX5_countSettled_30 hl (k := 1) rfl rfl (by decide) rfl (fun ls hl => ?_)
          refine lv_iinc (v := (nI k) + 1) (lv' := [(2, .int ((nI k) + 1)), (1, .int (a + 1)), (0, .ref (ad 12))]) hx hb dX5_countSettled_33 hl (k := 1) rfl rfl (by decide) rfl (fun ls hl => ?_)
          refine lv_goto (tgt := 4) hx hb dX5_countSettled_36 (by decide) ?_
          rw [nI_1] at hl
          exact ih (k + 1) (by omega) (by omega) _ (by simp only [cntS, c4, ↓reduceIte, ha, Bool.false_eq_true]) _ _ hP hS ls (lv_sub hl [0, 1, 2] rfl)
set_option maxHeartbeats 4000000 in
set_option maxRecDepth 100000 in
theorem c_X5_countSettled (l : Launch) (D : va_G) (ca : Nat → ClassId) (ad : Nat → Nat) (hI : Inj 158 ad) (σ : MI) (τ : ML)  : CT l D (TY ca) 158 ad (cxf ca ad) yX5_countSettled cX5_countSettled 3 (some .int) 1 20 [.ref (ad 12)] σ τ (fun v_ S_ T_ => some (.int (cntS (fun d => σ (14 + d) 6) (kmin (σ 12 1) 30))) = v_ ∧ σ = S_ ∧ τ = T_) := by
  refine CT.of (by decide) (Nat.le_of_ble_eq_true rfl) ?_
  intro p e s m args below meth c hx hb hr ht hown hlk hml hP hK hN hS ls hl
  have hl : lv_has ls 3 [(0, .ref (ad 12))] := hl
  refine lv_iconst (v := 0) hx hb dX5_countSettled_0 (by decide) ?_
  refine lv_istore_n (lv' := [(1, .int 0), (0, .ref (ad 12))]) hx hb dX5_countSettled_1 rfl hl (by decide) rfl (fun ls hl => ?_)
  refine lv_iconst (v := 0) hx hb dX5_countSettled_2 (by decide) ?_
  refine lv_istore_n (lv' := [(2, .int 0), (1, .int 0), (0, .ref (ad 12))]) hx hb dX5_countSettled_3 rfl hl (by decide) rfl (fun ls hl => ?_)
  exact lp_X5_count hI hx hb hr ht hown hlk hml hK hN (kmin (σ 12 1) 30 + 1) 0 (by omega) (by omega) _ rfl _ _ hP hS ls hl
set_option maxHeartbeats 4000000 in
set_option maxRecDepth 100000 in
theorem lp_X5_unset {l : Launch} {D : va_G} {ca : Nat → ClassId} {ad : Nat → Nat} (hI : Inj 158 ad) {σ : MI} {τ : ML} (mo : Int32) {p : Program} {e : Env} {s : State} {m : MethodId} {args : Array Value} {below : List Frame} {meth : Method} {c : Code} (hx : p.tables.exec = Jvm.exec) (hb : c.code = cX5_unsettle) (hr : meth.sig.returnType = none) (ht : ∀ w ∈ GG, w.before args s = true) (hown : s.vm.findClass yX5_unsettle.cls = some m.cls) (hlk : meth.locks = false) (hml : c.maxLocals = 3) (hK : va_K D vwCl (TY ca) s) (hN : NW s) : ∀ (n : Nat) (k : Nat) (hk : k ≤ kmin (σ 12 1) 30) (hn : kmin (σ 12 1) 30 - k < n) (H : Heap) (locs : List Loc) (hP : PW D 158 ad (cxf ca ad) (unsS σ τ mo k).1 (unsS σ τ mo k).2 H) (hS : va_S (AA 158 ad) s.heap H locs) (ls : Array Slot) (hl : lv_has ls 3 [(2, .int (nI k)), (0, .ref (ad 12)), (1, .int mo)]), W p l e { frames := 1, cells := 0, slots := 0, locals := 20 } s m args below meth c H locs 0 0 (MQ below (QD D 158 ad (cxf ca ad) (fun v_ S_ T_ => none = v_ ∧ ((unsS σ τ mo (kmin (σ 12 1) 30)).1) = S_ ∧ ((unsS σ τ mo (kmin (σ 12 1) 30)).2) = T_)) args s 0 0 (AA 158 ad)) (F0 m 2 ls []) := by
  intro n
  induction n with
  | zero => intro k hk hn H locs hP hS ls hl; exact absurd ‹_› (by omega)
  | succ n ih =>
    intro k hk hn H locs hP hS ls hl
    have eM : (30 : Int32).toInt = 30 := rfl
    have hc := clampI (σ 12 1)
    have hm : kmin (σ 12 1) 30 = min (σ 12 1).toNatClampNeg 30 := rfl
    have ek : (nI k).toInt = k := nI_toInt (by omega)
    refine lv_iload_n hx hb dX5_unsettle_2 rfl (lv_at hl 0 rfl) ?_
    refine lv_aload_n hx hb dX5_unsettle_3 rfl (lv_at hl 1 rfl) ?_
    refine fgetx hx hb ht inG5 hown hK hP (k := 12) (by decide) (x := (σ 12)) (unsS_ne _ _ _ _ (by omega)) (sh_ledg _ _) rfl 1 (by decide) gw_310 (v := .int ((σ 12) 1)) rfl dX5_unsettle_4 ?_
    refine lv_icmp_ge (tgt := 44) hx hb dX5_unsettle_7 (by decide) (fun c1 => ?_) (fun c1 => ?_)
    · have dc1 := c1
      rw [i_le] at dc1
      have hke : k = kmin (σ 12 1) 30 := by omega
      exact ret_v hx hb hr hlk hP hS dX5_unsettle_44 (⟨rfl, by rw [hke], by rw [hke]⟩)
    · have dc1 := c1
      rw [i_le] at dc1
      refine lv_iload_n hx hb dX5_unsettle_10 rfl (lv_at hl 0 rfl) ?_
      refine lv_bipush (v := 30) hx hb dX5_unsettle_11 (by decide) ?_
      refine lv_icmp_ge (tgt := 44) hx hb dX5_unsettle_13 (by decide) (fun c2 => ?_) (fun c2 => ?_)
      · have dc2 := c2
        rw [i_le] at dc2
        have hke : k = kmin (σ 12 1) 30 := by omega
        exact ret_v hx hb hr hlk hP hS dX5_unsettle_44 (⟨rfl, by rw [hke], by rw [hke]⟩)
      · have dc2 := c2
        rw [i_le] at dc2
        refine lv_aload_n hx hb dX5_unsettle_16 rfl (lv_at hl 1 rfl) ?_
        refine fgetx hx hb ht inG5 hown hK hP (k := 12) (by decide) (x := (σ 12)) (unsS_ne _ _ _ _ (by omega)) (sh_ledg _ _) rfl 0 (by decide) gw_309 (v := .ref (ad 13)) rfl dX5_unsettle_17 ?_
        refine lv_iload_n hx hb dX5_unsettle_20 rfl (lv_at hl 0 rfl) ?_
        refine rldj hx hb hK hP (k := 13) (by decide) 4 (sh_rows _ _) rfl (by rw [vp_in_iff]; omega) (j := k) (nI_clamp (by omega)) (a := ad (14 + k)) rfl dX5_unsettle_21 ?_
        refine fgetxN hx hb ht inG2 hown hK hP (k := (14 + k)) (by have b0_ : k < 30 := (by omega); omega) (x := (σ (14 + k))) (unsS_ne _ _ _ _ (by omega)) (sh_deli _ _ (by omega)) rfl 6 (by decide) (hN.get 287 nw_287 rfl) (v := .int ((σ (14 + k)) 6)) rfl dX5_unsettle_22 ?_
        refine lv_iload_n hx hb dX5_unsettle_25 rfl (lv_at hl 2 rfl) ?_
        refine lv_icmp_ne (tgt := 38) hx hb dX5_unsettle_26 (by decide) (fun c3 => ?_) (fun c3 => ?_)
        · have dc3 := c3
          rw [i_eq] at dc3
          refine lv_iinc (v := (nI k) + 1) (lv' := [(2, .int ((nI k) + 1)), (0, .ref (ad 12)), (1, .int mo)]) hx hb dX5_unsettle_38 hl (k := 0) rfl rfl (by decide) rfl (fun ls hl => ?_)
          refine lv_goto (tgt := 2) hx hb dX5_unsettle_41 (by decide) ?_
          rw [nI_1] at hl
          exact ih (k + 1) (by omega) (by omega) _ _ (by rw [unsS, if_neg c3]; exact hP) hS ls (lv_sub hl [0, 1, 2] rfl)
        · have dc3 := c3
          rw [i_eq] at dc3
          refine lv_aload_n hx hb dX5_unsettle_29 rfl (lv_at hl 1 rfl) ?_
          refine fgetx hx hb ht inG5 hown hK hP (k := 12) (by decide) (x := (σ 12)) (unsS_ne _ _ _ _ (by omega)) (sh_ledg _ _) rfl 0 (by decide) gw_309 (v := .ref (ad 13)) rfl dX5_unsettle_30 ?_
          refine lv_iload_n hx hb dX5_unsettle_33 rfl (lv_at hl 0 rfl) ?_
          refine rldj hx hb hK hP (k := 13) (by decide) 4 (sh_rows _ _) rfl (by rw [vp_in_iff]; omega) (j := k) (nI_clamp (by omega)) (a := ad (14 + k)) rfl dX5_unsettle_34 ?_
          refine callv (y := yX2_unsettle) ⟨hx, hb, hml, hown, ht⟩ hK hN hP hS (k := (14 + k)) (c_X2_unsettle l D ca ad hI (unsS σ τ mo k).1 (unsS σ τ mo k).2 (by omega)) (by have b0_ : k < 30 := (by omega); omega) (sh_deli _ _ (by omega)) rfl ok_X2_unsettle gw_811 ⟨by decide, by decide⟩ rfl hl.1 rfl (Nat.le_of_ble_eq_true rfl) ⟨by decide, by decide⟩ dX5_unsettle_35 (fun v_ S_ T_ H locs hp4 hP hS => ?_)
          obtain ⟨rfl, rfl, rfl⟩ := hp4
          try dsimp only [Option.toList, List.cons_append, List.nil_append]
          refine lv_iinc (v := (nI k) + 1) (lv' := [(2, .int ((nI k) + 1)), (0, .ref (ad 12)), (1, .int mo)]) hx hb dX5_unsettle_38 hl (k := 0) rfl rfl (by decide) rfl (fun ls hl => ?_)
          refine lv_goto (tgt := 2) hx hb dX5_unsettle_41 (by decide) ?_
          rw [nI_1] at hl
          exact ih (k + 1) (by omega) (by omega) _ _ (by rw [unsS, if_pos c3]; exact hP) hS ls (lv_sub hl [0, 1, 2] rfl)
set_option maxHeartbeats 4000000 in
set_option maxRecDepth 100000 in
theorem c_X5_unsettle (l : Launch) (D : va_G) (ca : Nat → ClassId) (ad : Nat → Nat) (hI : Inj 158 ad) (σ : MI) (τ : ML) (mo : Int32) : CT l D (TY ca) 158 ad (cxf ca ad) yX5_unsettle cX5_unsettle 3 none 1 20 [.ref (ad 12), .int mo] σ τ (fun v_ S_ T_ => none = v_ ∧ ((unsS σ τ mo (kmin (σ 12 1) 30)).1) = S_ ∧ ((unsS σ τ mo (kmin (σ 12 1) 30)).2) = T_) := by
  refine CT.of (by decide) (Nat.le_of_ble_eq_true rfl) ?_
  intro p e s m args below meth c hx hb hr ht hown hlk hml hP hK hN hS ls hl
  have hl : lv_has ls 3 [(0, .ref (ad 12)), (1, .int mo)] := hl
  refine lv_iconst (v := 0) hx hb dX5_unsettle_0 (by decide) ?_
  refine lv_istore_n (lv' := [(2, .int 0), (0, .ref (ad 12)), (1, .int mo)]) hx hb dX5_unsettle_1 rfl hl (by decide) rfl (fun ls hl => ?_)
  exact lp_X5_unset hI mo hx hb hr ht hown hlk hml hK hN (kmin (σ 12 1) 30 + 1) 0 (by omega) (by omega) _ _ hP hS ls hl
set_option maxHeartbeats 4000000 in
set_option maxRecDepth 100000 in
theorem lp_X5_bil {l : Launch} {D : va_G} {ca : Nat → ClassId} {ad : Nat → Nat} (hI : Inj 158 ad) {σ : MI} {τ : ML} (a z : Int32) {p : Program} {e : Env} {s : State} {m : MethodId} {args : Array Value} {below : List Frame} {meth : Method} {c : Code} (hx : p.tables.exec = Jvm.exec) (hb : c.code = cX5_billedFrom) (hr : meth.sig.returnType = (some .long)) (ht : ∀ w ∈ GG, w.before args s = true) (hown : s.vm.findClass yX5_billedFrom.cls = some m.cls) (hlk : meth.locks = false) (hml : c.maxLocals = 6) (hK : va_K D vwCl (TY ca) s) (hN : NW s) : ∀ (n : Nat) (k : Nat) (hk : k ≤ kmin (σ 12 1) 30) (hn : kmin (σ 12 1) 30 - k < n) (u : Int64) (hu : bilF σ a z k = u) (H : Heap) (locs : List Loc) (hP : PW D 158 ad (cxf ca ad) σ τ H) (hS : va_S (AA 158 ad) s.heap H locs) (ls : Array Slot) (hl : lv_has ls 6 [(5, .int (nI k)), (3, .long u), (0, .ref (ad 12)), (1, .int a), (2, .int z)]), W p l e { frames := 1, cells := 0, slots := 0, locals := 20 } s m args below meth c H locs 0 0 (MQ below (QD D 158 ad (cxf ca ad) (fun v_ S_ T_ => some (.long (bilF σ a z (kmin (σ 12 1) 30))) = v_ ∧ σ = S_ ∧ τ = T_)) args s 0 0 (AA 158 ad)) (F0 m 5 ls []) := by
  intro n
  induction n with
  | zero => intro k hk hn u hu H locs hP hS ls hl; exact absurd ‹_› (by omega)
  | succ n ih =>
    intro k hk hn u hu H locs hP hS ls hl
    have eM : (30 : Int32).toInt = 30 := rfl
    have hc := clampI (σ 12 1)
    have hm : kmin (σ 12 1) 30 = min (σ 12 1).toNatClampNeg 30 := rfl
    have ek : (nI k).toInt = k := nI_toInt (by omega)
    refine lv_iload hx hb dX5_billedFrom_5 (lv_at hl 0 rfl) ?_
    refine lv_aload_n hx hb dX5_billedFrom_7 rfl (lv_at hl 2 rfl) ?_
    refine fgetx hx hb ht inG5 hown hK hP (k := 12) (by decide) (x := (σ 12)) rfl (sh_ledg _ _) rfl 1 (by decide) gw_310 (v := .int ((σ 12) 1)) rfl dX5_billedFrom_8 ?_
    refine lv_icmp_ge (tgt := 68) hx hb dX5_billedFrom_11 (by decide) (fun c1 => ?_) (fun c1 => ?_)
    · have dc1 := c1
      rw [i_le] at dc1
      have hke : k = kmin (σ 12 1) 30 := by omega
      refine lv_lload_n hx hb dX5_billedFrom_68 rfl (lv_at hl 1 rfl) ?_
      exact ret_l hx hb hr hlk hP hS dX5_billedFrom_69 (⟨by rw [← hke, hu], rfl, rfl⟩)
    · have dc1 := c1
      rw [i_le] at dc1
      refine lv_iload hx hb dX5_billedFrom_14 (lv_at hl 0 rfl) ?_
      refine lv_bipush (v := 30) hx hb dX5_billedFrom_16 (by decide) ?_
      refine lv_icmp_ge (tgt := 68) hx hb dX5_billedFrom_18 (by decide) (fun c2 => ?_) (fun c2 => ?_)
      · have dc2 := c2
        rw [i_le] at dc2
        have hke : k = kmin (σ 12 1) 30 := by omega
        refine lv_lload_n hx hb dX5_billedFrom_68 rfl (lv_at hl 1 rfl) ?_
        exact ret_l hx hb hr hlk hP hS dX5_billedFrom_69 (⟨by rw [← hke, hu], rfl, rfl⟩)
      · have dc2 := c2
        rw [i_le] at dc2
        refine lv_aload_n hx hb dX5_billedFrom_21 rfl (lv_at hl 2 rfl) ?_
        refine fgetx hx hb ht inG5 hown hK hP (k := 12) (by decide) (x := (σ 12)) rfl (sh_ledg _ _) rfl 0 (by decide) gw_309 (v := .ref (ad 13)) rfl dX5_billedFrom_22 ?_
        refine lv_iload hx hb dX5_billedFrom_25 (lv_at hl 0 rfl) ?_
        refine rldj hx hb hK hP (k := 13) (by decide) 4 (sh_rows _ _) rfl (by rw [vp_in_iff]; omega) (j := k) (nI_clamp (by omega)) (a := ad (14 + k)) rfl dX5_billedFrom_27 ?_
        refine fgetxN hx hb ht inG2 hown hK hP (k := (14 + k)) (by have b0_ : k < 30 := (by omega); omega) (x := (σ (14 + k))) rfl (sh_deli _ _ (by omega)) rfl 2 (by decide) (hN.get 277 nw_277 rfl) (v := .int ((σ (14 + k)) 2)) rfl dX5_billedFrom_28 ?_
        refine lv_iload_n hx hb dX5_billedFrom_31 rfl (lv_at hl 3 rfl) ?_
        refine lv_icmp_lt (tgt := 62) hx hb dX5_billedFrom_32 (by decide) (fun c3 => ?_) (fun c3 => ?_)
        · have dc3 := c3
          rw [i_lt] at dc3
          refine lv_iinc (v := (nI k) + 1) (lv' := [(5, .int ((nI k) + 1)), (3, .long u), (0, .ref (ad 12)), (1, .int a), (2, .int z)]) hx hb dX5_billedFrom_62 hl (k := 0) rfl rfl (by decide) rfl (fun ls hl => ?_)
          refine lv_goto (tgt := 5) hx hb dX5_billedFrom_65 (by decide) ?_
          rw [nI_1] at hl
          exact ih (k + 1) (by omega) (by omega) _ (by simp only [bilF, c3, ↓reduceIte, hu]) _ _ hP hS ls (lv_sub hl [0, 1, 2, 3, 4] rfl)
        · have dc3 := c3
          rw [i_lt] at dc3
          refine lv_aload_n hx hb dX5_billedFrom_35 rfl (lv_at hl 2 rfl) ?_
          refine fgetx hx hb ht inG5 hown hK hP (k := 12) (by decide) (x := (σ 12)) rfl (sh_ledg _ _) rfl 0 (by decide) gw_309 (v := .ref (ad 13)) rfl dX5_billedFrom_36 ?_
          refine lv_iload hx hb dX5_billedFrom_39 (lv_at hl 0 rfl) ?_
          refine rldj hx hb hK hP (k := 13) (by decide) 4 (sh_rows _ _) rfl (by rw [vp_in_iff]; omega) (j := k) (nI_clamp (by omega)) (a := ad (14 + k)) rfl dX5_billedFrom_41 ?_
          refine fgetxN hx hb ht inG2 hown hK hP (k := (14 + k)) (by have b0_ : k < 30 := (by omega); omega) (x := (σ (14 + k))) rfl (sh_deli _ _ (by omega)) rfl 2 (by decide) (hN.get 277 nw_277 rfl) (v := .int ((σ (14 + k)) 2)) rfl dX5_billedFrom_42 ?_
          refine lv_iload_n hx hb dX5_billedFrom_45 rfl (lv_at hl 4 rfl) ?_
          refine lv_icmp_gt (tgt := 62) hx hb dX5_billedFrom_46 (by decide) (fun c4 => ?_) (fun c4 => ?_)
          · have dc4 := c4
            rw [i_lt] at dc4
            refine lv_iinc (v := (nI k) + 1) (lv' := [(5, .int ((nI k) + 1)), (3, .long u), (0, .ref (ad 12)), (1, .int a), (2, .int z)]) hx hb dX5_billedFrom_62 hl (k := 0) rfl rfl (by decide) rfl (fun ls hl => ?_)
            refine lv_goto (tgt := 5) hx hb dX5_billedFrom_65 (by decide) ?_
            rw [nI_1] at hl
            exact ih (k + 1) (by omega) (by omega) _ (by simp only [bilF, c3, c4, ↓reduceIte, hu]) _ _ hP hS ls (lv_sub hl [0, 1, 2, 3, 4] rfl)
          · have dc4 := c4
            rw [i_lt] at dc4
            refine lv_lload_n hx hb dX5_billedFrom_49 rfl (lv_at hl 1 rfl) ?_
            refine lv_aload_n hx hb dX5_billedFrom_50 rfl (lv_at hl 2 rfl) ?_
            refine fgetx hx hb ht inG5 hown hK hP (k := 12) (by decide) (x := (σ 12)) rfl (sh_ledg _ _) rfl 0 (by decide) gw_309 (v := .ref (ad 13)) rfl dX5_billedFrom_51 ?_
            refine lv_iload hx hb dX5_billedFrom_54 (lv_at hl 0 rfl) ?_
            refine rldj hx hb hK hP (k := 13) (by decide) 4 (sh_rows _ _) rfl (by rw [vp_in_iff]; omega) (j := k) (nI_clamp (by omega)) (a := ad (14 + k)) rfl dX5_billedFrom_56 ?_
            refine callv (y := yX2_billed) ⟨hx, hb, hml, hown, ht⟩ hK hN hP hS (k := (14 + k)) (c_X2_billed l D ca ad hI σ τ (by omega)) (by have b0_ : k < 30 := (by omega); omega) (sh_deli _ _ (by omega)) rfl ok_X2_billed gw_912 ⟨by decide, by decide⟩ rfl hl.1 rfl (Nat.le_of_ble_eq_true rfl) ⟨by decide, by decide⟩ dX5_billedFrom_57 (fun v_ S_ T_ H locs hp5 hP hS => ?_)
            obtain ⟨rfl, rfl, rfl⟩ := hp5
            try dsimp only [Option.toList, List.cons_append, List.nil_append]
            refine lv_ladd hx hb dX5_billedFrom_60 ?_
            refine lv_lstore_n (lv' := [(3, .long (u + ((σ (14 + k) 3).toInt64 * (σ (14 + k) 5).toInt64))), (5, .int (nI k)), (0, .ref (ad 12)), (1, .int a), (2, .int z)]) hx hb dX5_billedFrom_61 rfl hl (by decide) rfl (fun ls hl => ?_)
            refine lv_iinc (v := (nI k) + 1) (lv' := [(5, .int ((nI k) + 1)), (3, .long (u + ((σ (14 + k) 3).toInt64 * (σ (14 + k) 5).toInt64))), (0, .ref (ad 12)), (1, .int a), (2, .int z)]) hx hb dX5_billedFrom_62 hl (k := 1) rfl rfl (by decide) rfl (fun ls hl => ?_)
            refine lv_goto (tgt := 5) hx hb dX5_billedFrom_65 (by decide) ?_
            rw [nI_1] at hl
            exact ih (k + 1) (by omega) (by omega) _ (by simp only [bilF, c3, c4, ↓reduceIte, hu]) _ _ hP hS ls (lv_sub hl [0, 1, 2, 3, 4] rfl)
set_option maxHeartbeats 4000000 in
set_option maxRecDepth 100000 in
theorem c_X5_billedFrom (l : Launch) (D : va_G) (ca : Nat → ClassId) (ad : Nat → Nat) (hI : Inj 158 ad) (σ : MI) (τ : ML) (a z : Int32) : CT l D (TY ca) 158 ad (cxf ca ad) yX5_billedFrom cX5_billedFrom 6 (some .long) 1 20 [.ref (ad 12), .int a, .int z] σ τ (fun v_ S_ T_ => some (.long (bilF σ a z (kmin (σ 12 1) 30))) = v_ ∧ σ = S_ ∧ τ = T_) := by
  refine CT.of (by decide) (Nat.le_of_ble_eq_true rfl) ?_
  intro p e s m args below meth c hx hb hr ht hown hlk hml hP hK hN hS ls hl
  have hl : lv_has ls 6 [(0, .ref (ad 12)), (1, .int a), (2, .int z)] := hl
  refine lv_lconst (v := 0) hx hb dX5_billedFrom_0 (by decide) ?_
  refine lv_lstore_n (lv' := [(3, .long 0), (0, .ref (ad 12)), (1, .int a), (2, .int z)]) hx hb dX5_billedFrom_1 rfl hl (by decide) rfl (fun ls hl => ?_)
  refine lv_iconst (v := 0) hx hb dX5_billedFrom_2 (by decide) ?_
  refine lv_istore (lv' := [(5, .int 0), (3, .long 0), (0, .ref (ad 12)), (1, .int a), (2, .int z)]) hx hb dX5_billedFrom_3 hl (by decide) rfl (fun ls hl => ?_)
  exact lp_X5_bil hI a z hx hb hr ht hown hlk hml hK hN (kmin (σ 12 1) 30 + 1) 0 (by omega) (by omega) _ rfl _ _ hP hS ls hl
set_option maxHeartbeats 4000000 in
set_option maxRecDepth 100000 in
theorem lp_X5_tru {l : Launch} {D : va_G} {ca : Nat → ClassId} {ad : Nat → Nat} (hI : Inj 158 ad) {σ : MI} {τ : ML} (a z : Int32) {p : Program} {e : Env} {s : State} {m : MethodId} {args : Array Value} {below : List Frame} {meth : Method} {c : Code} (hx : p.tables.exec = Jvm.exec) (hb : c.code = cX5_truedFrom) (hr : meth.sig.returnType = (some .long)) (ht : ∀ w ∈ GG, w.before args s = true) (hown : s.vm.findClass yX5_truedFrom.cls = some m.cls) (hlk : meth.locks = false) (hml : c.maxLocals = 6) (hK : va_K D vwCl (TY ca) s) (hN : NW s) : ∀ (n : Nat) (k : Nat) (hk : k ≤ kmin (σ 12 1) 30) (hn : kmin (σ 12 1) 30 - k < n) (u : Int64) (hu : truF σ τ a z k = u) (H : Heap) (locs : List Loc) (hP : PW D 158 ad (cxf ca ad) σ τ H) (hS : va_S (AA 158 ad) s.heap H locs) (ls : Array Slot) (hl : lv_has ls 6 [(5, .int (nI k)), (3, .long u), (0, .ref (ad 12)), (1, .int a), (2, .int z)]), W p l e { frames := 0, cells := 0, slots := 0, locals := 0 } s m args below meth c H locs 0 0 (MQ below (QD D 158 ad (cxf ca ad) (fun v_ S_ T_ => some (.long (truF σ τ a z (kmin (σ 12 1) 30))) = v_ ∧ σ = S_ ∧ τ = T_)) args s 0 0 (AA 158 ad)) (F0 m 5 ls []) := by
  intro n
  induction n with
  | zero => intro k hk hn u hu H locs hP hS ls hl; exact absurd ‹_› (by omega)
  | succ n ih =>
    intro k hk hn u hu H locs hP hS ls hl
    have eM : (30 : Int32).toInt = 30 := rfl
    have hc := clampI (σ 12 1)
    have hm : kmin (σ 12 1) 30 = min (σ 12 1).toNatClampNeg 30 := rfl
    have ek : (nI k).toInt = k := nI_toInt (by omega)
    refine lv_iload hx hb dX5_truedFrom_5 (lv_at hl 0 rfl) ?_
    refine lv_aload_n hx hb dX5_truedFrom_7 rfl (lv_at hl 2 rfl) ?_
    refine fgetx hx hb ht inG5 hown hK hP (k := 12) (by decide) (x := (σ 12)) rfl (sh_ledg _ _) rfl 1 (by decide) gw_310 (v := .int ((σ 12) 1)) rfl dX5_truedFrom_8 ?_
    refine lv_icmp_ge (tgt := 68) hx hb dX5_truedFrom_11 (by decide) (fun c1 => ?_) (fun c1 => ?_)
    · have dc1 := c1
      rw [i_le] at dc1
      have hke : k = kmin (σ 12 1) 30 := by omega
      refine lv_lload_n hx hb dX5_truedFrom_68 rfl (lv_at hl 1 rfl) ?_
      exact ret_l hx hb hr hlk hP hS dX5_truedFrom_69 (⟨by rw [← hke, hu], rfl, rfl⟩)
    · have dc1 := c1
      rw [i_le] at dc1
      refine lv_iload hx hb dX5_truedFrom_14 (lv_at hl 0 rfl) ?_
      refine lv_bipush (v := 30) hx hb dX5_truedFrom_16 (by decide) ?_
      refine lv_icmp_ge (tgt := 68) hx hb dX5_truedFrom_18 (by decide) (fun c2 => ?_) (fun c2 => ?_)
      · have dc2 := c2
        rw [i_le] at dc2
        have hke : k = kmin (σ 12 1) 30 := by omega
        refine lv_lload_n hx hb dX5_truedFrom_68 rfl (lv_at hl 1 rfl) ?_
        exact ret_l hx hb hr hlk hP hS dX5_truedFrom_69 (⟨by rw [← hke, hu], rfl, rfl⟩)
      · have dc2 := c2
        rw [i_le] at dc2
        refine lv_aload_n hx hb dX5_truedFrom_21 rfl (lv_at hl 2 rfl) ?_
        refine fgetx hx hb ht inG5 hown hK hP (k := 12) (by decide) (x := (σ 12)) rfl (sh_ledg _ _) rfl 0 (by decide) gw_309 (v := .ref (ad 13)) rfl dX5_truedFrom_22 ?_
        refine lv_iload hx hb dX5_truedFrom_25 (lv_at hl 0 rfl) ?_
        refine rldj hx hb hK hP (k := 13) (by decide) 4 (sh_rows _ _) rfl (by rw [vp_in_iff]; omega) (j := k) (nI_clamp (by omega)) (a := ad (14 + k)) rfl dX5_truedFrom_27 ?_
        refine fgetxN hx hb ht inG2 hown hK hP (k := (14 + k)) (by have b0_ : k < 30 := (by omega); omega) (x := (σ (14 + k))) rfl (sh_deli _ _ (by omega)) rfl 6 (by decide) (hN.get 287 nw_287 rfl) (v := .int ((σ (14 + k)) 6)) rfl dX5_truedFrom_28 ?_
        refine lv_iload_n hx hb dX5_truedFrom_31 rfl (lv_at hl 3 rfl) ?_
        refine lv_icmp_lt (tgt := 62) hx hb dX5_truedFrom_32 (by decide) (fun c3 => ?_) (fun c3 => ?_)
        · have dc3 := c3
          rw [i_lt] at dc3
          refine lv_iinc (v := (nI k) + 1) (lv' := [(5, .int ((nI k) + 1)), (3, .long u), (0, .ref (ad 12)), (1, .int a), (2, .int z)]) hx hb dX5_truedFrom_62 hl (k := 0) rfl rfl (by decide) rfl (fun ls hl => ?_)
          refine lv_goto (tgt := 5) hx hb dX5_truedFrom_65 (by decide) ?_
          rw [nI_1] at hl
          exact ih (k + 1) (by omega) (by omega) _ (by simp only [truF, c3, ↓reduceIte, hu]) _ _ hP hS ls (lv_sub hl [0, 1, 2, 3, 4] rfl)
        · have dc3 := c3
          rw [i_lt] at dc3
          refine lv_aload_n hx hb dX5_truedFrom_35 rfl (lv_at hl 2 rfl) ?_
          refine fgetx hx hb ht inG5 hown hK hP (k := 12) (by decide) (x := (σ 12)) rfl (sh_ledg _ _) rfl 0 (by decide) gw_309 (v := .ref (ad 13)) rfl dX5_truedFrom_36 ?_
          refine lv_iload hx hb dX5_truedFrom_39 (lv_at hl 0 rfl) ?_
          refine rldj hx hb hK hP (k := 13) (by decide) 4 (sh_rows _ _) rfl (by rw [vp_in_iff]; omega) (j := k) (nI_clamp (by omega)) (a := ad (14 + k)) rfl dX5_truedFrom_41 ?_
          refine fgetxN hx hb ht inG2 hown hK hP (k := (14 + k)) (by have b0_ : k < 30 := (by omega); omega) (x := (σ (14 + k))) rfl (sh_deli _ _ (by omega)) rfl 6 (by decide) (hN.get 287 nw_287 rfl) (v := .int ((σ (14 + k)) 6)) rfl dX5_truedFrom_42 ?_
          refine lv_iload_n hx hb dX5_truedFrom_45 rfl (lv_at hl 4 rfl) ?_
          refine lv_icmp_gt (tgt := 62) hx hb dX5_truedFrom_46 (by decide) (fun c4 => ?_) (fun c4 => ?_)
          · have dc4 := c4
            rw [i_lt] at dc4
            refine lv_iinc (v := (nI k) + 1) (lv' := [(5, .int ((nI k) + 1)), (3, .long u), (0, .ref (ad 12)), (1, .int a), (2, .int z)]) hx hb dX5_truedFrom_62 hl (k := 0) rfl rfl (by decide) rfl (fun ls hl => ?_)
            refine lv_goto (tgt := 5) hx hb dX5_truedFrom_65 (by decide) ?_
            rw [nI_1] at hl
            exact ih (k + 1) (by omega) (by omega) _ (by simp only [truF, c3, c4, ↓reduceIte, hu]) _ _ hP hS ls (lv_sub hl [0, 1, 2, 3, 4] rfl)
          · have dc4 := c4
            rw [i_lt] at dc4
            refine lv_lload_n hx hb dX5_truedFrom_49 rfl (lv_at hl 1 rfl) ?_
            refine lv_aload_n hx hb dX5_truedFrom_50 rfl (lv_at hl 2 rfl) ?_
            refine fgetx hx hb ht inG5 hown hK hP (k := 12) (by decide) (x := (σ 12)) rfl (sh_ledg _ _) rfl 0 (by decide) gw_309 (v := .ref (ad 13)) rfl dX5_truedFrom_51 ?_
            refine lv_iload hx hb dX5_truedFrom_54 (lv_at hl 0 rfl) ?_
            refine rldj hx hb hK hP (k := 13) (by decide) 4 (sh_rows _ _) rfl (by rw [vp_in_iff]; omega) (j := k) (nI_clamp (by omega)) (a := ad (14 + k)) rfl dX5_truedFrom_56 ?_
            refine fgetxN hx hb ht inG2 hown hK hP (k := (14 + k)) (by have b0_ : k < 30 := (by omega); omega) (x := (σ (14 + k))) rfl (sh_deli _ _ (by omega)) rfl 7 (by decide) (hN.get 290 nw_290 rfl) (v := .long (τ (14 + k) 7)) rfl dX5_truedFrom_57 ?_
            refine lv_ladd hx hb dX5_truedFrom_60 ?_
            refine lv_lstore_n (lv' := [(3, .long (u + (τ (14 + k) 7))), (5, .int (nI k)), (0, .ref (ad 12)), (1, .int a), (2, .int z)]) hx hb dX5_truedFrom_61 rfl hl (by decide) rfl (fun ls hl => ?_)
            refine lv_iinc (v := (nI k) + 1) (lv' := [(5, .int ((nI k) + 1)), (3, .long (u + (τ (14 + k) 7))), (0, .ref (ad 12)), (1, .int a), (2, .int z)]) hx hb dX5_truedFrom_62 hl (k := 1) rfl rfl (by decide) rfl (fun ls hl => ?_)
            refine lv_goto (tgt := 5) hx hb dX5_truedFrom_65 (by decide) ?_
            rw [nI_1] at hl
            exact ih (k + 1) (by omega) (by omega) _ (by simp only [truF, c3, c4, ↓reduceIte, hu]) _ _ hP hS ls (lv_sub hl [0, 1, 2, 3, 4] rfl)
set_option maxHeartbeats 4000000 in
set_option maxRecDepth 100000 in
theorem c_X5_truedFrom (l : Launch) (D : va_G) (ca : Nat → ClassId) (ad : Nat → Nat) (hI : Inj 158 ad) (σ : MI) (τ : ML) (a z : Int32) : CT l D (TY ca) 158 ad (cxf ca ad) yX5_truedFrom cX5_truedFrom 6 (some .long) 0 0 [.ref (ad 12), .int a, .int z] σ τ (fun v_ S_ T_ => some (.long (truF σ τ a z (kmin (σ 12 1) 30))) = v_ ∧ σ = S_ ∧ τ = T_) := by
  refine CT.of (by decide) (Nat.le_of_ble_eq_true rfl) ?_
  intro p e s m args below meth c hx hb hr ht hown hlk hml hP hK hN hS ls hl
  have hl : lv_has ls 6 [(0, .ref (ad 12)), (1, .int a), (2, .int z)] := hl
  refine lv_lconst (v := 0) hx hb dX5_truedFrom_0 (by decide) ?_
  refine lv_lstore_n (lv' := [(3, .long 0), (0, .ref (ad 12)), (1, .int a), (2, .int z)]) hx hb dX5_truedFrom_1 rfl hl (by decide) rfl (fun ls hl => ?_)
  refine lv_iconst (v := 0) hx hb dX5_truedFrom_2 (by decide) ?_
  refine lv_istore (lv' := [(5, .int 0), (3, .long 0), (0, .ref (ad 12)), (1, .int a), (2, .int z)]) hx hb dX5_truedFrom_3 hl (by decide) rfl (fun ls hl => ?_)
  exact lp_X5_tru hI a z hx hb hr ht hown hlk hml hK hN (kmin (σ 12 1) 30 + 1) 0 (by omega) (by omega) _ rfl _ _ hP hS ls hl
set_option maxHeartbeats 4000000 in
set_option maxRecDepth 100000 in
theorem c_X0_forget (l : Launch) (D : va_G) (ca : Nat → ClassId) (ad : Nat → Nat) (hI : Inj 158 ad) (σ : MI) (τ : ML) {b : Nat} (hb2 : b < 2) : CT l D (TY ca) 158 ad (cxf ca ad) yX0_forget cX0_forget 1 none 0 0 [.ref (ad (44 + 57 * b))] σ τ (fun v_ S_ T_ => none = v_ ∧ (s2 (s2 (s2 σ (44 + 57 * b) 0 0) (44 + 57 * b) 1 0) (44 + 57 * b) 2 0) = S_ ∧ τ = T_) := by
  refine CT.of (by decide) (Nat.le_of_ble_eq_true rfl) ?_
  intro p e s m args below meth c hx hb hr ht hown hlk hml hP hK hN hS ls hl
  have hl : lv_has ls 1 [(0, .ref (ad (44 + 57 * b)))] := hl
  refine lv_aload_n hx hb dX0_forget_0 rfl (lv_at hl 0 rfl) ?_
  refine lv_iconst (v := 0) hx hb dX0_forget_1 (by decide) ?_
  refine fputx (ref := "") (w := 0) hx hb ht inG0 tyX0 tyX0_ok nmX0 hown hK hP hI hS (k := (44 + 57 * b)) (by omega) (sh_book _ _ hb2) rfl 0 (by decide) gw_213 rfl rfl rfl (Nat.le_of_ble_eq_true rfl) (sh_book _ _ hb2) dX0_forget_2 (fun H locs hP hS => ?_)
  refine lv_aload_n hx hb dX0_forget_5 rfl (lv_at hl 0 rfl) ?_
  refine lv_iconst (v := 0) hx hb dX0_forget_6 (by decide) ?_
  refine fputx (ref := "") (w := 0) hx hb ht inG0 tyX0 tyX0_ok nmX0 hown hK hP hI hS (k := (44 + 57 * b)) (by omega) (sh_book _ _ hb2) rfl 1 (by decide) gw_217 rfl rfl rfl (Nat.le_of_ble_eq_true rfl) (sh_book _ _ hb2) dX0_forget_7 (fun H locs hP hS => ?_)
  refine lv_aload_n hx hb dX0_forget_10 rfl (lv_at hl 0 rfl) ?_
  refine lv_iconst (v := 0) hx hb dX0_forget_11 (by decide) ?_
  refine fputx (ref := "") (w := 0) hx hb ht inG0 tyX0 tyX0_ok nmX0 hown hK hP hI hS (k := (44 + 57 * b)) (by omega) (sh_book _ _ hb2) rfl 2 (by decide) gw_220 rfl rfl rfl (Nat.le_of_ble_eq_true rfl) (sh_book _ _ hb2) dX0_forget_12 (fun H locs hP hS => ?_)
  exact ret_v hx hb hr hlk hP hS dX0_forget_15 (⟨by first | with_reducible rfl | (simp only [↓reduceIte, Bool.false_eq_true]; done) | (simp only [↓reduceIte, Bool.false_eq_true]; rfl) | rfl, by first | with_reducible rfl | (simp only [↓reduceIte, Bool.false_eq_true]; done) | (simp only [↓reduceIte, Bool.false_eq_true]; rfl) | rfl, rfl⟩)
set_option maxHeartbeats 4000000 in
set_option maxRecDepth 100000 in
theorem c_X0_addIndex (l : Launch) (D : va_G) (ca : Nat → ClassId) (ad : Nat → Nat) (hI : Inj 158 ad) (σ : MI) (τ : ML) {b : Nat} (hb2 : b < 2) : CT l D (TY ca) 158 ad (cxf ca ad) yX0_addIndex cX0_addIndex 2 (some (.object "PriceDesk$Index")) 1 21 [.ref (ad (44 + 57 * b))] σ τ (fun v_ S_ T_ => (inL (σ (44 + 57 * b) 1) 6 = false ∧ some .null = v_ ∧ σ = S_ ∧ τ = T_) ∨ (inL (σ (44 + 57 * b) 1) 6 = true ∧ some (.ref (ad (47 + 57 * b + 6 * (σ (44 + 57 * b) 1).toNatClampNeg))) = v_ ∧ aiS σ b = S_ ∧ τ = T_)) := by
  refine CT.of (by decide) (Nat.le_of_ble_eq_true rfl) ?_
  intro p e s m args below meth c hx hb hr ht hown hlk hml hP hK hN hS ls hl
  have hl : lv_has ls 2 [(0, .ref (ad (44 + 57 * b)))] := hl
  refine lv_aload_n hx hb dX0_addIndex_0 rfl (lv_at hl 0 rfl) ?_
  refine fgetx hx hb ht inG0 hown hK hP (k := (44 + 57 * b)) (by omega) (x := (σ (44 + 57 * b))) rfl (sh_book _ _ hb2) rfl 1 (by decide) gw_217 (v := .int ((σ (44 + 57 * b)) 1)) rfl dX0_addIndex_1 ?_
  refine lv_if_lt (tgt := 16) hx hb dX0_addIndex_4 (by decide) (fun c1 => ?_) (fun c1 => ?_)
  · have dc1 := c1
    rw [i_lt] at dc1
    refine lv_null hx hb dX0_addIndex_16 ?_
    exact ret_a hx hb hr hlk hP hS dX0_addIndex_17 (by first | exact Or.inl rfl | exact Or.inr ⟨_, rfl⟩) (Or.inl ⟨by simp only [inL, c1, ↓reduceIte], rfl, rfl, rfl⟩)
  · have dc1 := c1
    rw [i_lt] at dc1
    refine lv_aload_n hx hb dX0_addIndex_7 rfl (lv_at hl 0 rfl) ?_
    refine fgetx hx hb ht inG0 hown hK hP (k := (44 + 57 * b)) (by omega) (x := (σ (44 + 57 * b))) rfl (sh_book _ _ hb2) rfl 1 (by decide) gw_217 (v := .int ((σ (44 + 57 * b)) 1)) rfl dX0_addIndex_8 ?_
    refine lv_bipush (v := 6) hx hb dX0_addIndex_11 (by decide) ?_
    refine lv_icmp_lt (tgt := 18) hx hb dX0_addIndex_13 (by decide) (fun c2 => ?_) (fun c2 => ?_)
    · have dc2 := c2
      rw [i_lt] at dc2
      have hi9 := cl_lt2 (n := 6) (m := 6) c1 c2 rfl
      refine lv_aload_n hx hb dX0_addIndex_18 rfl (lv_at hl 0 rfl) ?_
      refine fgetx hx hb ht inG0 hown hK hP (k := (44 + 57 * b)) (by omega) (x := (σ (44 + 57 * b))) rfl (sh_book _ _ hb2) rfl 3 (by decide) gw_222 (v := .ref (ad (45 + 57 * b))) rfl dX0_addIndex_19 ?_
      refine lv_aload_n hx hb dX0_addIndex_22 rfl (lv_at hl 0 rfl) ?_
      refine fgetx hx hb ht inG0 hown hK hP (k := (44 + 57 * b)) (by omega) (x := (σ (44 + 57 * b))) rfl (sh_book _ _ hb2) rfl 1 (by decide) gw_217 (v := .int ((σ (44 + 57 * b)) 1)) rfl dX0_addIndex_23 ?_
      refine rldj hx hb hK hP (k := (45 + 57 * b)) (by omega) 2 (sh_bidx _ _ hb2) rfl (in_lt2 (n := 6) ‹_› ‹_› rfl) (j := ((σ (44 + 57 * b)) 1).toNatClampNeg) rfl (a := ad (47 + 57 * b + 6 * (((σ (44 + 57 * b)) 1).toNatClampNeg))) rfl dX0_addIndex_26 ?_
      refine lv_astore_n (lv' := [(1, .ref (ad (47 + 57 * b + 6 * (((σ (44 + 57 * b)) 1).toNatClampNeg)))), (0, .ref (ad (44 + 57 * b)))]) hx hb dX0_addIndex_27 rfl hl (by decide) rfl (fun ls hl => ?_)
      refine lv_aload_n hx hb dX0_addIndex_28 rfl (lv_at hl 0 rfl) ?_
      refine callv (y := yX4_forget) ⟨hx, hb, hml, hown, ht⟩ hK hN hP hS (k := (47 + 57 * b + 6 * (((σ (44 + 57 * b)) 1).toNatClampNeg))) (c_X4_forget l D ca ad hI σ τ hb2 (cl_lt2 (n := 6) ‹_› ‹_› rfl)) (by have b0_ : b < 2 := hb2; have b1_ : (((σ (44 + 57 * b)) 1).toNatClampNeg) < 6 := (cl_lt2 (n := 6) ‹_› ‹_› rfl); omega) (sh_indx _ _ hb2 (cl_lt2 (n := 6) ‹_› ‹_› rfl)) rfl ok_X4_forget gw_565 ⟨by decide, by decide⟩ rfl hl.1 rfl (Nat.le_of_ble_eq_true rfl) ⟨by decide, by decide⟩ dX0_addIndex_29 (fun v_ S_ T_ H locs hp3 hP hS => ?_)
      obtain ⟨rfl, rfl, rfl⟩ := hp3
      try dsimp only [Option.toList, List.cons_append, List.nil_append]
      refine lv_aload_n hx hb dX0_addIndex_32 rfl (lv_at hl 1 rfl) ?_
      refine lv_dup hx hb dX0_addIndex_33 rfl ?_
      refine fgetx hx hb ht inG0 hown hK hP (k := (44 + 57 * b)) (by omega) (x := (σ (44 + 57 * b))) (forgS_ne _ (by omega) (by omega) (by omega)) (sh_book _ _ hb2) rfl 1 (by decide) gw_217 (v := .int ((σ (44 + 57 * b)) 1)) rfl dX0_addIndex_34 ?_
      refine lv_iconst (v := 1) hx hb dX0_addIndex_37 (by decide) ?_
      refine lv_iadd hx hb dX0_addIndex_38 ?_
      refine fputx (ref := "") (w := ((σ (44 + 57 * b)) 1) + 1) hx hb ht inG0 tyX0 tyX0_ok nmX0 hown hK hP hI hS (k := (44 + 57 * b)) (by omega) (sh_book _ _ hb2) rfl 1 (by decide) gw_217 rfl rfl rfl (Nat.le_of_ble_eq_true rfl) (sh_book _ _ hb2) dX0_addIndex_39 (fun H locs hP hS => ?_)
      refine lv_aload_n hx hb dX0_addIndex_42 rfl (lv_at hl 0 rfl) ?_
      exact ret_a hx hb hr hlk hP hS dX0_addIndex_43 (by first | exact Or.inl rfl | exact Or.inr ⟨_, rfl⟩) (Or.inr ⟨by simp only [inL, c1, c2, ↓reduceIte], rfl, rfl, rfl⟩)
    · have dc2 := c2
      rw [i_lt] at dc2
      refine lv_null hx hb dX0_addIndex_16 ?_
      exact ret_a hx hb hr hlk hP hS dX0_addIndex_17 (by first | exact Or.inl rfl | exact Or.inr ⟨_, rfl⟩) (Or.inl ⟨by simp only [inL, c1, c2, ↓reduceIte], rfl, rfl, rfl⟩)
set_option maxHeartbeats 4000000 in
set_option maxRecDepth 100000 in
theorem c_X0_addContract (l : Launch) (D : va_G) (ca : Nat → ClassId) (ad : Nat → Nat) (hI : Inj 158 ad) (σ : MI) (τ : ML) {b : Nat} (hb2 : b < 2) : CT l D (TY ca) 158 ad (cxf ca ad) yX0_addContract cX0_addContract 2 (some (.object "PriceDesk$Contract")) 0 0 [.ref (ad (44 + 57 * b))] σ τ (fun v_ S_ T_ => (inL (σ (44 + 57 * b) 2) 6 = false ∧ some .null = v_ ∧ σ = S_ ∧ τ = T_) ∨ (inL (σ (44 + 57 * b) 2) 6 = true ∧ some (.ref (ad (83 + 57 * b + 3 * (σ (44 + 57 * b) 2).toNatClampNeg))) = v_ ∧ acS σ b = S_ ∧ τ = T_)) := by
  refine CT.of (by decide) (Nat.le_of_ble_eq_true rfl) ?_
  intro p e s m args below meth c hx hb hr ht hown hlk hml hP hK hN hS ls hl
  have hl : lv_has ls 2 [(0, .ref (ad (44 + 57 * b)))] := hl
  refine lv_aload_n hx hb dX0_addContract_0 rfl (lv_at hl 0 rfl) ?_
  refine fgetx hx hb ht inG0 hown hK hP (k := (44 + 57 * b)) (by omega) (x := (σ (44 + 57 * b))) rfl (sh_book _ _ hb2) rfl 2 (by decide) gw_220 (v := .int ((σ (44 + 57 * b)) 2)) rfl dX0_addContract_1 ?_
  refine lv_if_lt (tgt := 16) hx hb dX0_addContract_4 (by decide) (fun c1 => ?_) (fun c1 => ?_)
  · have dc1 := c1
    rw [i_lt] at dc1
    refine lv_null hx hb dX0_addContract_16 ?_
    exact ret_a hx hb hr hlk hP hS dX0_addContract_17 (by first | exact Or.inl rfl | exact Or.inr ⟨_, rfl⟩) (Or.inl ⟨by simp only [inL, c1, ↓reduceIte], rfl, rfl, rfl⟩)
  · have dc1 := c1
    rw [i_lt] at dc1
    refine lv_aload_n hx hb dX0_addContract_7 rfl (lv_at hl 0 rfl) ?_
    refine fgetx hx hb ht inG0 hown hK hP (k := (44 + 57 * b)) (by omega) (x := (σ (44 + 57 * b))) rfl (sh_book _ _ hb2) rfl 2 (by decide) gw_220 (v := .int ((σ (44 + 57 * b)) 2)) rfl dX0_addContract_8 ?_
    refine lv_bipush (v := 6) hx hb dX0_addContract_11 (by decide) ?_
    refine lv_icmp_lt (tgt := 18) hx hb dX0_addContract_13 (by decide) (fun c2 => ?_) (fun c2 => ?_)
    · have dc2 := c2
      rw [i_lt] at dc2
      have hi9 := cl_lt2 (n := 6) (m := 6) c1 c2 rfl
      refine lv_aload_n hx hb dX0_addContract_18 rfl (lv_at hl 0 rfl) ?_
      refine fgetx hx hb ht inG0 hown hK hP (k := (44 + 57 * b)) (by omega) (x := (σ (44 + 57 * b))) rfl (sh_book _ _ hb2) rfl 4 (by decide) gw_223 (v := .ref (ad (46 + 57 * b))) rfl dX0_addContract_19 ?_
      refine lv_aload_n hx hb dX0_addContract_22 rfl (lv_at hl 0 rfl) ?_
      refine fgetx hx hb ht inG0 hown hK hP (k := (44 + 57 * b)) (by omega) (x := (σ (44 + 57 * b))) rfl (sh_book _ _ hb2) rfl 2 (by decide) gw_220 (v := .int ((σ (44 + 57 * b)) 2)) rfl dX0_addContract_23 ?_
      refine rldj hx hb hK hP (k := (46 + 57 * b)) (by omega) 3 (sh_bcon _ _ hb2) rfl (in_lt2 (n := 6) ‹_› ‹_› rfl) (j := ((σ (44 + 57 * b)) 2).toNatClampNeg) rfl (a := ad (83 + 57 * b + 3 * (((σ (44 + 57 * b)) 2).toNatClampNeg))) rfl dX0_addContract_26 ?_
      refine lv_astore_n (lv' := [(1, .ref (ad (83 + 57 * b + 3 * (((σ (44 + 57 * b)) 2).toNatClampNeg)))), (0, .ref (ad (44 + 57 * b)))]) hx hb dX0_addContract_27 rfl hl (by decide) rfl (fun ls hl => ?_)
      refine lv_aload_n hx hb dX0_addContract_28 rfl (lv_at hl 0 rfl) ?_
      refine lv_iconst (v := 0) hx hb dX0_addContract_29 (by decide) ?_
      refine fputxN (ref := "") (w := 0) hx hb ht inG1 tyX1 tyX1_ok nmX1 hown hK hP hI hS (k := (83 + 57 * b + 3 * (((σ (44 + 57 * b)) 2).toNatClampNeg))) (by have b0_ : b < 2 := hb2; have b1_ : (((σ (44 + 57 * b)) 2).toNatClampNeg) < 6 := (cl_lt2 (n := 6) ‹_› ‹_› rfl); omega) (sh_cont _ _ hb2 (cl_lt2 (n := 6) ‹_› ‹_› rfl)) rfl 6 (by decide) (hN.get 186 nw_186 rfl) rfl rfl rfl (Nat.le_of_ble_eq_true rfl) (sh_cont _ _ hb2 (cl_lt2 (n := 6) ‹_› ‹_› rfl)) dX0_addContract_30 (fun H locs hP hS => ?_)
      refine lv_aload_n hx hb dX0_addContract_33 rfl (lv_at hl 1 rfl) ?_
      refine lv_dup hx hb dX0_addContract_34 rfl ?_
      refine fgetx hx hb ht inG0 hown hK hP (k := (44 + 57 * b)) (by omega) (x := (σ (44 + 57 * b))) (s2_nk _ _ _ (by omega)) (sh_book _ _ hb2) rfl 2 (by decide) gw_220 (v := .int ((σ (44 + 57 * b)) 2)) rfl dX0_addContract_35 ?_
      refine lv_iconst (v := 1) hx hb dX0_addContract_38 (by decide) ?_
      refine lv_iadd hx hb dX0_addContract_39 ?_
      refine fputx (ref := "") (w := ((σ (44 + 57 * b)) 2) + 1) hx hb ht inG0 tyX0 tyX0_ok nmX0 hown hK hP hI hS (k := (44 + 57 * b)) (by omega) (sh_book _ _ hb2) rfl 2 (by decide) gw_220 rfl rfl rfl (Nat.le_of_ble_eq_true rfl) (sh_book _ _ hb2) dX0_addContract_40 (fun H locs hP hS => ?_)
      refine lv_aload_n hx hb dX0_addContract_43 rfl (lv_at hl 0 rfl) ?_
      exact ret_a hx hb hr hlk hP hS dX0_addContract_44 (by first | exact Or.inl rfl | exact Or.inr ⟨_, rfl⟩) (Or.inr ⟨by simp only [inL, c1, c2, ↓reduceIte], rfl, rfl, rfl⟩)
    · have dc2 := c2
      rw [i_lt] at dc2
      refine lv_null hx hb dX0_addContract_16 ?_
      exact ret_a hx hb hr hlk hP hS dX0_addContract_17 (by first | exact Or.inl rfl | exact Or.inr ⟨_, rfl⟩) (Or.inl ⟨by simp only [inL, c1, c2, ↓reduceIte], rfl, rfl, rfl⟩)
set_option maxHeartbeats 4000000 in
set_option maxRecDepth 100000 in
theorem c_X0_indexAt (l : Launch) (D : va_G) (ca : Nat → ClassId) (ad : Nat → Nat) (hI : Inj 158 ad) (σ : MI) (τ : ML) {b : Nat} (hb2 : b < 2) (x : Int32) : CT l D (TY ca) 158 ad (cxf ca ad) yX0_indexAt cX0_indexAt 2 (some (.object "PriceDesk$Index")) 0 0 [.ref (ad (44 + 57 * b)), .int x] σ τ (fun v_ S_ T_ => (inC x (σ (44 + 57 * b) 1) 6 = false ∧ some .null = v_ ∧ σ = S_ ∧ τ = T_) ∨ (inC x (σ (44 + 57 * b) 1) 6 = true ∧ some (.ref (ad (47 + 57 * b + 6 * x.toNatClampNeg))) = v_ ∧ σ = S_ ∧ τ = T_)) := by
  refine CT.of (by decide) (Nat.le_of_ble_eq_true rfl) ?_
  intro p e s m args below meth c hx hb hr ht hown hlk hml hP hK hN hS ls hl
  have hl : lv_has ls 2 [(0, .ref (ad (44 + 57 * b))), (1, .int x)] := hl
  refine lv_iload_n hx hb dX0_indexAt_0 rfl (lv_at hl 1 rfl) ?_
  refine lv_if_lt (tgt := 27) hx hb dX0_indexAt_1 (by decide) (fun c1 => ?_) (fun c1 => ?_)
  · have dc1 := c1
    rw [i_lt] at dc1
    refine lv_null hx hb dX0_indexAt_27 ?_
    exact ret_a hx hb hr hlk hP hS dX0_indexAt_28 (by first | exact Or.inl rfl | exact Or.inr ⟨_, rfl⟩) (Or.inl ⟨by simp only [inC, c1, ↓reduceIte], rfl, rfl, rfl⟩)
  · have dc1 := c1
    rw [i_lt] at dc1
    refine lv_iload_n hx hb dX0_indexAt_4 rfl (lv_at hl 1 rfl) ?_
    refine lv_aload_n hx hb dX0_indexAt_5 rfl (lv_at hl 0 rfl) ?_
    refine fgetx hx hb ht inG0 hown hK hP (k := (44 + 57 * b)) (by omega) (x := (σ (44 + 57 * b))) rfl (sh_book _ _ hb2) rfl 1 (by decide) gw_217 (v := .int ((σ (44 + 57 * b)) 1)) rfl dX0_indexAt_6 ?_
    refine lv_icmp_ge (tgt := 27) hx hb dX0_indexAt_9 (by decide) (fun c2 => ?_) (fun c2 => ?_)
    · have dc2 := c2
      rw [i_le] at dc2
      refine lv_null hx hb dX0_indexAt_27 ?_
      exact ret_a hx hb hr hlk hP hS dX0_indexAt_28 (by first | exact Or.inl rfl | exact Or.inr ⟨_, rfl⟩) (Or.inl ⟨by simp only [inC, c1, c2, ↓reduceIte], rfl, rfl, rfl⟩)
    · have dc2 := c2
      rw [i_le] at dc2
      refine lv_iload_n hx hb dX0_indexAt_12 rfl (lv_at hl 1 rfl) ?_
      refine lv_bipush (v := 6) hx hb dX0_indexAt_13 (by decide) ?_
      refine lv_icmp_ge (tgt := 27) hx hb dX0_indexAt_15 (by decide) (fun c3 => ?_) (fun c3 => ?_)
      · have dc3 := c3
        rw [i_le] at dc3
        refine lv_null hx hb dX0_indexAt_27 ?_
        exact ret_a hx hb hr hlk hP hS dX0_indexAt_28 (by first | exact Or.inl rfl | exact Or.inr ⟨_, rfl⟩) (Or.inl ⟨by simp only [inC, c1, c2, c3, ↓reduceIte], rfl, rfl, rfl⟩)
      · have dc3 := c3
        rw [i_le] at dc3
        refine lv_aload_n hx hb dX0_indexAt_18 rfl (lv_at hl 0 rfl) ?_
        refine fgetx hx hb ht inG0 hown hK hP (k := (44 + 57 * b)) (by omega) (x := (σ (44 + 57 * b))) rfl (sh_book _ _ hb2) rfl 3 (by decide) gw_222 (v := .ref (ad (45 + 57 * b))) rfl dX0_indexAt_19 ?_
        refine lv_iload_n hx hb dX0_indexAt_22 rfl (lv_at hl 1 rfl) ?_
        refine rldj hx hb hK hP (k := (45 + 57 * b)) (by omega) 2 (sh_bidx _ _ hb2) rfl (in_lt (n := 6) ‹_› ‹_› rfl) (j := x.toNatClampNeg) rfl (a := ad (47 + 57 * b + 6 * x.toNatClampNeg)) rfl dX0_indexAt_23 ?_
        refine lv_goto (tgt := 28) hx hb dX0_indexAt_24 (by decide) ?_
        exact ret_a hx hb hr hlk hP hS dX0_indexAt_28 (by first | exact Or.inl rfl | exact Or.inr ⟨_, rfl⟩) (Or.inr ⟨by simp only [inC, c1, c2, c3, ↓reduceIte], rfl, rfl, rfl⟩)
set_option maxHeartbeats 4000000 in
set_option maxRecDepth 100000 in
theorem c_X0_contractAt (l : Launch) (D : va_G) (ca : Nat → ClassId) (ad : Nat → Nat) (hI : Inj 158 ad) (σ : MI) (τ : ML) {b : Nat} (hb2 : b < 2) (x : Int32) : CT l D (TY ca) 158 ad (cxf ca ad) yX0_contractAt cX0_contractAt 2 (some (.object "PriceDesk$Contract")) 0 0 [.ref (ad (44 + 57 * b)), .int x] σ τ (fun v_ S_ T_ => (inC x (σ (44 + 57 * b) 2) 6 = false ∧ some .null = v_ ∧ σ = S_ ∧ τ = T_) ∨ (inC x (σ (44 + 57 * b) 2) 6 = true ∧ some (.ref (ad (83 + 57 * b + 3 * x.toNatClampNeg))) = v_ ∧ σ = S_ ∧ τ = T_)) := by
  refine CT.of (by decide) (Nat.le_of_ble_eq_true rfl) ?_
  intro p e s m args below meth c hx hb hr ht hown hlk hml hP hK hN hS ls hl
  have hl : lv_has ls 2 [(0, .ref (ad (44 + 57 * b))), (1, .int x)] := hl
  refine lv_iload_n hx hb dX0_contractAt_0 rfl (lv_at hl 1 rfl) ?_
  refine lv_if_lt (tgt := 27) hx hb dX0_contractAt_1 (by decide) (fun c1 => ?_) (fun c1 => ?_)
  · have dc1 := c1
    rw [i_lt] at dc1
    refine lv_null hx hb dX0_contractAt_27 ?_
    exact ret_a hx hb hr hlk hP hS dX0_contractAt_28 (by first | exact Or.inl rfl | exact Or.inr ⟨_, rfl⟩) (Or.inl ⟨by simp only [inC, c1, ↓reduceIte], rfl, rfl, rfl⟩)
  · have dc1 := c1
    rw [i_lt] at dc1
    refine lv_iload_n hx hb dX0_contractAt_4 rfl (lv_at hl 1 rfl) ?_
    refine lv_aload_n hx hb dX0_contractAt_5 rfl (lv_at hl 0 rfl) ?_
    refine fgetx hx hb ht inG0 hown hK hP (k := (44 + 57 * b)) (by omega) (x := (σ (44 + 57 * b))) rfl (sh_book _ _ hb2) rfl 2 (by decide) gw_220 (v := .int ((σ (44 + 57 * b)) 2)) rfl dX0_contractAt_6 ?_
    refine lv_icmp_ge (tgt := 27) hx hb dX0_contractAt_9 (by decide) (fun c2 => ?_) (fun c2 => ?_)
    · have dc2 := c2
      rw [i_le] at dc2
      refine lv_null hx hb dX0_contractAt_27 ?_
      exact ret_a hx hb hr hlk hP hS dX0_contractAt_28 (by first | exact Or.inl rfl | exact Or.inr ⟨_, rfl⟩) (Or.inl ⟨by simp only [inC, c1, c2, ↓reduceIte], rfl, rfl, rfl⟩)
    · have dc2 := c2
      rw [i_le] at dc2
      refine lv_iload_n hx hb dX0_contractAt_12 rfl (lv_at hl 1 rfl) ?_
      refine lv_bipush (v := 6) hx hb dX0_contractAt_13 (by decide) ?_
      refine lv_icmp_ge (tgt := 27) hx hb dX0_contractAt_15 (by decide) (fun c3 => ?_) (fun c3 => ?_)
      · have dc3 := c3
        rw [i_le] at dc3
        refine lv_null hx hb dX0_contractAt_27 ?_
        exact ret_a hx hb hr hlk hP hS dX0_contractAt_28 (by first | exact Or.inl rfl | exact Or.inr ⟨_, rfl⟩) (Or.inl ⟨by simp only [inC, c1, c2, c3, ↓reduceIte], rfl, rfl, rfl⟩)
      · have dc3 := c3
        rw [i_le] at dc3
        refine lv_aload_n hx hb dX0_contractAt_18 rfl (lv_at hl 0 rfl) ?_
        refine fgetx hx hb ht inG0 hown hK hP (k := (44 + 57 * b)) (by omega) (x := (σ (44 + 57 * b))) rfl (sh_book _ _ hb2) rfl 4 (by decide) gw_223 (v := .ref (ad (46 + 57 * b))) rfl dX0_contractAt_19 ?_
        refine lv_iload_n hx hb dX0_contractAt_22 rfl (lv_at hl 1 rfl) ?_
        refine rldj hx hb hK hP (k := (46 + 57 * b)) (by omega) 3 (sh_bcon _ _ hb2) rfl (in_lt (n := 6) ‹_› ‹_› rfl) (j := x.toNatClampNeg) rfl (a := ad (83 + 57 * b + 3 * x.toNatClampNeg)) rfl dX0_contractAt_23 ?_
        refine lv_goto (tgt := 28) hx hb dX0_contractAt_24 (by decide) ?_
        exact ret_a hx hb hr hlk hP hS dX0_contractAt_28 (by first | exact Or.inl rfl | exact Or.inr ⟨_, rfl⟩) (Or.inr ⟨by simp only [inC, c1, c2, c3, ↓reduceIte], rfl, rfl, rfl⟩)
set_option maxHeartbeats 4000000 in
set_option maxRecDepth 100000 in
theorem c_X0_isPast (l : Launch) (D : va_G) (ca : Nat → ClassId) (ad : Nat → Nat) (hI : Inj 158 ad) (σ : MI) (τ : ML) {b : Nat} (hb2 : b < 2) (x : Int32) : CT l D (TY ca) 158 ad (cxf ca ad) yX0_isPast cX0_isPast 2 (some .boolean) 0 0 [.ref (ad (44 + 57 * b)), .int x] σ τ (fun v_ S_ T_ => some (.int (b2i (isPastS (σ (44 + 57 * b) 0) x))) = v_ ∧ σ = S_ ∧ τ = T_) := by
  refine CT.of (by decide) (Nat.le_of_ble_eq_true rfl) ?_
  intro p e s m args below meth c hx hb hr ht hown hlk hml hP hK hN hS ls hl
  have hl : lv_has ls 2 [(0, .ref (ad (44 + 57 * b))), (1, .int x)] := hl
  refine lv_iload_n hx hb dX0_isPast_0 rfl (lv_at hl 1 rfl) ?_
  refine lv_if_lt (tgt := 16) hx hb dX0_isPast_1 (by decide) (fun c1 => ?_) (fun c1 => ?_)
  · have dc1 := c1
    rw [i_lt] at dc1
    refine lv_iconst (v := 0) hx hb dX0_isPast_16 (by decide) ?_
    exact ret_z hx hb hr hlk hP hS dX0_isPast_17 (b := false) rfl (⟨by first | with_reducible rfl | (simp only [isPastS, c1, ↓reduceIte, Bool.false_eq_true]; done) | (simp only [isPastS, c1, ↓reduceIte, Bool.false_eq_true]; rfl) | rfl, by first | with_reducible rfl | (simp only [isPastS, c1, ↓reduceIte, Bool.false_eq_true]; done) | (simp only [isPastS, c1, ↓reduceIte, Bool.false_eq_true]; rfl) | rfl, rfl⟩)
  · have dc1 := c1
    rw [i_lt] at dc1
    refine lv_iload_n hx hb dX0_isPast_4 rfl (lv_at hl 1 rfl) ?_
    refine lv_aload_n hx hb dX0_isPast_5 rfl (lv_at hl 0 rfl) ?_
    refine fgetx hx hb ht inG0 hown hK hP (k := (44 + 57 * b)) (by omega) (x := (σ (44 + 57 * b))) rfl (sh_book _ _ hb2) rfl 0 (by decide) gw_213 (v := .int ((σ (44 + 57 * b)) 0)) rfl dX0_isPast_6 ?_
    refine lv_icmp_gt (tgt := 16) hx hb dX0_isPast_9 (by decide) (fun c2 => ?_) (fun c2 => ?_)
    · have dc2 := c2
      rw [i_lt] at dc2
      refine lv_iconst (v := 0) hx hb dX0_isPast_16 (by decide) ?_
      exact ret_z hx hb hr hlk hP hS dX0_isPast_17 (b := false) rfl (⟨by first | with_reducible rfl | (simp only [isPastS, c1, c2, ↓reduceIte, Bool.false_eq_true]; done) | (simp only [isPastS, c1, c2, ↓reduceIte, Bool.false_eq_true]; rfl) | rfl, by first | with_reducible rfl | (simp only [isPastS, c1, c2, ↓reduceIte, Bool.false_eq_true]; done) | (simp only [isPastS, c1, c2, ↓reduceIte, Bool.false_eq_true]; rfl) | rfl, rfl⟩)
    · have dc2 := c2
      rw [i_lt] at dc2
      refine lv_iconst (v := 1) hx hb dX0_isPast_12 (by decide) ?_
      refine lv_goto (tgt := 17) hx hb dX0_isPast_13 (by decide) ?_
      exact ret_z hx hb hr hlk hP hS dX0_isPast_17 (b := true) rfl (⟨by first | with_reducible rfl | (simp only [isPastS, c1, c2, ↓reduceIte, Bool.false_eq_true]; done) | (simp only [isPastS, c1, c2, ↓reduceIte, Bool.false_eq_true]; rfl) | rfl, by first | with_reducible rfl | (simp only [isPastS, c1, c2, ↓reduceIte, Bool.false_eq_true]; done) | (simp only [isPastS, c1, c2, ↓reduceIte, Bool.false_eq_true]; rfl) | rfl, rfl⟩)
set_option maxHeartbeats 4000000 in
set_option maxRecDepth 100000 in
theorem c_X0_isPriced (l : Launch) (D : va_G) (ca : Nat → ClassId) (ad : Nat → Nat) (hI : Inj 158 ad) (σ : MI) (τ : ML) {b i : Nat} (hb2 : b < 2) (hi : i < 6) (x : Int32) : CT l D (TY ca) 158 ad (cxf ca ad) yX0_isPriced cX0_isPriced 3 (some .boolean) 0 0 [.ref (ad (44 + 57 * b)), .ref (ad (83 + 57 * b + 3 * i)), .int x] σ τ (fun v_ S_ T_ => some (.int (b2i (isPricS (σ (44 + 57 * b) 0) (σ (83 + 57 * b + 3 * i) 2) x))) = v_ ∧ σ = S_ ∧ τ = T_) := by
  refine CT.of (by decide) (Nat.le_of_ble_eq_true rfl) ?_
  intro p e s m args below meth c hx hb hr ht hown hlk hml hP hK hN hS ls hl
  have hl : lv_has ls 3 [(0, .ref (ad (44 + 57 * b))), (1, .ref (ad (83 + 57 * b + 3 * i))), (2, .int x)] := hl
  refine lv_iload_n hx hb dX0_isPriced_0 rfl (lv_at hl 2 rfl) ?_
  refine lv_aload_n hx hb dX0_isPriced_1 rfl (lv_at hl 1 rfl) ?_
  refine fgetxN hx hb ht inG1 hown hK hP (k := (83 + 57 * b + 3 * i)) (by omega) (x := (σ (83 + 57 * b + 3 * i))) rfl (sh_cont _ _ hb2 hi) rfl 2 (by decide) (hN.get 173 nw_173 rfl) (v := .int ((σ (83 + 57 * b + 3 * i)) 2)) rfl dX0_isPriced_2 ?_
  refine lv_icmp_lt (tgt := 20) hx hb dX0_isPriced_5 (by decide) (fun c1 => ?_) (fun c1 => ?_)
  · have dc1 := c1
    rw [i_lt] at dc1
    refine lv_iconst (v := 0) hx hb dX0_isPriced_20 (by decide) ?_
    exact ret_z hx hb hr hlk hP hS dX0_isPriced_21 (b := false) rfl (⟨by first | with_reducible rfl | (simp only [isPricS, c1, ↓reduceIte, Bool.false_eq_true]; done) | (simp only [isPricS, c1, ↓reduceIte, Bool.false_eq_true]; rfl) | rfl, by first | with_reducible rfl | (simp only [isPricS, c1, ↓reduceIte, Bool.false_eq_true]; done) | (simp only [isPricS, c1, ↓reduceIte, Bool.false_eq_true]; rfl) | rfl, rfl⟩)
  · have dc1 := c1
    rw [i_lt] at dc1
    refine lv_iload_n hx hb dX0_isPriced_8 rfl (lv_at hl 2 rfl) ?_
    refine lv_aload_n hx hb dX0_isPriced_9 rfl (lv_at hl 0 rfl) ?_
    refine fgetx hx hb ht inG0 hown hK hP (k := (44 + 57 * b)) (by omega) (x := (σ (44 + 57 * b))) rfl (sh_book _ _ hb2) rfl 0 (by decide) gw_213 (v := .int ((σ (44 + 57 * b)) 0)) rfl dX0_isPriced_10 ?_
    refine lv_icmp_gt (tgt := 20) hx hb dX0_isPriced_13 (by decide) (fun c2 => ?_) (fun c2 => ?_)
    · have dc2 := c2
      rw [i_lt] at dc2
      refine lv_iconst (v := 0) hx hb dX0_isPriced_20 (by decide) ?_
      exact ret_z hx hb hr hlk hP hS dX0_isPriced_21 (b := false) rfl (⟨by first | with_reducible rfl | (simp only [isPricS, c1, c2, ↓reduceIte, Bool.false_eq_true]; done) | (simp only [isPricS, c1, c2, ↓reduceIte, Bool.false_eq_true]; rfl) | rfl, by first | with_reducible rfl | (simp only [isPricS, c1, c2, ↓reduceIte, Bool.false_eq_true]; done) | (simp only [isPricS, c1, c2, ↓reduceIte, Bool.false_eq_true]; rfl) | rfl, rfl⟩)
    · have dc2 := c2
      rw [i_lt] at dc2
      refine lv_iconst (v := 1) hx hb dX0_isPriced_16 (by decide) ?_
      refine lv_goto (tgt := 21) hx hb dX0_isPriced_17 (by decide) ?_
      exact ret_z hx hb hr hlk hP hS dX0_isPriced_21 (b := true) rfl (⟨by first | with_reducible rfl | (simp only [isPricS, c1, c2, ↓reduceIte, Bool.false_eq_true]; done) | (simp only [isPricS, c1, c2, ↓reduceIte, Bool.false_eq_true]; rfl) | rfl, by first | with_reducible rfl | (simp only [isPricS, c1, c2, ↓reduceIte, Bool.false_eq_true]; done) | (simp only [isPricS, c1, c2, ↓reduceIte, Bool.false_eq_true]; rfl) | rfl, rfl⟩)
set_option maxHeartbeats 4000000 in
set_option maxRecDepth 100000 in
theorem lp_X0_fac {l : Launch} {D : va_G} {ca : Nat → ClassId} {ad : Nat → Nat} (hI : Inj 158 ad) {σ : MI} {τ : ML} {b i : Nat} (hb2 : b < 2) (hi : i < 6) (mo : Int32) {p : Program} {e : Env} {s : State} {m : MethodId} {args : Array Value} {below : List Frame} {meth : Method} {c : Code} (hx : p.tables.exec = Jvm.exec) (hb : c.code = cX0_factorOf) (hr : meth.sig.returnType = (some .int)) (ht : ∀ w ∈ GG, w.before args s = true) (hown : s.vm.findClass yX0_factorOf.cls = some m.cls) (hlk : meth.locks = false) (hml : c.maxLocals = 7) (hK : va_K D vwCl (TY ca) s) (hN : NW s) : ∀ (n : Nat) (k : Nat) (hk : k ≤ kmin (σ (83 + 57 * b + 3 * i) 6) 6) (hn : kmin (σ (83 + 57 * b + 3 * i) 6) 6 - k < n) (u : Int64) (hu : facP σ b i mo k = u) (H : Heap) (locs : List Loc) (hP : PW D 158 ad (cxf ca ad) σ τ H) (hS : va_S (AA 158 ad) s.heap H locs) (ls : Array Slot) (hl : lv_has ls 7 [(5, .int (nI k)), (3, .long u), (0, .ref (ad (44 + 57 * b))), (1, .ref (ad (83 + 57 * b + 3 * i))), (2, .int mo)]), W p l e { frames := 3, cells := 0, slots := 0, locals := 68 } s m args below meth c H locs 0 0 (MQ below (QD D 158 ad (cxf ca ad) (fun v_ S_ T_ => some (.int (facS σ b i mo)) = v_ ∧ σ = S_ ∧ τ = T_)) args s 0 0 (AA 158 ad)) (F0 m 13 ls []) := by
  intro n
  induction n with
  | zero => intro k hk hn u hu H locs hP hS ls hl; exact absurd ‹_› (by omega)
  | succ n ih =>
    intro k hk hn u hu H locs hP hS ls hl
    have eM : (6 : Int32).toInt = 6 := rfl
    have hc := clampI (σ (83 + 57 * b + 3 * i) 6)
    have hm : kmin (σ (83 + 57 * b + 3 * i) 6) 6 = min (σ (83 + 57 * b + 3 * i) 6).toNatClampNeg 6 := rfl
    have ek : (nI k).toInt = k := nI_toInt (by omega)
    refine lv_iload hx hb dX0_factorOf_13 (lv_at hl 0 rfl) ?_
    refine lv_aload_n hx hb dX0_factorOf_15 rfl (lv_at hl 3 rfl) ?_
    refine fgetxN hx hb ht inG1 hown hK hP (k := (83 + 57 * b + 3 * i)) (by omega) (x := (σ (83 + 57 * b + 3 * i))) rfl (sh_cont _ _ hb2 hi) rfl 6 (by decide) (hN.get 186 nw_186 rfl) (v := .int ((σ (83 + 57 * b + 3 * i)) 6)) rfl dX0_factorOf_16 ?_
    refine lv_icmp_ge (tgt := 81) hx hb dX0_factorOf_19 (by decide) (fun c1 => ?_) (fun c1 => ?_)
    · have dc1 := c1
      rw [i_le] at dc1
      have hke : k = kmin (σ (83 + 57 * b + 3 * i) 6) 6 := by omega
      refine lv_lload_n hx hb dX0_factorOf_81 rfl (lv_at hl 1 rfl) ?_
      refine lv_ldc2 hx hb hown (ht _ gw_678) dX0_factorOf_82 ?_
      refine lv_ldiv hx hb dX0_factorOf_85 (by decide) ?_
      refine lv_l2i (v := (u / 1000).toInt32) hx hb dX0_factorOf_86 rfl ?_
      exact ret_i hx hb hr hlk hP hS dX0_factorOf_87 (⟨by rw [facS, ← hke, hu], rfl, rfl⟩)
    · have dc1 := c1
      rw [i_le] at dc1
      refine lv_iload hx hb dX0_factorOf_22 (lv_at hl 0 rfl) ?_
      refine lv_bipush (v := 6) hx hb dX0_factorOf_24 (by decide) ?_
      refine lv_icmp_ge (tgt := 81) hx hb dX0_factorOf_26 (by decide) (fun c2 => ?_) (fun c2 => ?_)
      · have dc2 := c2
        rw [i_le] at dc2
        have hke : k = kmin (σ (83 + 57 * b + 3 * i) 6) 6 := by omega
        refine lv_lload_n hx hb dX0_factorOf_81 rfl (lv_at hl 1 rfl) ?_
        refine lv_ldc2 hx hb hown (ht _ gw_678) dX0_factorOf_82 ?_
        refine lv_ldiv hx hb dX0_factorOf_85 (by decide) ?_
        refine lv_l2i (v := (u / 1000).toInt32) hx hb dX0_factorOf_86 rfl ?_
        exact ret_i hx hb hr hlk hP hS dX0_factorOf_87 (⟨by rw [facS, ← hke, hu], rfl, rfl⟩)
      · have dc2 := c2
        rw [i_le] at dc2
        refine lv_aload_n hx hb dX0_factorOf_29 rfl (lv_at hl 2 rfl) ?_
        refine lv_aload_n hx hb dX0_factorOf_30 rfl (lv_at hl 3 rfl) ?_
        refine fgetxN hx hb ht inG1 hown hK hP (k := (83 + 57 * b + 3 * i)) (by omega) (x := (σ (83 + 57 * b + 3 * i))) rfl (sh_cont _ _ hb2 hi) rfl 8 (by decide) (hN.get 192 nw_192 rfl) (v := .ref (ad (85 + 57 * b + 3 * i))) rfl dX0_factorOf_31 ?_
        refine lv_iload hx hb dX0_factorOf_34 (lv_at hl 0 rfl) ?_
        refine aldj hx hb hK hP (k := (85 + 57 * b + 3 * i)) (by omega) (x := (σ (85 + 57 * b + 3 * i))) rfl 0 (sh_cixs _ _ hb2 hi) rfl (by rw [vp_in_iff]; omega) (j := k) (nI_clamp (by omega)) dX0_factorOf_36 ?_
        refine callv (y := yX0_indexAt) ⟨hx, hb, hml, hown, ht⟩ hK hN hP hS (k := (44 + 57 * b)) (c_X0_indexAt l D ca ad hI σ τ hb2 ((σ (85 + 57 * b + 3 * i)) k)) (by omega) (sh_book _ _ hb2) rfl ok_X0_indexAt gw_666 ⟨by decide, by decide⟩ rfl hl.1 rfl (Nat.le_of_ble_eq_true rfl) ⟨by decide, by decide⟩ dX0_factorOf_37 (fun v_ S_ T_ H locs hp3 hP hS => ?_)
        rcases hp3 with ⟨hp3, rfl, rfl, rfl⟩ | ⟨hp3, rfl, rfl, rfl⟩
        · try dsimp only [Option.toList, List.cons_append, List.nil_append]
          refine lv_astoreN (lv' := [(6, .null), (5, .int (nI k)), (3, .long u), (0, .ref (ad (44 + 57 * b))), (1, .ref (ad (83 + 57 * b + 3 * i))), (2, .int mo)]) hx hb dX0_factorOf_40 hl (by decide) rfl (fun ls hl => ?_)
          refine lv_aloadN hx hb dX0_factorOf_42 (lv_at hl 0 rfl) ?_
          refine lv_ifnullN (tgt := 75) hx hb dX0_factorOf_44 (by decide) ?_
          refine lv_iinc (v := (nI k) + 1) (lv' := [(5, .int ((nI k) + 1)), (6, .null), (3, .long u), (0, .ref (ad (44 + 57 * b))), (1, .ref (ad (83 + 57 * b + 3 * i))), (2, .int mo)]) hx hb dX0_factorOf_75 hl (k := 1) rfl rfl (by decide) rfl (fun ls hl => ?_)
          refine lv_goto (tgt := 13) hx hb dX0_factorOf_78 (by decide) ?_
          rw [nI_1] at hl
          exact ih (k + 1) (by omega) (by omega) _ (by simp only [facP, hp3, ↓reduceIte, hu, Bool.false_eq_true]) _ _ hP hS ls (lv_sub hl [0, 2, 3, 4, 5] rfl)
        · try dsimp only [Option.toList, List.cons_append, List.nil_append]
          have hXhp3 := (inC_6 hp3)
          refine lv_astore (lv' := [(6, .ref (ad (47 + 57 * b + 6 * ((σ (85 + 57 * b + 3 * i)) k).toNatClampNeg))), (5, .int (nI k)), (3, .long u), (0, .ref (ad (44 + 57 * b))), (1, .ref (ad (83 + 57 * b + 3 * i))), (2, .int mo)]) hx hb dX0_factorOf_40 hl (by decide) rfl (fun ls hl => ?_)
          refine lv_aload hx hb dX0_factorOf_42 (lv_at hl 0 rfl) ?_
          refine lv_ifnull hx hb dX0_factorOf_44 ?_
          refine lv_lload_n hx hb dX0_factorOf_47 rfl (lv_at hl 2 rfl) ?_
          refine lv_aload_n hx hb dX0_factorOf_48 rfl (lv_at hl 4 rfl) ?_
          refine fgetxN hx hb ht inG1 hown hK hP (k := (83 + 57 * b + 3 * i)) (by omega) (x := (σ (83 + 57 * b + 3 * i))) rfl (sh_cont _ _ hb2 hi) rfl 7 (by decide) (hN.get 190 nw_190 rfl) (v := .ref (ad (84 + 57 * b + 3 * i))) rfl dX0_factorOf_49 ?_
          refine lv_iload hx hb dX0_factorOf_52 (lv_at hl 1 rfl) ?_
          refine aldj hx hb hK hP (k := (84 + 57 * b + 3 * i)) (by omega) (x := (σ (84 + 57 * b + 3 * i))) rfl 0 (sh_wgts _ _ hb2 hi) rfl (by rw [vp_in_iff]; omega) (j := k) (nI_clamp (by omega)) dX0_factorOf_54 ?_
          refine lv_i2l (v := ((σ (84 + 57 * b + 3 * i)) k).toInt64) hx hb dX0_factorOf_55 rfl ?_
          refine lv_aload hx hb dX0_factorOf_56 (lv_at hl 0 rfl) ?_
          refine lv_aload_n hx hb dX0_factorOf_58 rfl (lv_at hl 4 rfl) ?_
          refine fgetxN hx hb ht inG1 hown hK hP (k := (83 + 57 * b + 3 * i)) (by omega) (x := (σ (83 + 57 * b + 3 * i))) rfl (sh_cont _ _ hb2 hi) rfl 2 (by decide) (hN.get 173 nw_173 rfl) (v := .int ((σ (83 + 57 * b + 3 * i)) 2)) rfl dX0_factorOf_59 ?_
          refine lv_aload hx hb dX0_factorOf_62 (lv_at hl 0 rfl) ?_
          refine lv_iload_n hx hb dX0_factorOf_64 rfl (lv_at hl 5 rfl) ?_
          refine callv (y := yX4_knownMonth) ⟨hx, hb, hml, hown, ht⟩ hK hN hP hS (k := (47 + 57 * b + 6 * ((σ (85 + 57 * b + 3 * i)) k).toNatClampNeg)) (c_X4_knownMonth l D ca ad hI σ τ hb2 (inC_6 hp3) mo) (by have b0_ : b < 2 := hb2; have b1_ : ((σ (85 + 57 * b + 3 * i)) k).toNatClampNeg < 6 := (inC_6 hp3); omega) (sh_indx _ _ hb2 (inC_6 hp3)) rfl ok_X4_knownMonth gw_667 ⟨by decide, by decide⟩ rfl hl.1 rfl (Nat.le_of_ble_eq_true rfl) ⟨by decide, by decide⟩ dX0_factorOf_65 (fun v_ S_ T_ H locs hp4 hP hS => ?_)
          obtain ⟨rfl, rfl, rfl⟩ := hp4
          try dsimp only [Option.toList, List.cons_append, List.nil_append]
          refine callv (y := yX4_ratioBetween) ⟨hx, hb, hml, hown, ht⟩ hK hN hP hS (k := (47 + 57 * b + 6 * ((σ (85 + 57 * b + 3 * i)) k).toNatClampNeg)) (c_X4_ratioBetween l D ca ad hI σ τ hb2 (inC_6 hp3) ((σ (83 + 57 * b + 3 * i)) 2) (knowS (σ (49 + 57 * b + 6 * (((σ (85 + 57 * b + 3 * i)) k).toNatClampNeg))) mo)) (by have b0_ : b < 2 := hb2; have b1_ : ((σ (85 + 57 * b + 3 * i)) k).toNatClampNeg < 6 := (inC_6 hp3); omega) (sh_indx _ _ hb2 (inC_6 hp3)) rfl ok_X4_ratioBetween gw_668 ⟨by decide, by decide⟩ rfl hl.1 rfl (Nat.le_of_ble_eq_true rfl) ⟨by decide, by decide⟩ dX0_factorOf_68 (fun v_ S_ T_ H locs hp5 hP hS => ?_)
          obtain ⟨rfl, rfl, rfl⟩ := hp5
          try dsimp only [Option.toList, List.cons_append, List.nil_append]
          refine lv_i2l (v := (ratI σ b (((σ (85 + 57 * b + 3 * i)) k).toNatClampNeg) ((σ (83 + 57 * b + 3 * i)) 2) (knowS (σ (49 + 57 * b + 6 * (((σ (85 + 57 * b + 3 * i)) k).toNatClampNeg))) mo)).toInt64) hx hb dX0_factorOf_71 rfl ?_
          refine lv_lmul hx hb dX0_factorOf_72 ?_
          refine lv_ladd hx hb dX0_factorOf_73 ?_
          refine lv_lstore_n (lv' := [(3, .long (u + ((((σ (84 + 57 * b + 3 * i)) k).toInt64) * ((ratI σ b (((σ (85 + 57 * b + 3 * i)) k).toNatClampNeg) ((σ (83 + 57 * b + 3 * i)) 2) (knowS (σ (49 + 57 * b + 6 * (((σ (85 + 57 * b + 3 * i)) k).toNatClampNeg))) mo)).toInt64)))), (6, .ref (ad (47 + 57 * b + 6 * ((σ (85 + 57 * b + 3 * i)) k).toNatClampNeg))), (5, .int (nI k)), (0, .ref (ad (44 + 57 * b))), (1, .ref (ad (83 + 57 * b + 3 * i))), (2, .int mo)]) hx hb dX0_factorOf_74 rfl hl (by decide) rfl (fun ls hl => ?_)
          refine lv_iinc (v := (nI k) + 1) (lv' := [(5, .int ((nI k) + 1)), (3, .long (u + ((((σ (84 + 57 * b + 3 * i)) k).toInt64) * ((ratI σ b (((σ (85 + 57 * b + 3 * i)) k).toNatClampNeg) ((σ (83 + 57 * b + 3 * i)) 2) (knowS (σ (49 + 57 * b + 6 * (((σ (85 + 57 * b + 3 * i)) k).toNatClampNeg))) mo)).toInt64)))), (6, .ref (ad (47 + 57 * b + 6 * ((σ (85 + 57 * b + 3 * i)) k).toNatClampNeg))), (0, .ref (ad (44 + 57 * b))), (1, .ref (ad (83 + 57 * b + 3 * i))), (2, .int mo)]) hx hb dX0_factorOf_75 hl (k := 2) rfl rfl (by decide) rfl (fun ls hl => ?_)
          refine lv_goto (tgt := 13) hx hb dX0_factorOf_78 (by decide) ?_
          rw [nI_1] at hl
          exact ih (k + 1) (by omega) (by omega) _ (by simp only [facP, hp3, ↓reduceIte, hu, Bool.false_eq_true]) _ _ hP hS ls (lv_sub hl [0, 1, 3, 4, 5] rfl)
set_option maxHeartbeats 4000000 in
set_option maxRecDepth 100000 in
theorem c_X0_factorOf (l : Launch) (D : va_G) (ca : Nat → ClassId) (ad : Nat → Nat) (hI : Inj 158 ad) (σ : MI) (τ : ML) {b i : Nat} (hb2 : b < 2) (hi : i < 6) (mo : Int32) : CT l D (TY ca) 158 ad (cxf ca ad) yX0_factorOf cX0_factorOf 7 (some .int) 3 68 [.ref (ad (44 + 57 * b)), .ref (ad (83 + 57 * b + 3 * i)), .int mo] σ τ (fun v_ S_ T_ => some (.int (facS σ b i mo)) = v_ ∧ σ = S_ ∧ τ = T_) := by
  refine CT.of (by decide) (Nat.le_of_ble_eq_true rfl) ?_
  intro p e s m args below meth c hx hb hr ht hown hlk hml hP hK hN hS ls hl
  have hl : lv_has ls 7 [(0, .ref (ad (44 + 57 * b))), (1, .ref (ad (83 + 57 * b + 3 * i))), (2, .int mo)] := hl
  refine lv_aload_n hx hb dX0_factorOf_0 rfl (lv_at hl 1 rfl) ?_
  refine fgetxN hx hb ht inG1 hown hK hP (k := (83 + 57 * b + 3 * i)) (by omega) (x := (σ (83 + 57 * b + 3 * i))) rfl (sh_cont _ _ hb2 hi) rfl 1 (by decide) (hN.get 171 nw_171 rfl) (v := .int ((σ (83 + 57 * b + 3 * i)) 1)) rfl dX0_factorOf_1 ?_
  refine lv_i2l (v := ((σ (83 + 57 * b + 3 * i)) 1).toInt64) hx hb dX0_factorOf_4 rfl ?_
  refine lv_ldc2 hx hb hown (ht _ gw_665) dX0_factorOf_5 ?_
  refine lv_lmul hx hb dX0_factorOf_8 ?_
  refine lv_lstore_n (lv' := [(3, .long ((((σ (83 + 57 * b + 3 * i)) 1).toInt64) * 1000000)), (0, .ref (ad (44 + 57 * b))), (1, .ref (ad (83 + 57 * b + 3 * i))), (2, .int mo)]) hx hb dX0_factorOf_9 rfl hl (by decide) rfl (fun ls hl => ?_)
  refine lv_iconst (v := 0) hx hb dX0_factorOf_10 (by decide) ?_
  refine lv_istore (lv' := [(5, .int 0), (3, .long ((((σ (83 + 57 * b + 3 * i)) 1).toInt64) * 1000000)), (0, .ref (ad (44 + 57 * b))), (1, .ref (ad (83 + 57 * b + 3 * i))), (2, .int mo)]) hx hb dX0_factorOf_11 hl (by decide) rfl (fun ls hl => ?_)
  exact lp_X0_fac hI hb2 hi mo hx hb hr ht hown hlk hml hK hN (kmin (σ (83 + 57 * b + 3 * i) 6) 6 + 1) 0 (by omega) (by omega) _ rfl _ _ hP hS ls hl
set_option maxHeartbeats 4000000 in
set_option maxRecDepth 100000 in
theorem c_X0_priceFor (l : Launch) (D : va_G) (ca : Nat → ClassId) (ad : Nat → Nat) (hI : Inj 158 ad) (σ : MI) (τ : ML) {b i : Nat} (hb2 : b < 2) (hi : i < 6) (mo : Int32) : CT l D (TY ca) 158 ad (cxf ca ad) yX0_priceFor cX0_priceFor 3 (some .int) 4 94 [.ref (ad (44 + 57 * b)), .ref (ad (83 + 57 * b + 3 * i)), .int mo] σ τ (fun v_ S_ T_ => some (.int (pfS σ b i mo)) = v_ ∧ σ = S_ ∧ τ = T_) := by
  refine CT.of (by decide) (Nat.le_of_ble_eq_true rfl) ?_
  intro p e s m args below meth c hx hb hr ht hown hlk hml hP hK hN hS ls hl
  have hl : lv_has ls 3 [(0, .ref (ad (44 + 57 * b))), (1, .ref (ad (83 + 57 * b + 3 * i))), (2, .int mo)] := hl
  refine lv_aload_n hx hb dX0_priceFor_0 rfl (lv_at hl 1 rfl) ?_
  refine lv_aload_n hx hb dX0_priceFor_1 rfl (lv_at hl 1 rfl) ?_
  refine lv_aload_n hx hb dX0_priceFor_2 rfl (lv_at hl 0 rfl) ?_
  refine lv_aload_n hx hb dX0_priceFor_3 rfl (lv_at hl 1 rfl) ?_
  refine lv_iload_n hx hb dX0_priceFor_4 rfl (lv_at hl 2 rfl) ?_
  refine callv (y := yX0_factorOf) ⟨hx, hb, hml, hown, ht⟩ hK hN hP hS (k := (44 + 57 * b)) (c_X0_factorOf l D ca ad hI σ τ hb2 hi mo) (by omega) (sh_book _ _ hb2) rfl ok_X0_factorOf gw_661 ⟨by decide, by decide⟩ rfl hl.1 rfl (Nat.le_of_ble_eq_true rfl) ⟨by decide, by decide⟩ dX0_priceFor_5 (fun v_ S_ T_ H locs hp1 hP hS => ?_)
  obtain ⟨rfl, rfl, rfl⟩ := hp1
  try dsimp only [Option.toList, List.cons_append, List.nil_append]
  refine callv (y := yX1_moveBy) ⟨hx, hb, hml, hown, ht⟩ hK hN hP hS (k := (83 + 57 * b + 3 * i)) (c_X1_moveBy l D ca ad hI σ τ hb2 hi (facS σ b i mo)) (by omega) (sh_cont _ _ hb2 hi) rfl ok_X1_moveBy gw_679 ⟨by decide, by decide⟩ rfl hl.1 rfl (Nat.le_of_ble_eq_true rfl) ⟨by decide, by decide⟩ dX0_priceFor_8 (fun v_ S_ T_ H locs hp2 hP hS => ?_)
  obtain ⟨rfl, rfl, rfl⟩ := hp2
  try dsimp only [Option.toList, List.cons_append, List.nil_append]
  refine callv (y := yX1_priceBy) ⟨hx, hb, hml, hown, ht⟩ hK hN hP hS (k := (83 + 57 * b + 3 * i)) (c_X1_priceBy l D ca ad hI σ τ hb2 hi (mvS (σ (83 + 57 * b + 3 * i) 3) (σ (83 + 57 * b + 3 * i) 4) (σ (83 + 57 * b + 3 * i) 5) (facS σ b i mo))) (by omega) (sh_cont _ _ hb2 hi) rfl ok_X1_priceBy gw_688 ⟨by decide, by decide⟩ rfl hl.1 rfl (Nat.le_of_ble_eq_true rfl) ⟨by decide, by decide⟩ dX0_priceFor_11 (fun v_ S_ T_ H locs hp3 hP hS => ?_)
  obtain ⟨rfl, rfl, rfl⟩ := hp3
  try dsimp only [Option.toList, List.cons_append, List.nil_append]
  exact ret_i hx hb hr hlk hP hS dX0_priceFor_14 (⟨by first | with_reducible rfl | (simp only [↓reduceIte, Bool.false_eq_true]; done) | (simp only [↓reduceIte, Bool.false_eq_true]; rfl) | rfl, by first | with_reducible rfl | (simp only [↓reduceIte, Bool.false_eq_true]; done) | (simp only [↓reduceIte, Bool.false_eq_true]; rfl) | rfl, rfl⟩)
set_option maxHeartbeats 4000000 in
set_option maxRecDepth 100000 in
theorem c_X0_priceWere (l : Launch) (D : va_G) (ca : Nat → ClassId) (ad : Nat → Nat) (hI : Inj 158 ad) (σ : MI) (τ : ML) {b q i : Nat} (hb2 : b < 2) (hq : q < 6) (hi : i < 6) (v : Int32) : CT l D (TY ca) 158 ad (cxf ca ad) yX0_priceWere cX0_priceWere 7 (some .int) 5 116 [.ref (ad (44 + 57 * b)), .ref (ad (83 + 57 * b + 3 * q)), .ref (ad (47 + 57 * b + 6 * i)), .int v] σ τ (fun v_ S_ T_ => some (.int (pwR σ b q i v)) = v_ ∧ (pwB σ b i v) = S_ ∧ τ = T_) := by
  refine CT.of (by decide) (Nat.le_of_ble_eq_true rfl) ?_
  intro p e s m args below meth c hx hb hr ht hown hlk hml hP hK hN hS ls hl
  have hl : lv_has ls 7 [(0, .ref (ad (44 + 57 * b))), (1, .ref (ad (83 + 57 * b + 3 * q))), (2, .ref (ad (47 + 57 * b + 6 * i))), (3, .int v)] := hl
  refine lv_aload_n hx hb dX0_priceWere_0 rfl (lv_at hl 2 rfl) ?_
  refine lv_aload_n hx hb dX0_priceWere_1 rfl (lv_at hl 0 rfl) ?_
  refine fgetx hx hb ht inG0 hown hK hP (k := (44 + 57 * b)) (by omega) (x := (σ (44 + 57 * b))) rfl (sh_book _ _ hb2) rfl 0 (by decide) gw_213 (v := .int ((σ (44 + 57 * b)) 0)) rfl dX0_priceWere_2 ?_
  refine callv (y := yX4_kindAt) ⟨hx, hb, hml, hown, ht⟩ hK hN hP hS (k := (47 + 57 * b + 6 * i)) (c_X4_kindAt l D ca ad hI σ τ hb2 hi ((σ (44 + 57 * b)) 0)) (by omega) (sh_indx _ _ hb2 hi) rfl ok_X4_kindAt gw_654 ⟨by decide, by decide⟩ rfl hl.1 rfl (Nat.le_of_ble_eq_true rfl) ⟨by decide, by decide⟩ dX0_priceWere_5 (fun v_ S_ T_ H locs hp1 hP hS => ?_)
  obtain ⟨rfl, rfl, rfl⟩ := hp1
  try dsimp only [Option.toList, List.cons_append, List.nil_append]
  refine lv_istore (lv' := [(4, .int (kindS (σ (49 + 57 * b + 6 * i)) ((σ (44 + 57 * b)) 0))), (0, .ref (ad (44 + 57 * b))), (1, .ref (ad (83 + 57 * b + 3 * q))), (2, .ref (ad (47 + 57 * b + 6 * i))), (3, .int v)]) hx hb dX0_priceWere_8 hl (by decide) rfl (fun ls hl => ?_)
  refine lv_aload_n hx hb dX0_priceWere_10 rfl (lv_at hl 3 rfl) ?_
  refine lv_aload_n hx hb dX0_priceWere_11 rfl (lv_at hl 1 rfl) ?_
  refine fgetx hx hb ht inG0 hown hK hP (k := (44 + 57 * b)) (by omega) (x := (σ (44 + 57 * b))) rfl (sh_book _ _ hb2) rfl 0 (by decide) gw_213 (v := .int ((σ (44 + 57 * b)) 0)) rfl dX0_priceWere_12 ?_
  refine callv (y := yX4_valueAt) ⟨hx, hb, hml, hown, ht⟩ hK hN hP hS (k := (47 + 57 * b + 6 * i)) (c_X4_valueAt l D ca ad hI σ τ hb2 hi ((σ (44 + 57 * b)) 0)) (by omega) (sh_indx _ _ hb2 hi) rfl ok_X4_valueAt gw_655 ⟨by decide, by decide⟩ rfl hl.1 rfl (Nat.le_of_ble_eq_true rfl) ⟨by decide, by decide⟩ dX0_priceWere_15 (fun v_ S_ T_ H locs hp2 hP hS => ?_)
  obtain ⟨rfl, rfl, rfl⟩ := hp2
  try dsimp only [Option.toList, List.cons_append, List.nil_append]
  refine lv_istore (lv' := [(5, .int (valS (σ (48 + 57 * b + 6 * i)) (σ (49 + 57 * b + 6 * i)) ((σ (44 + 57 * b)) 0))), (4, .int (kindS (σ (49 + 57 * b + 6 * i)) ((σ (44 + 57 * b)) 0))), (0, .ref (ad (44 + 57 * b))), (1, .ref (ad (83 + 57 * b + 3 * q))), (2, .ref (ad (47 + 57 * b + 6 * i))), (3, .int v)]) hx hb dX0_priceWere_18 hl (by decide) rfl (fun ls hl => ?_)
  refine lv_aload_n hx hb dX0_priceWere_20 rfl (lv_at hl 4 rfl) ?_
  refine lv_aload_n hx hb dX0_priceWere_21 rfl (lv_at hl 2 rfl) ?_
  refine fgetx hx hb ht inG0 hown hK hP (k := (44 + 57 * b)) (by omega) (x := (σ (44 + 57 * b))) rfl (sh_book _ _ hb2) rfl 0 (by decide) gw_213 (v := .int ((σ (44 + 57 * b)) 0)) rfl dX0_priceWere_22 ?_
  refine lv_iload_n hx hb dX0_priceWere_25 rfl (lv_at hl 5 rfl) ?_
  refine lv_iconst (v := 2) hx hb dX0_priceWere_26 (by decide) ?_
  refine callv (y := yX4_put) ⟨hx, hb, hml, hown, ht⟩ hK hN hP hS (k := (47 + 57 * b + 6 * i)) (c_X4_put l D ca ad hI σ τ hb2 hi ((σ (44 + 57 * b)) 0) v (2 : Int32)) (by omega) (sh_indx _ _ hb2 hi) rfl ok_X4_put gw_656 ⟨by decide, by decide⟩ rfl hl.1 rfl (Nat.le_of_ble_eq_true rfl) ⟨by decide, by decide⟩ dX0_priceWere_27 (fun v_ S_ T_ H locs hp3 hP hS => ?_)
  obtain ⟨rfl, rfl, rfl⟩ := hp3
  try dsimp only [Option.toList, List.cons_append, List.nil_append]
  refine lv_aload_n hx hb dX0_priceWere_30 rfl (lv_at hl 2 rfl) ?_
  refine lv_aload_n hx hb dX0_priceWere_31 rfl (lv_at hl 3 rfl) ?_
  refine lv_aload_n hx hb dX0_priceWere_32 rfl (lv_at hl 2 rfl) ?_
  refine fgetx hx hb ht inG0 hown hK hP (k := (44 + 57 * b)) (by omega) (x := (σ (44 + 57 * b))) (putS_ne _ _ _ _ (by omega) (by omega)) (sh_book _ _ hb2) rfl 0 (by decide) gw_213 (v := .int ((σ (44 + 57 * b)) 0)) rfl dX0_priceWere_33 ?_
  refine callv (y := yX0_priceFor) ⟨hx, hb, hml, hown, ht⟩ hK hN hP hS (k := (44 + 57 * b)) (c_X0_priceFor l D ca ad hI (putS σ b i ((σ (44 + 57 * b)) 0) v (2 : Int32)) τ hb2 hq ((σ (44 + 57 * b)) 0)) (by omega) (sh_book _ _ hb2) rfl ok_X0_priceFor gw_657 ⟨by decide, by decide⟩ rfl hl.1 rfl (Nat.le_of_ble_eq_true rfl) ⟨by decide, by decide⟩ dX0_priceWere_36 (fun v_ S_ T_ H locs hp4 hP hS => ?_)
  obtain ⟨rfl, rfl, rfl⟩ := hp4
  try dsimp only [Option.toList, List.cons_append, List.nil_append]
  refine lv_istore (lv' := [(6, .int (pfS (putS σ b i ((σ (44 + 57 * b)) 0) v (2 : Int32)) b q ((σ (44 + 57 * b)) 0))), (5, .int (valS (σ (48 + 57 * b + 6 * i)) (σ (49 + 57 * b + 6 * i)) ((σ (44 + 57 * b)) 0))), (4, .int (kindS (σ (49 + 57 * b + 6 * i)) ((σ (44 + 57 * b)) 0))), (0, .ref (ad (44 + 57 * b))), (1, .ref (ad (83 + 57 * b + 3 * q))), (2, .ref (ad (47 + 57 * b + 6 * i))), (3, .int v)]) hx hb dX0_priceWere_39 hl (by decide) rfl (fun ls hl => ?_)
  refine lv_aload_n hx hb dX0_priceWere_41 rfl (lv_at hl 5 rfl) ?_
  refine lv_aload_n hx hb dX0_priceWere_42 rfl (lv_at hl 3 rfl) ?_
  refine fgetx hx hb ht inG0 hown hK hP (k := (44 + 57 * b)) (by omega) (x := (σ (44 + 57 * b))) (putS_ne _ _ _ _ (by omega) (by omega)) (sh_book _ _ hb2) rfl 0 (by decide) gw_213 (v := .int ((σ (44 + 57 * b)) 0)) rfl dX0_priceWere_43 ?_
  refine lv_iload hx hb dX0_priceWere_46 (lv_at hl 1 rfl) ?_
  refine lv_iload hx hb dX0_priceWere_48 (lv_at hl 2 rfl) ?_
  refine callv (y := yX4_put) ⟨hx, hb, hml, hown, ht⟩ hK hN hP hS (k := (47 + 57 * b + 6 * i)) (c_X4_put l D ca ad hI (putS σ b i ((σ (44 + 57 * b)) 0) v (2 : Int32)) τ hb2 hi ((σ (44 + 57 * b)) 0) (valS (σ (48 + 57 * b + 6 * i)) (σ (49 + 57 * b + 6 * i)) ((σ (44 + 57 * b)) 0)) (kindS (σ (49 + 57 * b + 6 * i)) ((σ (44 + 57 * b)) 0))) (by omega) (sh_indx _ _ hb2 hi) rfl ok_X4_put gw_656 ⟨by decide, by decide⟩ rfl hl.1 rfl (Nat.le_of_ble_eq_true rfl) ⟨by decide, by decide⟩ dX0_priceWere_50 (fun v_ S_ T_ H locs hp5 hP hS => ?_)
  obtain ⟨rfl, rfl, rfl⟩ := hp5
  try dsimp only [Option.toList, List.cons_append, List.nil_append]
  refine lv_iload hx hb dX0_priceWere_53 (lv_at hl 0 rfl) ?_
  exact ret_i hx hb hr hlk hP hS dX0_priceWere_55 (⟨by first | with_reducible rfl | (simp only [↓reduceIte, Bool.false_eq_true]; done) | (simp only [↓reduceIte, Bool.false_eq_true]; rfl) | rfl, by first | with_reducible rfl | (simp only [↓reduceIte, Bool.false_eq_true]; done) | (simp only [↓reduceIte, Bool.false_eq_true]; rfl) | rfl, rfl⟩)
set_option maxHeartbeats 4000000 in
set_option maxRecDepth 100000 in
theorem lp_X0_wait {l : Launch} {D : va_G} {ca : Nat → ClassId} {ad : Nat → Nat} (hI : Inj 158 ad) {σ : MI} {τ : ML} {b : Nat} (hb2 : b < 2) (x mo : Int32) {p : Program} {e : Env} {s : State} {m : MethodId} {args : Array Value} {below : List Frame} {meth : Method} {c : Code} (hx : p.tables.exec = Jvm.exec) (hb : c.code = cX0_waitsFor) (hr : meth.sig.returnType = (some .int)) (ht : ∀ w ∈ GG, w.before args s = true) (hown : s.vm.findClass yX0_waitsFor.cls = some m.cls) (hlk : meth.locks = false) (hml : c.maxLocals = 7) (hK : va_K D vwCl (TY ca) s) (hN : NW s) : ∀ (n : Nat) (k : Nat) (hk : k ≤ kmin (σ (83 + 57 * b + 3 * x.toNatClampNeg) 6) 6) (hn : kmin (σ (83 + 57 * b + 3 * x.toNatClampNeg) 6) 6 - k < n) (hx6 : x.toNatClampNeg < 6) (hin : inC x (σ (44 + 57 * b) 2) 6 = true) (u : Int32) (hu : waP σ b x.toNatClampNeg mo k = u) (H : Heap) (locs : List Loc) (hP : PW D 158 ad (cxf ca ad) σ τ H) (hS : va_S (AA 158 ad) s.heap H locs) (ls : Array Slot) (hl : lv_has ls 7 [(5, .int (nI k)), (4, .int u), (3, .ref (ad (83 + 57 * b + 3 * x.toNatClampNeg))), (0, .ref (ad (44 + 57 * b))), (1, .int x), (2, .int mo)]), W p l e { frames := 2, cells := 0, slots := 0, locals := 41 } s m args below meth c H locs 0 0 (MQ below (QD D 158 ad (cxf ca ad) (fun v_ S_ T_ => some (.int (waS σ b x mo)) = v_ ∧ σ = S_ ∧ τ = T_)) args s 0 0 (AA 158 ad)) (F0 m 18 ls []) := by
  intro n
  induction n with
  | zero => intro k hk hn hx6 hin u hu H locs hP hS ls hl; exact absurd ‹_› (by omega)
  | succ n ih =>
    intro k hk hn hx6 hin u hu H locs hP hS ls hl
    have eM : (6 : Int32).toInt = 6 := rfl
    have hc := clampI (σ (83 + 57 * b + 3 * x.toNatClampNeg) 6)
    have hm : kmin (σ (83 + 57 * b + 3 * x.toNatClampNeg) 6) 6 = min (σ (83 + 57 * b + 3 * x.toNatClampNeg) 6).toNatClampNeg 6 := rfl
    have ek : (nI k).toInt = k := nI_toInt (by omega)
    refine lv_iload hx hb dX0_waitsFor_18 (lv_at hl 0 rfl) ?_
    refine lv_aload_n hx hb dX0_waitsFor_20 rfl (lv_at hl 2 rfl) ?_
    refine fgetxN hx hb ht inG1 hown hK hP (k := (83 + 57 * b + 3 * x.toNatClampNeg)) (by omega) (x := (σ (83 + 57 * b + 3 * x.toNatClampNeg))) rfl (sh_cont _ _ hb2 hx6) rfl 6 (by decide) (hN.get 186 nw_186 rfl) (v := .int ((σ (83 + 57 * b + 3 * x.toNatClampNeg)) 6)) rfl dX0_waitsFor_21 ?_
    refine lv_icmp_ge (tgt := 92) hx hb dX0_waitsFor_24 (by decide) (fun c1 => ?_) (fun c1 => ?_)
    · have dc1 := c1
      rw [i_le] at dc1
      have hke : k = kmin (σ (83 + 57 * b + 3 * x.toNatClampNeg) 6) 6 := by omega
      refine lv_iload hx hb dX0_waitsFor_92 (lv_at hl 1 rfl) ?_
      exact ret_i hx hb hr hlk hP hS dX0_waitsFor_94 (⟨by rw [waS, if_pos hin, ← hke, hu], rfl, rfl⟩)
    · have dc1 := c1
      rw [i_le] at dc1
      refine lv_iload hx hb dX0_waitsFor_27 (lv_at hl 0 rfl) ?_
      refine lv_bipush (v := 6) hx hb dX0_waitsFor_29 (by decide) ?_
      refine lv_icmp_ge (tgt := 92) hx hb dX0_waitsFor_31 (by decide) (fun c2 => ?_) (fun c2 => ?_)
      · have dc2 := c2
        rw [i_le] at dc2
        have hke : k = kmin (σ (83 + 57 * b + 3 * x.toNatClampNeg) 6) 6 := by omega
        refine lv_iload hx hb dX0_waitsFor_92 (lv_at hl 1 rfl) ?_
        exact ret_i hx hb hr hlk hP hS dX0_waitsFor_94 (⟨by rw [waS, if_pos hin, ← hke, hu], rfl, rfl⟩)
      · have dc2 := c2
        rw [i_le] at dc2
        refine lv_aload_n hx hb dX0_waitsFor_34 rfl (lv_at hl 3 rfl) ?_
        refine lv_aload_n hx hb dX0_waitsFor_35 rfl (lv_at hl 2 rfl) ?_
        refine fgetxN hx hb ht inG1 hown hK hP (k := (83 + 57 * b + 3 * x.toNatClampNeg)) (by omega) (x := (σ (83 + 57 * b + 3 * x.toNatClampNeg))) rfl (sh_cont _ _ hb2 hx6) rfl 8 (by decide) (hN.get 192 nw_192 rfl) (v := .ref (ad (85 + 57 * b + 3 * x.toNatClampNeg))) rfl dX0_waitsFor_36 ?_
        refine lv_iload hx hb dX0_waitsFor_39 (lv_at hl 0 rfl) ?_
        refine aldj hx hb hK hP (k := (85 + 57 * b + 3 * x.toNatClampNeg)) (by omega) (x := (σ (85 + 57 * b + 3 * x.toNatClampNeg))) rfl 0 (sh_cixs _ _ hb2 hx6) rfl (by rw [vp_in_iff]; omega) (j := k) (nI_clamp (by omega)) dX0_waitsFor_41 ?_
        refine callv (y := yX0_indexAt) ⟨hx, hb, hml, hown, ht⟩ hK hN hP hS (k := (44 + 57 * b)) (c_X0_indexAt l D ca ad hI σ τ hb2 ((σ (85 + 57 * b + 3 * x.toNatClampNeg)) k)) (by omega) (sh_book _ _ hb2) rfl ok_X0_indexAt gw_666 ⟨by decide, by decide⟩ rfl hl.1 rfl (Nat.le_of_ble_eq_true rfl) ⟨by decide, by decide⟩ dX0_waitsFor_42 (fun v_ S_ T_ H locs hp3 hP hS => ?_)
        rcases hp3 with ⟨hp3, rfl, rfl, rfl⟩ | ⟨hp3, rfl, rfl, rfl⟩
        · try dsimp only [Option.toList, List.cons_append, List.nil_append]
          refine lv_astoreN (lv' := [(6, .null), (5, .int (nI k)), (4, .int u), (3, .ref (ad (83 + 57 * b + 3 * x.toNatClampNeg))), (0, .ref (ad (44 + 57 * b))), (1, .int x), (2, .int mo)]) hx hb dX0_waitsFor_45 hl (by decide) rfl (fun ls hl => ?_)
          refine lv_aloadN hx hb dX0_waitsFor_47 (lv_at hl 0 rfl) ?_
          refine lv_ifnullN (tgt := 86) hx hb dX0_waitsFor_49 (by decide) ?_
          refine lv_iinc (v := (nI k) + 1) (lv' := [(5, .int ((nI k) + 1)), (6, .null), (4, .int u), (3, .ref (ad (83 + 57 * b + 3 * x.toNatClampNeg))), (0, .ref (ad (44 + 57 * b))), (1, .int x), (2, .int mo)]) hx hb dX0_waitsFor_86 hl (k := 1) rfl rfl (by decide) rfl (fun ls hl => ?_)
          refine lv_goto (tgt := 18) hx hb dX0_waitsFor_89 (by decide) ?_
          rw [nI_1] at hl
          exact ih (k + 1) (by omega) (by omega) hx6 hin _ (by simp only [waP, hp3, ↓reduceIte, hu, Bool.false_eq_true]) _ _ hP hS ls (lv_sub hl [0, 2, 3, 4, 5, 6] rfl)
        · try dsimp only [Option.toList, List.cons_append, List.nil_append]
          have hXhp3 := (inC_6 hp3)
          refine lv_astore (lv' := [(6, .ref (ad (47 + 57 * b + 6 * ((σ (85 + 57 * b + 3 * x.toNatClampNeg)) k).toNatClampNeg))), (5, .int (nI k)), (4, .int u), (3, .ref (ad (83 + 57 * b + 3 * x.toNatClampNeg))), (0, .ref (ad (44 + 57 * b))), (1, .int x), (2, .int mo)]) hx hb dX0_waitsFor_45 hl (by decide) rfl (fun ls hl => ?_)
          refine lv_aload hx hb dX0_waitsFor_47 (lv_at hl 0 rfl) ?_
          refine lv_ifnull hx hb dX0_waitsFor_49 ?_
          refine lv_aload_n hx hb dX0_waitsFor_52 rfl (lv_at hl 3 rfl) ?_
          refine fgetxN hx hb ht inG1 hown hK hP (k := (83 + 57 * b + 3 * x.toNatClampNeg)) (by omega) (x := (σ (83 + 57 * b + 3 * x.toNatClampNeg))) rfl (sh_cont _ _ hb2 hx6) rfl 7 (by decide) (hN.get 190 nw_190 rfl) (v := .ref (ad (84 + 57 * b + 3 * x.toNatClampNeg))) rfl dX0_waitsFor_53 ?_
          refine lv_iload hx hb dX0_waitsFor_56 (lv_at hl 1 rfl) ?_
          refine aldj hx hb hK hP (k := (84 + 57 * b + 3 * x.toNatClampNeg)) (by omega) (x := (σ (84 + 57 * b + 3 * x.toNatClampNeg))) rfl 0 (sh_wgts _ _ hb2 hx6) rfl (by rw [vp_in_iff]; omega) (j := k) (nI_clamp (by omega)) dX0_waitsFor_58 ?_
          refine lv_if_le (tgt := 86) hx hb dX0_waitsFor_59 (by decide) (fun c4 => ?_) (fun c4 => ?_)
          · have dc4 := c4
            rw [i_le] at dc4
            refine lv_iinc (v := (nI k) + 1) (lv' := [(5, .int ((nI k) + 1)), (6, .ref (ad (47 + 57 * b + 6 * ((σ (85 + 57 * b + 3 * x.toNatClampNeg)) k).toNatClampNeg))), (4, .int u), (3, .ref (ad (83 + 57 * b + 3 * x.toNatClampNeg))), (0, .ref (ad (44 + 57 * b))), (1, .int x), (2, .int mo)]) hx hb dX0_waitsFor_86 hl (k := 1) rfl rfl (by decide) rfl (fun ls hl => ?_)
            refine lv_goto (tgt := 18) hx hb dX0_waitsFor_89 (by decide) ?_
            rw [nI_1] at hl
            exact ih (k + 1) (by omega) (by omega) hx6 hin _ (by simp only [waP, hp3, c4, ↓reduceIte, hu, Bool.false_eq_true]) _ _ hP hS ls (lv_sub hl [0, 2, 3, 4, 5, 6] rfl)
          · have dc4 := c4
            rw [i_le] at dc4
            refine lv_aload hx hb dX0_waitsFor_62 (lv_at hl 0 rfl) ?_
            refine lv_iload_n hx hb dX0_waitsFor_64 rfl (lv_at hl 6 rfl) ?_
            refine callv (y := yX4_kindAt) ⟨hx, hb, hml, hown, ht⟩ hK hN hP hS (k := (47 + 57 * b + 6 * ((σ (85 + 57 * b + 3 * x.toNatClampNeg)) k).toNatClampNeg)) (c_X4_kindAt l D ca ad hI σ τ hb2 (inC_6 hp3) mo) (by have b0_ : b < 2 := hb2; have b1_ : ((σ (85 + 57 * b + 3 * x.toNatClampNeg)) k).toNatClampNeg < 6 := (inC_6 hp3); omega) (sh_indx _ _ hb2 (inC_6 hp3)) rfl ok_X4_kindAt gw_654 ⟨by decide, by decide⟩ rfl hl.1 rfl (Nat.le_of_ble_eq_true rfl) ⟨by decide, by decide⟩ dX0_waitsFor_65 (fun v_ S_ T_ H locs hp5 hP hS => ?_)
            obtain ⟨rfl, rfl, rfl⟩ := hp5
            try dsimp only [Option.toList, List.cons_append, List.nil_append]
            refine lv_iconst (v := 2) hx hb dX0_waitsFor_68 (by decide) ?_
            refine lv_icmp_eq (tgt := 86) hx hb dX0_waitsFor_69 (by decide) (fun c6 => ?_) (fun c6 => ?_)
            · have dc6 := c6
              rw [i_eq] at dc6
              refine lv_iinc (v := (nI k) + 1) (lv' := [(5, .int ((nI k) + 1)), (6, .ref (ad (47 + 57 * b + 6 * ((σ (85 + 57 * b + 3 * x.toNatClampNeg)) k).toNatClampNeg))), (4, .int u), (3, .ref (ad (83 + 57 * b + 3 * x.toNatClampNeg))), (0, .ref (ad (44 + 57 * b))), (1, .int x), (2, .int mo)]) hx hb dX0_waitsFor_86 hl (k := 1) rfl rfl (by decide) rfl (fun ls hl => ?_)
              refine lv_goto (tgt := 18) hx hb dX0_waitsFor_89 (by decide) ?_
              rw [nI_1] at hl
              exact ih (k + 1) (by omega) (by omega) hx6 hin _ (by simp only [waP, hp3, c4, c6, ↓reduceIte, hu, Bool.false_eq_true]) _ _ hP hS ls (lv_sub hl [0, 2, 3, 4, 5, 6] rfl)
            · have dc6 := c6
              rw [i_eq] at dc6
              refine lv_iload hx hb dX0_waitsFor_72 (lv_at hl 2 rfl) ?_
              refine lv_iconst (v := 1) hx hb dX0_waitsFor_74 (by decide) ?_
              refine lv_aload_n hx hb dX0_waitsFor_75 rfl (lv_at hl 3 rfl) ?_
              refine fgetxN hx hb ht inG1 hown hK hP (k := (83 + 57 * b + 3 * x.toNatClampNeg)) (by omega) (x := (σ (83 + 57 * b + 3 * x.toNatClampNeg))) rfl (sh_cont _ _ hb2 hx6) rfl 8 (by decide) (hN.get 192 nw_192 rfl) (v := .ref (ad (85 + 57 * b + 3 * x.toNatClampNeg))) rfl dX0_waitsFor_76 ?_
              refine lv_iload hx hb dX0_waitsFor_79 (lv_at hl 1 rfl) ?_
              refine aldj hx hb hK hP (k := (85 + 57 * b + 3 * x.toNatClampNeg)) (by omega) (x := (σ (85 + 57 * b + 3 * x.toNatClampNeg))) rfl 0 (sh_cixs _ _ hb2 hx6) rfl (by rw [vp_in_iff]; omega) (j := k) (nI_clamp (by omega)) dX0_waitsFor_81 ?_
              refine lv_ishl hx hb dX0_waitsFor_82 ?_
              refine lv_ior hx hb dX0_waitsFor_83 ?_
              refine lv_istore (lv' := [(4, .int (u ||| (1 <<< (((σ (85 + 57 * b + 3 * x.toNatClampNeg)) k) &&& 31)))), (6, .ref (ad (47 + 57 * b + 6 * ((σ (85 + 57 * b + 3 * x.toNatClampNeg)) k).toNatClampNeg))), (5, .int (nI k)), (3, .ref (ad (83 + 57 * b + 3 * x.toNatClampNeg))), (0, .ref (ad (44 + 57 * b))), (1, .int x), (2, .int mo)]) hx hb dX0_waitsFor_84 hl (by decide) rfl (fun ls hl => ?_)
              refine lv_iinc (v := (nI k) + 1) (lv' := [(5, .int ((nI k) + 1)), (4, .int (u ||| (1 <<< (((σ (85 + 57 * b + 3 * x.toNatClampNeg)) k) &&& 31)))), (6, .ref (ad (47 + 57 * b + 6 * ((σ (85 + 57 * b + 3 * x.toNatClampNeg)) k).toNatClampNeg))), (3, .ref (ad (83 + 57 * b + 3 * x.toNatClampNeg))), (0, .ref (ad (44 + 57 * b))), (1, .int x), (2, .int mo)]) hx hb dX0_waitsFor_86 hl (k := 2) rfl rfl (by decide) rfl (fun ls hl => ?_)
              refine lv_goto (tgt := 18) hx hb dX0_waitsFor_89 (by decide) ?_
              rw [nI_1] at hl
              exact ih (k + 1) (by omega) (by omega) hx6 hin _ (by simp only [waP, hp3, c4, c6, ↓reduceIte, hu, Bool.false_eq_true]) _ _ hP hS ls (lv_sub hl [0, 1, 3, 4, 5, 6] rfl)
set_option maxHeartbeats 4000000 in
set_option maxRecDepth 100000 in
theorem c_X0_waitsFor (l : Launch) (D : va_G) (ca : Nat → ClassId) (ad : Nat → Nat) (hI : Inj 158 ad) (σ : MI) (τ : ML) {b : Nat} (hb2 : b < 2) (x mo : Int32) : CT l D (TY ca) 158 ad (cxf ca ad) yX0_waitsFor cX0_waitsFor 7 (some .int) 2 41 [.ref (ad (44 + 57 * b)), .int x, .int mo] σ τ (fun v_ S_ T_ => some (.int (waS σ b x mo)) = v_ ∧ σ = S_ ∧ τ = T_) := by
  refine CT.of (by decide) (Nat.le_of_ble_eq_true rfl) ?_
  intro p e s m args below meth c hx hb hr ht hown hlk hml hP hK hN hS ls hl
  have hl : lv_has ls 7 [(0, .ref (ad (44 + 57 * b))), (1, .int x), (2, .int mo)] := hl
  refine lv_aload_n hx hb dX0_waitsFor_0 rfl (lv_at hl 0 rfl) ?_
  refine lv_iload_n hx hb dX0_waitsFor_1 rfl (lv_at hl 1 rfl) ?_
  refine callv (y := yX0_contractAt) ⟨hx, hb, hml, hown, ht⟩ hK hN hP hS (k := (44 + 57 * b)) (c_X0_contractAt l D ca ad hI σ τ hb2 x) (by omega) (sh_book _ _ hb2) rfl ok_X0_contractAt gw_711 ⟨by decide, by decide⟩ rfl hl.1 rfl (Nat.le_of_ble_eq_true rfl) ⟨by decide, by decide⟩ dX0_waitsFor_2 (fun v_ S_ T_ H locs hp1 hP hS => ?_)
  rcases hp1 with ⟨hp1, rfl, rfl, rfl⟩ | ⟨hp1, rfl, rfl, rfl⟩
  · try dsimp only [Option.toList, List.cons_append, List.nil_append]
    refine lv_astore_nN (lv' := [(3, .null), (0, .ref (ad (44 + 57 * b))), (1, .int x), (2, .int mo)]) hx hb dX0_waitsFor_5 rfl hl (by decide) rfl (fun ls hl => ?_)
    refine lv_aload_nN hx hb dX0_waitsFor_6 rfl (lv_at hl 0 rfl) ?_
    refine lv_ifnonnullN hx hb dX0_waitsFor_7 ?_
    refine lv_iconst (v := 0) hx hb dX0_waitsFor_10 (by decide) ?_
    exact ret_i hx hb hr hlk hP hS dX0_waitsFor_11 (⟨by first | with_reducible rfl | (simp only [waS, hp1, ↓reduceIte, Bool.false_eq_true]; done) | (simp only [waS, hp1, ↓reduceIte, Bool.false_eq_true]; rfl) | rfl, by first | with_reducible rfl | (simp only [waS, hp1, ↓reduceIte, Bool.false_eq_true]; done) | (simp only [waS, hp1, ↓reduceIte, Bool.false_eq_true]; rfl) | rfl, rfl⟩)
  · try dsimp only [Option.toList, List.cons_append, List.nil_append]
    have hXhp1 := (inC_6 hp1)
    refine lv_astore_n (lv' := [(3, .ref (ad (83 + 57 * b + 3 * x.toNatClampNeg))), (0, .ref (ad (44 + 57 * b))), (1, .int x), (2, .int mo)]) hx hb dX0_waitsFor_5 rfl hl (by decide) rfl (fun ls hl => ?_)
    refine lv_aload_n hx hb dX0_waitsFor_6 rfl (lv_at hl 0 rfl) ?_
    refine lv_ifnonnull (tgt := 12) hx hb dX0_waitsFor_7 (by decide) ?_
    refine lv_iconst (v := 0) hx hb dX0_waitsFor_12 (by decide) ?_
    refine lv_istore (lv' := [(4, .int 0), (3, .ref (ad (83 + 57 * b + 3 * x.toNatClampNeg))), (0, .ref (ad (44 + 57 * b))), (1, .int x), (2, .int mo)]) hx hb dX0_waitsFor_13 hl (by decide) rfl (fun ls hl => ?_)
    refine lv_iconst (v := 0) hx hb dX0_waitsFor_15 (by decide) ?_
    refine lv_istore (lv' := [(5, .int 0), (4, .int 0), (3, .ref (ad (83 + 57 * b + 3 * x.toNatClampNeg))), (0, .ref (ad (44 + 57 * b))), (1, .int x), (2, .int mo)]) hx hb dX0_waitsFor_16 hl (by decide) rfl (fun ls hl => ?_)
    exact lp_X0_wait hI hb2 x mo hx hb hr ht hown hlk hml hK hN (kmin (σ (83 + 57 * b + 3 * x.toNatClampNeg) 6) 6 + 1) 0 (by omega) (by omega) (inC_6 hp1) hp1 _ rfl _ _ hP hS ls hl
set_option maxHeartbeats 4000000 in
set_option maxRecDepth 100000 in
theorem lp_X5_settle {l : Launch} {D : va_G} {ca : Nat → ClassId} {ad : Nat → Nat} (hI : Inj 158 ad) {σ : MI} {τ : ML} {b : Nat} (hb2 : b < 2) {p : Program} {e : Env} {s : State} {m : MethodId} {args : Array Value} {below : List Frame} {meth : Method} {c : Code} (hx : p.tables.exec = Jvm.exec) (hb : c.code = cX5_settle) (hr : meth.sig.returnType = (some .int)) (ht : ∀ w ∈ GG, w.before args s = true) (hown : s.vm.findClass yX5_settle.cls = some m.cls) (hlk : meth.locks = false) (hml : c.maxLocals = 6) (hK : va_K D vwCl (TY ca) s) (hN : NW s) : ∀ (n : Nat) (k : Nat) (hk : k ≤ kmin (σ 12 1) 30) (hn : kmin (σ 12 1) 30 - k < n) (a : Int32) (ha : setlN σ b k = a) (H : Heap) (locs : List Loc) (hP : PW D 158 ad (cxf ca ad) (setlM σ b k) (setlT σ τ b k) H) (hS : va_S (AA 158 ad) s.heap H locs) (ls : Array Slot) (hl : lv_has ls 6 [(3, .int (nI k)), (2, .int a), (0, .ref (ad 12)), (1, .ref (ad (44 + 57 * b)))]), W p l e { frames := 5, cells := 0, slots := 0, locals := 116 } s m args below meth c H locs 0 0 (MQ below (QD D 158 ad (cxf ca ad) (fun v_ S_ T_ => some (.int (setlN σ b (kmin (σ 12 1) 30))) = v_ ∧ (setlM σ b (kmin (σ 12 1) 30)) = S_ ∧ (setlT σ τ b (kmin (σ 12 1) 30)) = T_)) args s 0 0 (AA 158 ad)) (F0 m 4 ls []) := by
  intro n
  induction n with
  | zero => intro k hk hn a ha H locs hP hS ls hl; exact absurd ‹_› (by omega)
  | succ n ih =>
    intro k hk hn a ha H locs hP hS ls hl
    have eM : (30 : Int32).toInt = 30 := rfl
    have hc := clampI (σ 12 1)
    have hm : kmin (σ 12 1) 30 = min (σ 12 1).toNatClampNeg 30 := rfl
    have ek : (nI k).toInt = k := nI_toInt (by omega)
    refine lv_iload_n hx hb dX5_settle_4 rfl (lv_at hl 0 rfl) ?_
    refine lv_aload_n hx hb dX5_settle_5 rfl (lv_at hl 2 rfl) ?_
    refine fgetx hx hb ht inG5 hown hK hP (k := 12) (by decide) (x := (σ 12)) (setlM_ne _ _ _ (by omega)) (sh_ledg _ _) rfl 1 (by decide) gw_310 (v := .int ((σ 12) 1)) rfl dX5_settle_6 ?_
    refine lv_icmp_ge (tgt := 96) hx hb dX5_settle_9 (by decide) (fun c1 => ?_) (fun c1 => ?_)
    · have dc1 := c1
      rw [i_le] at dc1
      have hke : k = kmin (σ 12 1) 30 := by omega
      refine lv_iload_n hx hb dX5_settle_96 rfl (lv_at hl 1 rfl) ?_
      exact ret_i hx hb hr hlk hP hS dX5_settle_97 (⟨by rw [← hke, ha], by rw [hke], by rw [hke]⟩)
    · have dc1 := c1
      rw [i_le] at dc1
      refine lv_iload_n hx hb dX5_settle_12 rfl (lv_at hl 0 rfl) ?_
      refine lv_bipush (v := 30) hx hb dX5_settle_13 (by decide) ?_
      refine lv_icmp_ge (tgt := 96) hx hb dX5_settle_15 (by decide) (fun c2 => ?_) (fun c2 => ?_)
      · have dc2 := c2
        rw [i_le] at dc2
        have hke : k = kmin (σ 12 1) 30 := by omega
        refine lv_iload_n hx hb dX5_settle_96 rfl (lv_at hl 1 rfl) ?_
        exact ret_i hx hb hr hlk hP hS dX5_settle_97 (⟨by rw [← hke, ha], by rw [hke], by rw [hke]⟩)
      · have dc2 := c2
        rw [i_le] at dc2
        refine lv_aload_n hx hb dX5_settle_18 rfl (lv_at hl 2 rfl) ?_
        refine fgetx hx hb ht inG5 hown hK hP (k := 12) (by decide) (x := (σ 12)) (setlM_ne _ _ _ (by omega)) (sh_ledg _ _) rfl 0 (by decide) gw_309 (v := .ref (ad 13)) rfl dX5_settle_19 ?_
        refine lv_iload_n hx hb dX5_settle_22 rfl (lv_at hl 0 rfl) ?_
        refine rldj hx hb hK hP (k := 13) (by decide) 4 (sh_rows _ _) rfl (by rw [vp_in_iff]; omega) (j := k) (nI_clamp (by omega)) (a := ad (14 + k)) rfl dX5_settle_23 ?_
        refine lv_astore (lv' := [(4, .ref (ad (14 + k))), (3, .int (nI k)), (2, .int a), (0, .ref (ad 12)), (1, .ref (ad (44 + 57 * b)))]) hx hb dX5_settle_24 hl (by decide) rfl (fun ls hl => ?_)
        refine lv_aload_n hx hb dX5_settle_26 rfl (lv_at hl 4 rfl) ?_
        refine lv_aload hx hb dX5_settle_27 (lv_at hl 0 rfl) ?_
        refine fgetxN hx hb ht inG2 hown hK hP (k := (14 + k)) (by have b0_ : k < 30 := (by omega); omega) (x := ((setlM σ b k) (14 + k))) rfl (sh_deli _ _ (by omega)) rfl 0 (by decide) (hN.get 272 nw_272 rfl) (v := .int (((setlM σ b k) (14 + k)) 0)) rfl dX5_settle_29 ?_
        refine callv (y := yX0_contractAt) ⟨hx, hb, hml, hown, ht⟩ hK hN hP hS (k := (44 + 57 * b)) (c_X0_contractAt l D ca ad hI (setlM σ b k) (setlT σ τ b k) hb2 (((setlM σ b k) (14 + k)) 0)) (by omega) (sh_book _ _ hb2) rfl ok_X0_contractAt gw_772 ⟨by decide, by decide⟩ rfl hl.1 rfl (Nat.le_of_ble_eq_true rfl) ⟨by decide, by decide⟩ dX5_settle_32 (fun v_ S_ T_ H locs hp3 hP hS => ?_)
        rcases hp3 with ⟨hp3, rfl, rfl, rfl⟩ | ⟨hp3, rfl, rfl, rfl⟩
        · try dsimp only [Option.toList, List.cons_append, List.nil_append]
          refine lv_astoreN (lv' := [(5, .null), (4, .ref (ad (14 + k))), (3, .int (nI k)), (2, .int a), (0, .ref (ad 12)), (1, .ref (ad (44 + 57 * b)))]) hx hb dX5_settle_35 hl (by decide) rfl (fun ls hl => ?_)
          refine lv_aloadN hx hb dX5_settle_37 (lv_at hl 0 rfl) ?_
          refine lv_ifnullN (tgt := 90) hx hb dX5_settle_39 (by decide) ?_
          refine lv_iinc (v := (nI k) + 1) (lv' := [(3, .int ((nI k) + 1)), (5, .null), (4, .ref (ad (14 + k))), (2, .int a), (0, .ref (ad 12)), (1, .ref (ad (44 + 57 * b)))]) hx hb dX5_settle_90 hl (k := 2) rfl rfl (by decide) rfl (fun ls hl => ?_)
          refine lv_goto (tgt := 4) hx hb dX5_settle_93 (by decide) ?_
          rw [nI_1] at hl
          have hC : setlC (setlM σ b k) b k = false := by simp only [setlC, hp3, ↓reduceIte, Bool.false_eq_true]
          exact ih (k + 1) (by omega) (by omega) _ (by simp only [setlN, hC, ↓reduceIte, ha, Bool.false_eq_true]) _ _ (by simp only [setlM, setlT, hC, ↓reduceIte, Bool.false_eq_true]; exact hP) hS ls (lv_sub hl [0, 3, 4, 5] rfl)
        · try dsimp only [Option.toList, List.cons_append, List.nil_append]
          have hXhp3 := (inC_6 hp3)
          refine lv_astore (lv' := [(5, .ref (ad (83 + 57 * b + 3 * (((setlM σ b k) (14 + k)) 0).toNatClampNeg))), (4, .ref (ad (14 + k))), (3, .int (nI k)), (2, .int a), (0, .ref (ad 12)), (1, .ref (ad (44 + 57 * b)))]) hx hb dX5_settle_35 hl (by decide) rfl (fun ls hl => ?_)
          refine lv_aload hx hb dX5_settle_37 (lv_at hl 0 rfl) ?_
          refine lv_ifnull hx hb dX5_settle_39 ?_
          refine lv_aload hx hb dX5_settle_42 (lv_at hl 1 rfl) ?_
          refine callv (y := yX2_isSettled) ⟨hx, hb, hml, hown, ht⟩ hK hN hP hS (k := (14 + k)) (c_X2_isSettled l D ca ad hI (setlM σ b k) (setlT σ τ b k) (by omega)) (by have b0_ : k < 30 := (by omega); omega) (sh_deli _ _ (by omega)) rfl ok_X2_isSettled gw_601 ⟨by decide, by decide⟩ rfl hl.1 rfl (Nat.le_of_ble_eq_true rfl) ⟨by decide, by decide⟩ dX5_settle_44 (fun v_ S_ T_ H locs hp4 hP hS => ?_)
          obtain ⟨rfl, rfl, rfl⟩ := hp4
          try dsimp only [Option.toList, List.cons_append, List.nil_append]
          refine br_ne (tgt := 90) hx hb dX5_settle_47 (by decide) (fun c5 => ?_) (fun c5 => ?_)
          · refine lv_iinc (v := (nI k) + 1) (lv' := [(3, .int ((nI k) + 1)), (5, .ref (ad (83 + 57 * b + 3 * (((setlM σ b k) (14 + k)) 0).toNatClampNeg))), (4, .ref (ad (14 + k))), (2, .int a), (0, .ref (ad 12)), (1, .ref (ad (44 + 57 * b)))]) hx hb dX5_settle_90 hl (k := 2) rfl rfl (by decide) rfl (fun ls hl => ?_)
            refine lv_goto (tgt := 4) hx hb dX5_settle_93 (by decide) ?_
            rw [nI_1] at hl
            have hC : setlC (setlM σ b k) b k = false := by simp only [setlC, hp3, c5, ↓reduceIte, Bool.false_eq_true]
            exact ih (k + 1) (by omega) (by omega) _ (by simp only [setlN, hC, ↓reduceIte, ha, Bool.false_eq_true]) _ _ (by simp only [setlM, setlT, hC, ↓reduceIte, Bool.false_eq_true]; exact hP) hS ls (lv_sub hl [0, 3, 4, 5] rfl)
          · refine lv_aload_n hx hb dX5_settle_50 rfl (lv_at hl 5 rfl) ?_
            refine lv_aload hx hb dX5_settle_51 (lv_at hl 1 rfl) ?_
            refine fgetxN hx hb ht inG2 hown hK hP (k := (14 + k)) (by have b0_ : k < 30 := (by omega); omega) (x := ((setlM σ b k) (14 + k))) rfl (sh_deli _ _ (by omega)) rfl 0 (by decide) (hN.get 272 nw_272 rfl) (v := .int (((setlM σ b k) (14 + k)) 0)) rfl dX5_settle_53 ?_
            refine lv_aload hx hb dX5_settle_56 (lv_at hl 1 rfl) ?_
            refine fgetxN hx hb ht inG2 hown hK hP (k := (14 + k)) (by have b0_ : k < 30 := (by omega); omega) (x := ((setlM σ b k) (14 + k))) rfl (sh_deli _ _ (by omega)) rfl 4 (by decide) (hN.get 282 nw_282 rfl) (v := .int (((setlM σ b k) (14 + k)) 4)) rfl dX5_settle_58 ?_
            refine callv (y := yX0_waitsFor) ⟨hx, hb, hml, hown, ht⟩ hK hN hP hS (k := (44 + 57 * b)) (c_X0_waitsFor l D ca ad hI (setlM σ b k) (setlT σ τ b k) hb2 (((setlM σ b k) (14 + k)) 0) (((setlM σ b k) (14 + k)) 4)) (by omega) (sh_book _ _ hb2) rfl ok_X0_waitsFor gw_773 ⟨by decide, by decide⟩ rfl hl.1 rfl (Nat.le_of_ble_eq_true rfl) ⟨by decide, by decide⟩ dX5_settle_61 (fun v_ S_ T_ H locs hp6 hP hS => ?_)
            obtain ⟨rfl, rfl, rfl⟩ := hp6
            try dsimp only [Option.toList, List.cons_append, List.nil_append]
            refine lv_if_ne (tgt := 90) hx hb dX5_settle_64 (by decide) (fun c7 => ?_) (fun c7 => ?_)
            · have dc7 := c7
              rw [i_eq] at dc7
              refine lv_iinc (v := (nI k) + 1) (lv' := [(3, .int ((nI k) + 1)), (5, .ref (ad (83 + 57 * b + 3 * (((setlM σ b k) (14 + k)) 0).toNatClampNeg))), (4, .ref (ad (14 + k))), (2, .int a), (0, .ref (ad 12)), (1, .ref (ad (44 + 57 * b)))]) hx hb dX5_settle_90 hl (k := 2) rfl rfl (by decide) rfl (fun ls hl => ?_)
              refine lv_goto (tgt := 4) hx hb dX5_settle_93 (by decide) ?_
              rw [nI_1] at hl
              have hC : setlC (setlM σ b k) b k = false := by simp only [setlC, hp3, c5, c7, ↓reduceIte, Bool.false_eq_true]
              exact ih (k + 1) (by omega) (by omega) _ (by simp only [setlN, hC, ↓reduceIte, ha, Bool.false_eq_true]) _ _ (by simp only [setlM, setlT, hC, ↓reduceIte, Bool.false_eq_true]; exact hP) hS ls (lv_sub hl [0, 3, 4, 5] rfl)
            · have dc7 := c7
              rw [i_eq] at dc7
              refine lv_aload hx hb dX5_settle_67 (lv_at hl 1 rfl) ?_
              refine lv_aload_n hx hb dX5_settle_69 rfl (lv_at hl 5 rfl) ?_
              refine lv_aload hx hb dX5_settle_70 (lv_at hl 0 rfl) ?_
              refine lv_aload hx hb dX5_settle_72 (lv_at hl 1 rfl) ?_
              refine fgetxN hx hb ht inG2 hown hK hP (k := (14 + k)) (by have b0_ : k < 30 := (by omega); omega) (x := ((setlM σ b k) (14 + k))) rfl (sh_deli _ _ (by omega)) rfl 4 (by decide) (hN.get 282 nw_282 rfl) (v := .int (((setlM σ b k) (14 + k)) 4)) rfl dX5_settle_74 ?_
              refine callv (y := yX0_priceFor) ⟨hx, hb, hml, hown, ht⟩ hK hN hP hS (k := (44 + 57 * b)) (c_X0_priceFor l D ca ad hI (setlM σ b k) (setlT σ τ b k) hb2 (inC_6 hp3) (((setlM σ b k) (14 + k)) 4)) (by omega) (sh_book _ _ hb2) rfl ok_X0_priceFor gw_774 ⟨by decide, by decide⟩ rfl hl.1 rfl (Nat.le_of_ble_eq_true rfl) ⟨by decide, by decide⟩ dX5_settle_77 (fun v_ S_ T_ H locs hp8 hP hS => ?_)
              obtain ⟨rfl, rfl, rfl⟩ := hp8
              try dsimp only [Option.toList, List.cons_append, List.nil_append]
              refine lv_aload_n hx hb dX5_settle_80 rfl (lv_at hl 5 rfl) ?_
              refine fgetxN hx hb ht inG0 hown hK hP (k := (44 + 57 * b)) (by omega) (x := ((setlM σ b k) (44 + 57 * b))) rfl (sh_book _ _ hb2) rfl 0 (by decide) (hN.get 216 nw_216 rfl) (v := .int (((setlM σ b k) (44 + 57 * b)) 0)) rfl dX5_settle_81 ?_
              refine callv (y := yX2_settle) ⟨hx, hb, hml, hown, ht⟩ hK hN hP hS (k := (14 + k)) (c_X2_settle l D ca ad hI (setlM σ b k) (setlT σ τ b k) (by omega) (pfS (setlM σ b k) b ((((setlM σ b k) (14 + k)) 0).toNatClampNeg) (((setlM σ b k) (14 + k)) 4)) (((setlM σ b k) (44 + 57 * b)) 0)) (by have b0_ : k < 30 := (by omega); omega) (sh_deli _ _ (by omega)) rfl ok_X2_settle gw_775 ⟨by decide, by decide⟩ rfl hl.1 rfl (Nat.le_of_ble_eq_true rfl) ⟨by decide, by decide⟩ dX5_settle_84 (fun v_ S_ T_ H locs hp9 hP hS => ?_)
              obtain ⟨rfl, rfl, rfl⟩ := hp9
              try dsimp only [Option.toList, List.cons_append, List.nil_append]
              refine lv_iinc (v := a + 1) (lv' := [(2, .int (a + 1)), (5, .ref (ad (83 + 57 * b + 3 * (((setlM σ b k) (14 + k)) 0).toNatClampNeg))), (4, .ref (ad (14 + k))), (3, .int (nI k)), (0, .ref (ad 12)), (1, .ref (ad (44 + 57 * b)))]) hx hb dX5_settle_87 hl (k := 3) rfl rfl (by decide) rfl (fun ls hl => ?_)
              refine lv_iinc (v := (nI k) + 1) (lv' := [(3, .int ((nI k) + 1)), (2, .int (a + 1)), (5, .ref (ad (83 + 57 * b + 3 * (((setlM σ b k) (14 + k)) 0).toNatClampNeg))), (4, .ref (ad (14 + k))), (0, .ref (ad 12)), (1, .ref (ad (44 + 57 * b)))]) hx hb dX5_settle_90 hl (k := 3) rfl rfl (by decide) rfl (fun ls hl => ?_)
              refine lv_goto (tgt := 4) hx hb dX5_settle_93 (by decide) ?_
              rw [nI_1] at hl
              have hC : setlC (setlM σ b k) b k = true := by simp only [setlC, hp3, c5, c7, ↓reduceIte, Bool.false_eq_true]
              exact ih (k + 1) (by omega) (by omega) _ (by simp only [setlN, hC, ↓reduceIte, ha, Bool.false_eq_true]) _ _ (by simp only [setlM, setlT, hC, ↓reduceIte, Bool.false_eq_true]; exact hP) hS ls (lv_sub hl [0, 1, 4, 5] rfl)
set_option maxHeartbeats 4000000 in
set_option maxRecDepth 100000 in
theorem c_X5_settle (l : Launch) (D : va_G) (ca : Nat → ClassId) (ad : Nat → Nat) (hI : Inj 158 ad) (σ : MI) (τ : ML) {b : Nat} (hb2 : b < 2) : CT l D (TY ca) 158 ad (cxf ca ad) yX5_settle cX5_settle 6 (some .int) 5 116 [.ref (ad 12), .ref (ad (44 + 57 * b))] σ τ (fun v_ S_ T_ => some (.int (setlN σ b (kmin (σ 12 1) 30))) = v_ ∧ (setlM σ b (kmin (σ 12 1) 30)) = S_ ∧ (setlT σ τ b (kmin (σ 12 1) 30)) = T_) := by
  refine CT.of (by decide) (Nat.le_of_ble_eq_true rfl) ?_
  intro p e s m args below meth c hx hb hr ht hown hlk hml hP hK hN hS ls hl
  have hl : lv_has ls 6 [(0, .ref (ad 12)), (1, .ref (ad (44 + 57 * b)))] := hl
  refine lv_iconst (v := 0) hx hb dX5_settle_0 (by decide) ?_
  refine lv_istore_n (lv' := [(2, .int 0), (0, .ref (ad 12)), (1, .ref (ad (44 + 57 * b)))]) hx hb dX5_settle_1 rfl hl (by decide) rfl (fun ls hl => ?_)
  refine lv_iconst (v := 0) hx hb dX5_settle_2 (by decide) ?_
  refine lv_istore_n (lv' := [(3, .int 0), (2, .int 0), (0, .ref (ad 12)), (1, .ref (ad (44 + 57 * b)))]) hx hb dX5_settle_3 rfl hl (by decide) rfl (fun ls hl => ?_)
  exact lp_X5_settle hI hb2 hx hb hr ht hown hlk hml hK hN (kmin (σ 12 1) 30 + 1) 0 (by omega) (by omega) _ rfl _ _ hP hS ls hl
