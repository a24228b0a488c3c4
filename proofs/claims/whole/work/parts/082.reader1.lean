set_option maxHeartbeats 4000000 in
set_option maxRecDepth 100000 in
theorem lp_X6_word {l : Launch} {D : va_G} {ca : Nat → ClassId} {ad : Nat → Nat} (hI : Inj 158 ad) {adK adV : Nat → Nat} {σ : MI} {τ : ML} {w : Nat} (hw : w < 7) {p : Program} {e : Env} {s : State} {m : MethodId} {args : Array Value} {below : List Frame} {meth : Method} {c : Code} (hx : p.tables.exec = Jvm.exec) (hb : c.code = cX6_isWord) (hr : meth.sig.returnType = (some .boolean)) (ht : ∀ w ∈ GG, w.before args s = true) (hown : s.vm.findClass yX6_isWord.cls = some m.cls) (hlk : meth.locks = false) (hml : c.maxLocals = 3) (hK : va_K D vwCl (TY ca) s) (hN : NW s) (hE : SCx adK adV (AA 158 ad) s s.heap) : ∀ (n : Nat) (k : Nat) (hk : k ≤ lenJ.getD w 0) (hn : lenJ.getD w 0 - k < n) (hk1 : σ 2 4 = 1) (hk2 : σ 2 3 - σ 2 2 = nI (lenJ.getD w 0)) (hall : ∀ j, j < k → (fun k => decide (btS (σ 3) (σ 2 1) (σ 2 2 + nI k) = chJ w k)) j = true) (H : Heap) (locs : List Loc) (hP : PW D 158 ad (cxf ca ad) σ τ H) (hS : va_S (AA 158 ad) s.heap H locs) (ls : Array Slot) (hl : lv_has ls 3 [(2, .int (nI k)), (0, .ref (ad 2)), (1, .ref (adK w))]), W p l e { frames := 4, cells := 0, slots := 0, locals := 85 } s m args below meth c H locs 0 0 (MQ below (QD D 158 ad (cxf ca ad) (fun v_ S_ T_ => some (.int (b2i (isWd σ w))) = v_ ∧ σ = S_ ∧ τ = T_)) args s 0 0 (AA 158 ad)) (F0 m 28 ls []) := by
  intro n
  induction n with
  | zero => intro k hk hn hk1 hk2 hall H locs hP hS ls hl; exfalso; omega
  | succ n ih =>
    intro k hk hn hk1 hk2 hall H locs hP hS ls hl
    have hl31 := lenJ_lt w hw
    have ek : (nI k).toInt = k := nI_toInt (by omega)
    have eL : (nI (lenJ.getD w 0)).toInt = (lenJ.getD w 0 : Nat) := nI_toInt hl31
    refine lv_iload_n hx hb dX6_isWord_28 rfl (lv_at hl 0 rfl) ?_
    refine lv_aload_n hx hb dX6_isWord_29 rfl (lv_at hl 2 rfl) ?_
    refine callxV (y := yJ0_length_8abf5) ⟨hx, hb, hml, hown, ht⟩ hE hS (i := w) hw (c_J_length l adK adV _ hw) ok_J_length gw_423 ⟨by decide, by decide⟩ rfl hl.1 rfl (Nat.le_of_ble_eq_true rfl) ⟨by decide, by decide⟩ dX6_isWord_30 ?_
    try dsimp only [Option.toList, List.cons_append, List.nil_append]
    refine lv_icmp_ge (tgt := 62) hx hb dX6_isWord_33 (by decide) (fun c1 => ?_) (fun c1 => ?_)
    · have dc1 := c1
      rw [i_le] at dc1
      refine lv_iconst (v := 1) hx hb dX6_isWord_62 (by decide) ?_
      exact ret_z hx hb hr hlk hP hS dX6_isWord_63 (b := true) rfl (⟨by simp only [isWd, hk1, hk2, ↓reduceIte]; rw [allS_t (fun j hj => hall j (by omega))], rfl, rfl⟩)
    · have dc1 := c1
      rw [i_le] at dc1
      refine lv_aload_n hx hb dX6_isWord_36 rfl (lv_at hl 1 rfl) ?_
      refine lv_aload_n hx hb dX6_isWord_37 rfl (lv_at hl 1 rfl) ?_
      refine fgetx hx hb ht inG6 hown hK hP (k := 2) (by decide) (x := (σ 2)) rfl (sh_tape _ _) rfl 2 (by decide) gw_101 (v := .int ((σ 2) 2)) rfl dX6_isWord_38 ?_
      refine lv_iload_n hx hb dX6_isWord_41 rfl (lv_at hl 0 rfl) ?_
      refine lv_iadd hx hb dX6_isWord_42 ?_
      refine callv (y := yX6_byteAt) ⟨hx, hb, hml, hown, ht⟩ hK hN hP hS (k := 2) (c_X6_byteAt l D ca ad hI σ τ (((σ 2) 2) + (nI k))) (by decide) (sh_tape _ _) rfl ok_X6_byteAt gw_396 ⟨by decide, by decide⟩ rfl hl.1 rfl (Nat.le_of_ble_eq_true rfl) ⟨by decide, by decide⟩ dX6_isWord_43 (fun v_ S_ T_ H locs hp2 hP hS => ?_)
      obtain ⟨rfl, rfl, rfl⟩ := hp2
      try dsimp only [Option.toList, List.cons_append, List.nil_append]
      refine lv_aload_n hx hb dX6_isWord_46 rfl (lv_at hl 2 rfl) ?_
      refine lv_iload_n hx hb dX6_isWord_47 rfl (lv_at hl 0 rfl) ?_
      refine callxV (y := yJ0_charAt_5068e) ⟨hx, hb, hml, hown, ht⟩ hE hS (i := w) hw (c_J_charAt l adK adV _ hw (k := k) (by omega)) ok_J_charAt gw_433 ⟨by decide, by decide⟩ rfl hl.1 rfl (Nat.le_of_ble_eq_true rfl) ⟨by decide, by decide⟩ dX6_isWord_48 ?_
      try dsimp only [Option.toList, List.cons_append, List.nil_append]
      refine lv_icmp_eq (tgt := 56) hx hb dX6_isWord_51 (by decide) (fun c3 => ?_) (fun c3 => ?_)
      · have dc3 := c3
        rw [i_eq] at dc3
        refine lv_iinc (v := (nI k) + 1) (lv' := [(2, .int ((nI k) + 1)), (0, .ref (ad 2)), (1, .ref (adK w))]) hx hb dX6_isWord_56 hl (k := 0) rfl rfl (by decide) rfl (fun ls hl => ?_)
        refine lv_goto (tgt := 28) hx hb dX6_isWord_59 (by decide) ?_
        rw [nI_1] at hl
        exact ih (k + 1) (by omega) (by omega) hk1 hk2 (fun j hj => by rcases (by omega : j < k ∨ j = k) with q | q; exact hall j q; rw [q]; exact decide_eq_true c3) _ _ hP hS ls (lv_sub hl [0, 1, 2] rfl)
      · have dc3 := c3
        rw [i_eq] at dc3
        refine lv_iconst (v := 0) hx hb dX6_isWord_54 (by decide) ?_
        exact ret_z hx hb hr hlk hP hS dX6_isWord_55 (b := false) rfl (⟨by simp only [isWd, hk1, hk2, ↓reduceIte]; rw [allS_f (k := k) (by omega) (decide_eq_false c3)], rfl, rfl⟩)
set_option maxHeartbeats 4000000 in
set_option maxRecDepth 100000 in
theorem c_X6_isWord (l : Launch) (D : va_G) (ca : Nat → ClassId) (ad : Nat → Nat) (hI : Inj 158 ad) (adK adV : Nat → Nat) (σ : MI) (τ : ML) {w : Nat} (hw : w < 7) : CY l D (TY ca) 158 ad (cxf ca ad) adK adV yX6_isWord cX6_isWord 3 (some .boolean) 4 85 [.ref (ad 2), .ref (adK w)] σ τ (fun v_ S_ T_ => some (.int (b2i (isWd σ w))) = v_ ∧ σ = S_ ∧ τ = T_) := by
  refine CY.of (by decide) (Nat.le_of_ble_eq_true rfl) ?_
  intro p e s m args below meth c hx hb hr ht hown hlk hml hP hK hN hS ls hl hE
  have hl : lv_has ls 3 [(0, .ref (ad 2)), (1, .ref (adK w))] := hl
  refine lv_aload_n hx hb dX6_isWord_0 rfl (lv_at hl 0 rfl) ?_
  refine fgetx hx hb ht inG6 hown hK hP (k := 2) (by decide) (x := (σ 2)) rfl (sh_tape _ _) rfl 4 (by decide) gw_105 (v := .int ((σ 2) 4)) rfl dX6_isWord_1 ?_
  refine lv_iconst (v := 1) hx hb dX6_isWord_4 (by decide) ?_
  refine lv_icmp_ne (tgt := 24) hx hb dX6_isWord_5 (by decide) (fun c1 => ?_) (fun c1 => ?_)
  · have dc1 := c1
    rw [i_eq] at dc1
    refine lv_iconst (v := 0) hx hb dX6_isWord_24 (by decide) ?_
    exact ret_z hx hb hr hlk hP hS dX6_isWord_25 (b := false) rfl (⟨by first | with_reducible rfl | (simp only [isWd, c1, ↓reduceIte, Bool.false_eq_true]; done) | (simp only [isWd, c1, ↓reduceIte, Bool.false_eq_true]; rfl) | rfl, by first | with_reducible rfl | (simp only [isWd, c1, ↓reduceIte, Bool.false_eq_true]; done) | (simp only [isWd, c1, ↓reduceIte, Bool.false_eq_true]; rfl) | rfl, rfl⟩)
  · have dc1 := c1
    rw [i_eq] at dc1
    refine lv_aload_n hx hb dX6_isWord_8 rfl (lv_at hl 0 rfl) ?_
    refine fgetx hx hb ht inG6 hown hK hP (k := 2) (by decide) (x := (σ 2)) rfl (sh_tape _ _) rfl 3 (by decide) gw_102 (v := .int ((σ 2) 3)) rfl dX6_isWord_9 ?_
    refine lv_aload_n hx hb dX6_isWord_12 rfl (lv_at hl 0 rfl) ?_
    refine fgetx hx hb ht inG6 hown hK hP (k := 2) (by decide) (x := (σ 2)) rfl (sh_tape _ _) rfl 2 (by decide) gw_101 (v := .int ((σ 2) 2)) rfl dX6_isWord_13 ?_
    refine lv_isub hx hb dX6_isWord_16 ?_
    refine lv_aload_n hx hb dX6_isWord_17 rfl (lv_at hl 1 rfl) ?_
    refine callxV (y := yJ0_length_8abf5) ⟨hx, hb, hml, hown, ht⟩ hE hS (i := w) hw (c_J_length l adK adV _ hw) ok_J_length gw_423 ⟨by decide, by decide⟩ rfl hl.1 rfl (Nat.le_of_ble_eq_true rfl) ⟨by decide, by decide⟩ dX6_isWord_18 ?_
    try dsimp only [Option.toList, List.cons_append, List.nil_append]
    refine lv_icmp_eq (tgt := 26) hx hb dX6_isWord_21 (by decide) (fun c2 => ?_) (fun c2 => ?_)
    · have dc2 := c2
      rw [i_eq] at dc2
      refine lv_iconst (v := 0) hx hb dX6_isWord_26 (by decide) ?_
      refine lv_istore_n (lv' := [(2, .int 0), (0, .ref (ad 2)), (1, .ref (adK w))]) hx hb dX6_isWord_27 rfl hl (by decide) rfl (fun ls hl => ?_)
      exact lp_X6_word hI hw hx hb hr ht hown hlk hml hK hN hE (lenJ.getD w 0 + 1) 0 (by omega) (by omega) c1 c2 (fun j hj => by omega) _ _ hP hS ls hl
    · have dc2 := c2
      rw [i_eq] at dc2
      refine lv_iconst (v := 0) hx hb dX6_isWord_24 (by decide) ?_
      exact ret_z hx hb hr hlk hP hS dX6_isWord_25 (b := false) rfl (⟨by first | with_reducible rfl | (simp only [isWd, c1, c2, ↓reduceIte, Bool.false_eq_true]; done) | (simp only [isWd, c1, c2, ↓reduceIte, Bool.false_eq_true]; rfl) | rfl, by first | with_reducible rfl | (simp only [isWd, c1, c2, ↓reduceIte, Bool.false_eq_true]; done) | (simp only [isWd, c1, c2, ↓reduceIte, Bool.false_eq_true]; rfl) | rfl, rfl⟩)
set_option maxHeartbeats 4000000 in
set_option maxRecDepth 100000 in
theorem c_X7_refuse (l : Launch) (D : va_G) (ca : Nat → ClassId) (ad : Nat → Nat) (hI : Inj 158 ad) (σ : MI) (τ : ML) (x : Int32) : CT l D (TY ca) 158 ad (cxf ca ad) yX7_refuse cX7_refuse 2 (some .boolean) 0 0 [.ref (ad 1), .int x] σ τ (fun v_ S_ T_ => some (.int (b2i (false))) = v_ ∧ (s2 σ 1 5 x) = S_ ∧ τ = T_) := by
  refine CT.of (by decide) (Nat.le_of_ble_eq_true rfl) ?_
  intro p e s m args below meth c hx hb hr ht hown hlk hml hP hK hN hS ls hl
  have hl : lv_has ls 2 [(0, .ref (ad 1)), (1, .int x)] := hl
  refine lv_aload_n hx hb dX7_refuse_0 rfl (lv_at hl 0 rfl) ?_
  refine lv_iload_n hx hb dX7_refuse_1 rfl (lv_at hl 1 rfl) ?_
  refine fputx (ref := "") (w := x) hx hb ht inG7 tyX7 tyX7_ok nmX7 hown hK hP hI hS (k := 1) (by decide) (sh_read _ _) rfl 5 (by decide) gw_241 rfl rfl rfl (Nat.le_of_ble_eq_true rfl) (sh_read _ _) dX7_refuse_2 (fun H locs hP hS => ?_)
  refine lv_iconst (v := 0) hx hb dX7_refuse_5 (by decide) ?_
  exact ret_z hx hb hr hlk hP hS dX7_refuse_6 (b := false) rfl (⟨by first | with_reducible rfl | (simp only [↓reduceIte, Bool.false_eq_true]; done) | (simp only [↓reduceIte, Bool.false_eq_true]; rfl) | rfl, by first | with_reducible rfl | (simp only [↓reduceIte, Bool.false_eq_true]; done) | (simp only [↓reduceIte, Bool.false_eq_true]; rfl) | rfl, rfl⟩)
set_option maxHeartbeats 4000000 in
set_option maxRecDepth 100000 in
theorem c_X7_readSign (l : Launch) (D : va_G) (ca : Nat → ClassId) (ad : Nat → Nat) (hI : Inj 158 ad) (σ : MI) (τ : ML) (x : Int32) : CT l D (TY ca) 158 ad (cxf ca ad) yX7_readSign cX7_readSign 2 (some .boolean) 3 69 [.ref (ad 1), .int x] σ τ (fun v_ S_ T_ => some (.int (b2i (sigS σ x))) = v_ ∧ (rsM σ x) = S_ ∧ τ = T_) := by
  refine CT.of (by decide) (Nat.le_of_ble_eq_true rfl) ?_
  intro p e s m args below meth c hx hb hr ht hown hlk hml hP hK hN hS ls hl
  have hl : lv_has ls 2 [(0, .ref (ad 1)), (1, .int x)] := hl
  refine lv_aload_n hx hb dX7_readSign_0 rfl (lv_at hl 0 rfl) ?_
  refine fgetx hx hb ht inG7 hown hK hP (k := 1) (by decide) (x := (σ 1)) rfl (sh_read _ _) rfl 0 (by decide) gw_235 (v := .ref (ad 2)) rfl dX7_readSign_1 ?_
  refine lv_iload_n hx hb dX7_readSign_4 rfl (lv_at hl 1 rfl) ?_
  refine callv (y := yX6_isSign) ⟨hx, hb, hml, hown, ht⟩ hK hN hP hS (k := 2) (c_X6_isSign l D ca ad hI σ τ x) (by decide) (sh_tape _ _) rfl ok_X6_isSign gw_497 ⟨by decide, by decide⟩ rfl hl.1 rfl (Nat.le_of_ble_eq_true rfl) ⟨by decide, by decide⟩ dX7_readSign_5 (fun v_ S_ T_ H locs hp1 hP hS => ?_)
  obtain ⟨rfl, rfl, rfl⟩ := hp1
  try dsimp only [Option.toList, List.cons_append, List.nil_append]
  refine br_ne (tgt := 17) hx hb dX7_readSign_8 (by decide) (fun c2 => ?_) (fun c2 => ?_)
  · refine lv_aload_n hx hb dX7_readSign_17 rfl (lv_at hl 0 rfl) ?_
    refine fgetx hx hb ht inG7 hown hK hP (k := 1) (by decide) (x := (σ 1)) rfl (sh_read _ _) rfl 0 (by decide) gw_235 (v := .ref (ad 2)) rfl dX7_readSign_18 ?_
    refine callv (y := yX6_advance) ⟨hx, hb, hml, hown, ht⟩ hK hN hP hS (k := 2) (c_X6_advance l D ca ad hI σ τ ) (by decide) (sh_tape _ _) rfl ok_X6_advance gw_475 ⟨by decide, by decide⟩ rfl hl.1 rfl (Nat.le_of_ble_eq_true rfl) ⟨by decide, by decide⟩ dX7_readSign_21 (fun v_ S_ T_ H locs hp3 hP hS => ?_)
    obtain ⟨rfl, rfl, rfl⟩ := hp3
    try dsimp only [Option.toList, List.cons_append, List.nil_append]
    refine lv_iconst (v := 1) hx hb dX7_readSign_24 (by decide) ?_
    exact ret_z hx hb hr hlk hP hS dX7_readSign_25 (b := true) rfl (⟨by first | with_reducible rfl | (simp only [rsM, c2, ↓reduceIte, Bool.false_eq_true]; done) | (simp only [rsM, c2, ↓reduceIte, Bool.false_eq_true]; rfl) | rfl, by first | with_reducible rfl | (simp only [rsM, c2, ↓reduceIte, Bool.false_eq_true]; done) | (simp only [rsM, c2, ↓reduceIte, Bool.false_eq_true]; rfl) | rfl, rfl⟩)
  · refine lv_aload_n hx hb dX7_readSign_11 rfl (lv_at hl 0 rfl) ?_
    refine lv_iconst (v := 1) hx hb dX7_readSign_12 (by decide) ?_
    refine callv (y := yX7_refuse) ⟨hx, hb, hml, hown, ht⟩ hK hN hP hS (k := 1) (c_X7_refuse l D ca ad hI σ τ (1 : Int32)) (by decide) (sh_read _ _) rfl ok_X7_refuse gw_471 ⟨by decide, by decide⟩ rfl hl.1 rfl (Nat.le_of_ble_eq_true rfl) ⟨by decide, by decide⟩ dX7_readSign_13 (fun v_ S_ T_ H locs hp4 hP hS => ?_)
    obtain ⟨rfl, rfl, rfl⟩ := hp4
    try dsimp only [Option.toList, List.cons_append, List.nil_append]
    exact ret_z hx hb hr hlk hP hS dX7_readSign_16 (b := false) rfl (⟨by first | with_reducible rfl | (simp only [rsM, c2, ↓reduceIte, Bool.false_eq_true]; done) | (simp only [rsM, c2, ↓reduceIte, Bool.false_eq_true]; rfl) | rfl, by first | with_reducible rfl | (simp only [rsM, c2, ↓reduceIte, Bool.false_eq_true]; done) | (simp only [rsM, c2, ↓reduceIte, Bool.false_eq_true]; rfl) | rfl, rfl⟩)
set_option maxHeartbeats 4000000 in
set_option maxRecDepth 100000 in
theorem c_X7_readWord (l : Launch) (D : va_G) (ca : Nat → ClassId) (ad : Nat → Nat) (hI : Inj 158 ad) (adK adV : Nat → Nat) (σ : MI) (τ : ML) {w : Nat} (hw : w < 7) : CY l D (TY ca) 158 ad (cxf ca ad) adK adV yX7_readWord cX7_readWord 2 (some .boolean) 5 107 [.ref (ad 1), .ref (adK w)] σ τ (fun v_ S_ T_ => some (.int (b2i (isWd σ w))) = v_ ∧ (rwM σ w) = S_ ∧ τ = T_) := by
  refine CY.of (by decide) (Nat.le_of_ble_eq_true rfl) ?_
  intro p e s m args below meth c hx hb hr ht hown hlk hml hP hK hN hS ls hl hE
  have hl : lv_has ls 2 [(0, .ref (ad 1)), (1, .ref (adK w))] := hl
  refine lv_aload_n hx hb dX7_readWord_0 rfl (lv_at hl 0 rfl) ?_
  refine fgetx hx hb ht inG7 hown hK hP (k := 1) (by decide) (x := (σ 1)) rfl (sh_read _ _) rfl 0 (by decide) gw_235 (v := .ref (ad 2)) rfl dX7_readWord_1 ?_
  refine lv_aload_n hx hb dX7_readWord_4 rfl (lv_at hl 1 rfl) ?_
  refine callvY (y := yX6_isWord) ⟨hx, hb, hml, hown, ht⟩ hK hN hE hP hS (k := 2) (c_X6_isWord l D ca ad hI adK adV σ τ hw) (by decide) (sh_tape _ _) rfl ok_X6_isWord gw_419 ⟨by decide, by decide⟩ rfl hl.1 rfl (Nat.le_of_ble_eq_true rfl) ⟨by decide, by decide⟩ dX7_readWord_5 (fun v_ S_ T_ H locs hp1 hP hS => ?_)
  obtain ⟨rfl, rfl, rfl⟩ := hp1
  try dsimp only [Option.toList, List.cons_append, List.nil_append]
  refine br_ne (tgt := 17) hx hb dX7_readWord_8 (by decide) (fun c2 => ?_) (fun c2 => ?_)
  · refine lv_aload_n hx hb dX7_readWord_17 rfl (lv_at hl 0 rfl) ?_
    refine fgetx hx hb ht inG7 hown hK hP (k := 1) (by decide) (x := (σ 1)) rfl (sh_read _ _) rfl 0 (by decide) gw_235 (v := .ref (ad 2)) rfl dX7_readWord_18 ?_
    refine callv (y := yX6_advance) ⟨hx, hb, hml, hown, ht⟩ hK hN hP hS (k := 2) (c_X6_advance l D ca ad hI σ τ ) (by decide) (sh_tape _ _) rfl ok_X6_advance gw_475 ⟨by decide, by decide⟩ rfl hl.1 rfl (Nat.le_of_ble_eq_true rfl) ⟨by decide, by decide⟩ dX7_readWord_21 (fun v_ S_ T_ H locs hp3 hP hS => ?_)
    obtain ⟨rfl, rfl, rfl⟩ := hp3
    try dsimp only [Option.toList, List.cons_append, List.nil_append]
    refine lv_iconst (v := 1) hx hb dX7_readWord_24 (by decide) ?_
    exact ret_z hx hb hr hlk hP hS dX7_readWord_25 (b := true) rfl (⟨by first | with_reducible rfl | (simp only [rwM, c2, ↓reduceIte, Bool.false_eq_true]; done) | (simp only [rwM, c2, ↓reduceIte, Bool.false_eq_true]; rfl) | rfl, by first | with_reducible rfl | (simp only [rwM, c2, ↓reduceIte, Bool.false_eq_true]; done) | (simp only [rwM, c2, ↓reduceIte, Bool.false_eq_true]; rfl) | rfl, rfl⟩)
  · refine lv_aload_n hx hb dX7_readWord_11 rfl (lv_at hl 0 rfl) ?_
    refine lv_iconst (v := 1) hx hb dX7_readWord_12 (by decide) ?_
    refine callv (y := yX7_refuse) ⟨hx, hb, hml, hown, ht⟩ hK hN hP hS (k := 1) (c_X7_refuse l D ca ad hI σ τ (1 : Int32)) (by decide) (sh_read _ _) rfl ok_X7_refuse gw_471 ⟨by decide, by decide⟩ rfl hl.1 rfl (Nat.le_of_ble_eq_true rfl) ⟨by decide, by decide⟩ dX7_readWord_13 (fun v_ S_ T_ H locs hp4 hP hS => ?_)
    obtain ⟨rfl, rfl, rfl⟩ := hp4
    try dsimp only [Option.toList, List.cons_append, List.nil_append]
    exact ret_z hx hb hr hlk hP hS dX7_readWord_16 (b := false) rfl (⟨by first | with_reducible rfl | (simp only [rwM, c2, ↓reduceIte, Bool.false_eq_true]; done) | (simp only [rwM, c2, ↓reduceIte, Bool.false_eq_true]; rfl) | rfl, by first | with_reducible rfl | (simp only [rwM, c2, ↓reduceIte, Bool.false_eq_true]; done) | (simp only [rwM, c2, ↓reduceIte, Bool.false_eq_true]; rfl) | rfl, rfl⟩)
set_option maxHeartbeats 4000000 in
set_option maxRecDepth 100000 in
theorem c_X7_isNumber (l : Launch) (D : va_G) (ca : Nat → ClassId) (ad : Nat → Nat) (hI : Inj 158 ad) (σ : MI) (τ : ML) (a z : Int32) : CT l D (TY ca) 158 ad (cxf ca ad) yX7_isNumber cX7_isNumber 3 (some .boolean) 1 21 [.ref (ad 1), .int a, .int z] σ τ (fun v_ S_ T_ => some (.int (b2i (inB σ a z))) = v_ ∧ (inM σ a z) = S_ ∧ τ = T_) := by
  refine CT.of (by decide) (Nat.le_of_ble_eq_true rfl) ?_
  intro p e s m args below meth c hx hb hr ht hown hlk hml hP hK hN hS ls hl
  have hl : lv_has ls 3 [(0, .ref (ad 1)), (1, .int a), (2, .int z)] := hl
  refine lv_aload_n hx hb dX7_isNumber_0 rfl (lv_at hl 0 rfl) ?_
  refine fgetx hx hb ht inG7 hown hK hP (k := 1) (by decide) (x := (σ 1)) rfl (sh_read _ _) rfl 0 (by decide) gw_235 (v := .ref (ad 2)) rfl dX7_isNumber_1 ?_
  refine fgetxN hx hb ht inG6 hown hK hP (k := 2) (by decide) (x := (σ 2)) rfl (sh_tape _ _) rfl 4 (by decide) (hN.get 104 nw_104 rfl) (v := .int ((σ 2) 4)) rfl dX7_isNumber_4 ?_
  refine lv_iconst (v := 2) hx hb dX7_isNumber_7 (by decide) ?_
  refine lv_icmp_eq (tgt := 17) hx hb dX7_isNumber_8 (by decide) (fun c1 => ?_) (fun c1 => ?_)
  · have dc1 := c1
    rw [i_eq] at dc1
    refine lv_aload_n hx hb dX7_isNumber_17 rfl (lv_at hl 0 rfl) ?_
    refine fgetx hx hb ht inG7 hown hK hP (k := 1) (by decide) (x := (σ 1)) rfl (sh_read _ _) rfl 0 (by decide) gw_235 (v := .ref (ad 2)) rfl dX7_isNumber_18 ?_
    refine fgetxN hx hb ht inG6 hown hK hP (k := 2) (by decide) (x := (σ 2)) rfl (sh_tape _ _) rfl 5 (by decide) (hN.get 107 nw_107 rfl) (v := .int ((σ 2) 5)) rfl dX7_isNumber_21 ?_
    refine lv_iload_n hx hb dX7_isNumber_24 rfl (lv_at hl 1 rfl) ?_
    refine lv_icmp_lt (tgt := 39) hx hb dX7_isNumber_25 (by decide) (fun c2 => ?_) (fun c2 => ?_)
    · have dc2 := c2
      rw [i_lt] at dc2
      refine lv_aload_n hx hb dX7_isNumber_39 rfl (lv_at hl 0 rfl) ?_
      refine lv_iconst (v := 2) hx hb dX7_isNumber_40 (by decide) ?_
      refine callv (y := yX7_refuse) ⟨hx, hb, hml, hown, ht⟩ hK hN hP hS (k := 1) (c_X7_refuse l D ca ad hI σ τ (2 : Int32)) (by decide) (sh_read _ _) rfl ok_X7_refuse gw_471 ⟨by decide, by decide⟩ rfl hl.1 rfl (Nat.le_of_ble_eq_true rfl) ⟨by decide, by decide⟩ dX7_isNumber_41 (fun v_ S_ T_ H locs hp3 hP hS => ?_)
      obtain ⟨rfl, rfl, rfl⟩ := hp3
      try dsimp only [Option.toList, List.cons_append, List.nil_append]
      exact ret_z hx hb hr hlk hP hS dX7_isNumber_44 (b := false) rfl (⟨by first | with_reducible rfl | (simp only [inB, inM, c1, c2, ↓reduceIte, Bool.false_eq_true]; done) | (simp only [inB, inM, c1, c2, ↓reduceIte, Bool.false_eq_true]; rfl) | rfl, by first | with_reducible rfl | (simp only [inB, inM, c1, c2, ↓reduceIte, Bool.false_eq_true]; done) | (simp only [inB, inM, c1, c2, ↓reduceIte, Bool.false_eq_true]; rfl) | rfl, rfl⟩)
    · have dc2 := c2
      rw [i_lt] at dc2
      refine lv_aload_n hx hb dX7_isNumber_28 rfl (lv_at hl 0 rfl) ?_
      refine fgetx hx hb ht inG7 hown hK hP (k := 1) (by decide) (x := (σ 1)) rfl (sh_read _ _) rfl 0 (by decide) gw_235 (v := .ref (ad 2)) rfl dX7_isNumber_29 ?_
      refine fgetxN hx hb ht inG6 hown hK hP (k := 2) (by decide) (x := (σ 2)) rfl (sh_tape _ _) rfl 5 (by decide) (hN.get 107 nw_107 rfl) (v := .int ((σ 2) 5)) rfl dX7_isNumber_32 ?_
      refine lv_iload_n hx hb dX7_isNumber_35 rfl (lv_at hl 2 rfl) ?_
      refine lv_icmp_le (tgt := 45) hx hb dX7_isNumber_36 (by decide) (fun c4 => ?_) (fun c4 => ?_)
      · have dc4 := c4
        rw [i_le] at dc4
        refine lv_iconst (v := 1) hx hb dX7_isNumber_45 (by decide) ?_
        exact ret_z hx hb hr hlk hP hS dX7_isNumber_46 (b := true) rfl (⟨by first | with_reducible rfl | (simp only [inB, inM, c1, c2, c4, ↓reduceIte, Bool.false_eq_true]; done) | (simp only [inB, inM, c1, c2, c4, ↓reduceIte, Bool.false_eq_true]; rfl) | rfl, by first | with_reducible rfl | (simp only [inB, inM, c1, c2, c4, ↓reduceIte, Bool.false_eq_true]; done) | (simp only [inB, inM, c1, c2, c4, ↓reduceIte, Bool.false_eq_true]; rfl) | rfl, rfl⟩)
      · have dc4 := c4
        rw [i_le] at dc4
        refine lv_aload_n hx hb dX7_isNumber_39 rfl (lv_at hl 0 rfl) ?_
        refine lv_iconst (v := 2) hx hb dX7_isNumber_40 (by decide) ?_
        refine callv (y := yX7_refuse) ⟨hx, hb, hml, hown, ht⟩ hK hN hP hS (k := 1) (c_X7_refuse l D ca ad hI σ τ (2 : Int32)) (by decide) (sh_read _ _) rfl ok_X7_refuse gw_471 ⟨by decide, by decide⟩ rfl hl.1 rfl (Nat.le_of_ble_eq_true rfl) ⟨by decide, by decide⟩ dX7_isNumber_41 (fun v_ S_ T_ H locs hp5 hP hS => ?_)
        obtain ⟨rfl, rfl, rfl⟩ := hp5
        try dsimp only [Option.toList, List.cons_append, List.nil_append]
        exact ret_z hx hb hr hlk hP hS dX7_isNumber_44 (b := false) rfl (⟨by first | with_reducible rfl | (simp only [inB, inM, c1, c2, c4, ↓reduceIte, Bool.false_eq_true]; done) | (simp only [inB, inM, c1, c2, c4, ↓reduceIte, Bool.false_eq_true]; rfl) | rfl, by first | with_reducible rfl | (simp only [inB, inM, c1, c2, c4, ↓reduceIte, Bool.false_eq_true]; done) | (simp only [inB, inM, c1, c2, c4, ↓reduceIte, Bool.false_eq_true]; rfl) | rfl, rfl⟩)
  · have dc1 := c1
    rw [i_eq] at dc1
    refine lv_aload_n hx hb dX7_isNumber_11 rfl (lv_at hl 0 rfl) ?_
    refine lv_iconst (v := 1) hx hb dX7_isNumber_12 (by decide) ?_
    refine callv (y := yX7_refuse) ⟨hx, hb, hml, hown, ht⟩ hK hN hP hS (k := 1) (c_X7_refuse l D ca ad hI σ τ (1 : Int32)) (by decide) (sh_read _ _) rfl ok_X7_refuse gw_471 ⟨by decide, by decide⟩ rfl hl.1 rfl (Nat.le_of_ble_eq_true rfl) ⟨by decide, by decide⟩ dX7_isNumber_13 (fun v_ S_ T_ H locs hp6 hP hS => ?_)
    obtain ⟨rfl, rfl, rfl⟩ := hp6
    try dsimp only [Option.toList, List.cons_append, List.nil_append]
    exact ret_z hx hb hr hlk hP hS dX7_isNumber_16 (b := false) rfl (⟨by first | with_reducible rfl | (simp only [inB, inM, c1, ↓reduceIte, Bool.false_eq_true]; done) | (simp only [inB, inM, c1, ↓reduceIte, Bool.false_eq_true]; rfl) | rfl, by first | with_reducible rfl | (simp only [inB, inM, c1, ↓reduceIte, Bool.false_eq_true]; done) | (simp only [inB, inM, c1, ↓reduceIte, Bool.false_eq_true]; rfl) | rfl, rfl⟩)
set_option maxHeartbeats 4000000 in
set_option maxRecDepth 100000 in
theorem c_X7_readNumber (l : Launch) (D : va_G) (ca : Nat → ClassId) (ad : Nat → Nat) (hI : Inj 158 ad) (σ : MI) (τ : ML) (a z : Int32) : CT l D (TY ca) 158 ad (cxf ca ad) yX7_readNumber cX7_readNumber 3 (some .boolean) 3 69 [.ref (ad 1), .int a, .int z] σ τ (fun v_ S_ T_ => some (.int (b2i (inB σ a z))) = v_ ∧ (rnM σ a z) = S_ ∧ τ = T_) := by
  refine CT.of (by decide) (Nat.le_of_ble_eq_true rfl) ?_
  intro p e s m args below meth c hx hb hr ht hown hlk hml hP hK hN hS ls hl
  have hl : lv_has ls 3 [(0, .ref (ad 1)), (1, .int a), (2, .int z)] := hl
  refine lv_aload_n hx hb dX7_readNumber_0 rfl (lv_at hl 0 rfl) ?_
  refine lv_iload_n hx hb dX7_readNumber_1 rfl (lv_at hl 1 rfl) ?_
  refine lv_iload_n hx hb dX7_readNumber_2 rfl (lv_at hl 2 rfl) ?_
  refine callv (y := yX7_isNumber) ⟨hx, hb, hml, hown, ht⟩ hK hN hP hS (k := 1) (c_X7_isNumber l D ca ad hI σ τ a z) (by decide) (sh_read _ _) rfl ok_X7_isNumber gw_480 ⟨by decide, by decide⟩ rfl hl.1 rfl (Nat.le_of_ble_eq_true rfl) ⟨by decide, by decide⟩ dX7_readNumber_3 (fun v_ S_ T_ H locs hp1 hP hS => ?_)
  obtain ⟨rfl, rfl, rfl⟩ := hp1
  try dsimp only [Option.toList, List.cons_append, List.nil_append]
  refine br_ne (tgt := 11) hx hb dX7_readNumber_6 (by decide) (fun c2 => ?_) (fun c2 => ?_)
  · have hM : inM σ a z = σ := inM_t c2
    rw [hM] at hP
    refine lv_aload_n hx hb dX7_readNumber_11 rfl (lv_at hl 0 rfl) ?_
    refine lv_aload_n hx hb dX7_readNumber_12 rfl (lv_at hl 0 rfl) ?_
    refine fgetx hx hb ht inG7 hown hK hP (k := 1) (by decide) (x := (σ 1)) rfl (sh_read _ _) rfl 0 (by decide) gw_235 (v := .ref (ad 2)) rfl dX7_readNumber_13 ?_
    refine fgetxN hx hb ht inG6 hown hK hP (k := 2) (by decide) (x := (σ 2)) rfl (sh_tape _ _) rfl 5 (by decide) (hN.get 107 nw_107 rfl) (v := .int ((σ 2) 5)) rfl dX7_readNumber_16 ?_
    refine fputx (ref := "") (w := (σ 2) 5) hx hb ht inG7 tyX7 tyX7_ok nmX7 hown hK hP hI hS (k := 1) (by decide) (sh_read _ _) rfl 4 (by decide) gw_240 rfl rfl rfl (Nat.le_of_ble_eq_true rfl) (sh_read _ _) dX7_readNumber_19 (fun H locs hP hS => ?_)
    refine lv_aload_n hx hb dX7_readNumber_22 rfl (lv_at hl 0 rfl) ?_
    refine fgetx hx hb ht inG7 hown hK hP (k := 1) (by decide) (x := (upd (σ 1) 4 ((σ 2) 5))) (s2_k _ _ _ _) (sh_read _ _) rfl 0 (by decide) gw_235 (v := .ref (ad 2)) rfl dX7_readNumber_23 ?_
    refine callv (y := yX6_advance) ⟨hx, hb, hml, hown, ht⟩ hK hN hP hS (k := 2) (c_X6_advance l D ca ad hI (s2 σ 1 4 ((σ 2) 5)) τ ) (by decide) (sh_tape _ _) rfl ok_X6_advance gw_475 ⟨by decide, by decide⟩ rfl hl.1 rfl (Nat.le_of_ble_eq_true rfl) ⟨by decide, by decide⟩ dX7_readNumber_26 (fun v_ S_ T_ H locs hp3 hP hS => ?_)
    obtain ⟨rfl, rfl, rfl⟩ := hp3
    try dsimp only [Option.toList, List.cons_append, List.nil_append]
    refine lv_iconst (v := 1) hx hb dX7_readNumber_29 (by decide) ?_
    exact ret_z hx hb hr hlk hP hS dX7_readNumber_30 (b := true) rfl (⟨by first | with_reducible rfl | (simp only [rnM, c2, ↓reduceIte, Bool.false_eq_true]; done) | (simp only [rnM, c2, ↓reduceIte, Bool.false_eq_true]; rfl) | rfl, by first | with_reducible rfl | (simp only [rnM, c2, ↓reduceIte, Bool.false_eq_true]; done) | (simp only [rnM, c2, ↓reduceIte, Bool.false_eq_true]; rfl) | rfl, rfl⟩)
  · refine lv_iconst (v := 0) hx hb dX7_readNumber_9 (by decide) ?_
    exact ret_z hx hb hr hlk hP hS dX7_readNumber_10 (b := false) rfl (⟨by first | with_reducible rfl | (simp only [rnM, c2, ↓reduceIte, Bool.false_eq_true]; done) | (simp only [rnM, c2, ↓reduceIte, Bool.false_eq_true]; rfl) | rfl, by first | with_reducible rfl | (simp only [rnM, c2, ↓reduceIte, Bool.false_eq_true]; done) | (simp only [rnM, c2, ↓reduceIte, Bool.false_eq_true]; rfl) | rfl, rfl⟩)
set_option maxHeartbeats 4000000 in
set_option maxRecDepth 100000 in
theorem c_X7_isName (l : Launch) (D : va_G) (ca : Nat → ClassId) (ad : Nat → Nat) (hI : Inj 158 ad) (adK adV : Nat → Nat) (σ : MI) (τ : ML)  : CY l D (TY ca) 158 ad (cxf ca ad) adK adV yX7_isName cX7_isName 1 (some .boolean) 5 107 [.ref (ad 1)] σ τ (fun v_ S_ T_ => some (.int (b2i (nmB' σ))) = v_ ∧ σ = S_ ∧ τ = T_) := by
  refine CY.of (by decide) (Nat.le_of_ble_eq_true rfl) ?_
  intro p e s m args below meth c hx hb hr ht hown hlk hml hP hK hN hS ls hl hE
  have hl : lv_has ls 1 [(0, .ref (ad 1))] := hl
  refine lv_aload_n hx hb dX7_isName_0 rfl (lv_at hl 0 rfl) ?_
  refine fgetx hx hb ht inG7 hown hK hP (k := 1) (by decide) (x := (σ 1)) rfl (sh_read _ _) rfl 0 (by decide) gw_235 (v := .ref (ad 2)) rfl dX7_isName_1 ?_
  refine fgetxN hx hb ht inG6 hown hK hP (k := 2) (by decide) (x := (σ 2)) rfl (sh_tape _ _) rfl 4 (by decide) (hN.get 104 nw_104 rfl) (v := .int ((σ 2) 4)) rfl dX7_isName_4 ?_
  refine lv_iconst (v := 1) hx hb dX7_isName_7 (by decide) ?_
  refine lv_icmp_ne (tgt := 99) hx hb dX7_isName_8 (by decide) (fun c1 => ?_) (fun c1 => ?_)
  · have dc1 := c1
    rw [i_eq] at dc1
    refine lv_iconst (v := 0) hx hb dX7_isName_99 (by decide) ?_
    exact ret_z hx hb hr hlk hP hS dX7_isName_100 (b := false) rfl (⟨by first | with_reducible rfl | (simp only [nmB', c1, ↓reduceIte, Bool.false_eq_true]; done) | (simp only [nmB', c1, ↓reduceIte, Bool.false_eq_true]; rfl) | rfl, by first | with_reducible rfl | (simp only [nmB', c1, ↓reduceIte, Bool.false_eq_true]; done) | (simp only [nmB', c1, ↓reduceIte, Bool.false_eq_true]; rfl) | rfl, rfl⟩)
  · have dc1 := c1
    rw [i_eq] at dc1
    refine lv_aload_n hx hb dX7_isName_11 rfl (lv_at hl 0 rfl) ?_
    refine fgetx hx hb ht inG7 hown hK hP (k := 1) (by decide) (x := (σ 1)) rfl (sh_read _ _) rfl 0 (by decide) gw_235 (v := .ref (ad 2)) rfl dX7_isName_12 ?_
    refine va_ldcS hx hb hown (hE.2.2.2 0 (by decide)) dX7_isName_15 ?_
    refine callvY (y := yX6_isWord) ⟨hx, hb, hml, hown, ht⟩ hK hN hE hP hS (k := 2) (c_X6_isWord l D ca ad hI adK adV σ τ (by decide)) (by decide) (sh_tape _ _) rfl ok_X6_isWord gw_419 ⟨by decide, by decide⟩ rfl hl.1 rfl (Nat.le_of_ble_eq_true rfl) ⟨by decide, by decide⟩ dX7_isName_17 (fun v_ S_ T_ H locs hp2 hP hS => ?_)
    obtain ⟨rfl, rfl, rfl⟩ := hp2
    try dsimp only [Option.toList, List.cons_append, List.nil_append]
    refine br_ne (tgt := 99) hx hb dX7_isName_20 (by decide) (fun c3 => ?_) (fun c3 => ?_)
    · refine lv_iconst (v := 0) hx hb dX7_isName_99 (by decide) ?_
      exact ret_z hx hb hr hlk hP hS dX7_isName_100 (b := false) rfl (⟨by first | with_reducible rfl | (simp only [nmB', c1, c3, ↓reduceIte, Bool.false_eq_true]; done) | (simp only [nmB', c1, c3, ↓reduceIte, Bool.false_eq_true]; rfl) | rfl, by first | with_reducible rfl | (simp only [nmB', c1, c3, ↓reduceIte, Bool.false_eq_true]; done) | (simp only [nmB', c1, c3, ↓reduceIte, Bool.false_eq_true]; rfl) | rfl, rfl⟩)
    · refine lv_aload_n hx hb dX7_isName_23 rfl (lv_at hl 0 rfl) ?_
      refine fgetx hx hb ht inG7 hown hK hP (k := 1) (by decide) (x := (σ 1)) rfl (sh_read _ _) rfl 0 (by decide) gw_235 (v := .ref (ad 2)) rfl dX7_isName_24 ?_
      refine va_ldcS hx hb hown (hE.2.2.2 1 (by decide)) dX7_isName_27 ?_
      refine callvY (y := yX6_isWord) ⟨hx, hb, hml, hown, ht⟩ hK hN hE hP hS (k := 2) (c_X6_isWord l D ca ad hI adK adV σ τ (by decide)) (by decide) (sh_tape _ _) rfl ok_X6_isWord gw_419 ⟨by decide, by decide⟩ rfl hl.1 rfl (Nat.le_of_ble_eq_true rfl) ⟨by decide, by decide⟩ dX7_isName_29 (fun v_ S_ T_ H locs hp4 hP hS => ?_)
      obtain ⟨rfl, rfl, rfl⟩ := hp4
      try dsimp only [Option.toList, List.cons_append, List.nil_append]
      refine br_ne (tgt := 99) hx hb dX7_isName_32 (by decide) (fun c5 => ?_) (fun c5 => ?_)
      · refine lv_iconst (v := 0) hx hb dX7_isName_99 (by decide) ?_
        exact ret_z hx hb hr hlk hP hS dX7_isName_100 (b := false) rfl (⟨by first | with_reducible rfl | (simp only [nmB', c1, c3, c5, ↓reduceIte, Bool.false_eq_true]; done) | (simp only [nmB', c1, c3, c5, ↓reduceIte, Bool.false_eq_true]; rfl) | rfl, by first | with_reducible rfl | (simp only [nmB', c1, c3, c5, ↓reduceIte, Bool.false_eq_true]; done) | (simp only [nmB', c1, c3, c5, ↓reduceIte, Bool.false_eq_true]; rfl) | rfl, rfl⟩)
      · refine lv_aload_n hx hb dX7_isName_35 rfl (lv_at hl 0 rfl) ?_
        refine fgetx hx hb ht inG7 hown hK hP (k := 1) (by decide) (x := (σ 1)) rfl (sh_read _ _) rfl 0 (by decide) gw_235 (v := .ref (ad 2)) rfl dX7_isName_36 ?_
        refine va_ldcS hx hb hown (hE.2.2.2 2 (by decide)) dX7_isName_39 ?_
        refine callvY (y := yX6_isWord) ⟨hx, hb, hml, hown, ht⟩ hK hN hE hP hS (k := 2) (c_X6_isWord l D ca ad hI adK adV σ τ (by decide)) (by decide) (sh_tape _ _) rfl ok_X6_isWord gw_419 ⟨by decide, by decide⟩ rfl hl.1 rfl (Nat.le_of_ble_eq_true rfl) ⟨by decide, by decide⟩ dX7_isName_41 (fun v_ S_ T_ H locs hp6 hP hS => ?_)
        obtain ⟨rfl, rfl, rfl⟩ := hp6
        try dsimp only [Option.toList, List.cons_append, List.nil_append]
        refine br_ne (tgt := 99) hx hb dX7_isName_44 (by decide) (fun c7 => ?_) (fun c7 => ?_)
        · refine lv_iconst (v := 0) hx hb dX7_isName_99 (by decide) ?_
          exact ret_z hx hb hr hlk hP hS dX7_isName_100 (b := false) rfl (⟨by first | with_reducible rfl | (simp only [nmB', c1, c3, c5, c7, ↓reduceIte, Bool.false_eq_true]; done) | (simp only [nmB', c1, c3, c5, c7, ↓reduceIte, Bool.false_eq_true]; rfl) | rfl, by first | with_reducible rfl | (simp only [nmB', c1, c3, c5, c7, ↓reduceIte, Bool.false_eq_true]; done) | (simp only [nmB', c1, c3, c5, c7, ↓reduceIte, Bool.false_eq_true]; rfl) | rfl, rfl⟩)
        · refine lv_aload_n hx hb dX7_isName_47 rfl (lv_at hl 0 rfl) ?_
          refine fgetx hx hb ht inG7 hown hK hP (k := 1) (by decide) (x := (σ 1)) rfl (sh_read _ _) rfl 0 (by decide) gw_235 (v := .ref (ad 2)) rfl dX7_isName_48 ?_
          refine va_ldcS hx hb hown (hE.2.2.2 3 (by decide)) dX7_isName_51 ?_
          refine callvY (y := yX6_isWord) ⟨hx, hb, hml, hown, ht⟩ hK hN hE hP hS (k := 2) (c_X6_isWord l D ca ad hI adK adV σ τ (by decide)) (by decide) (sh_tape _ _) rfl ok_X6_isWord gw_419 ⟨by decide, by decide⟩ rfl hl.1 rfl (Nat.le_of_ble_eq_true rfl) ⟨by decide, by decide⟩ dX7_isName_53 (fun v_ S_ T_ H locs hp8 hP hS => ?_)
          obtain ⟨rfl, rfl, rfl⟩ := hp8
          try dsimp only [Option.toList, List.cons_append, List.nil_append]
          refine br_ne (tgt := 99) hx hb dX7_isName_56 (by decide) (fun c9 => ?_) (fun c9 => ?_)
          · refine lv_iconst (v := 0) hx hb dX7_isName_99 (by decide) ?_
            exact ret_z hx hb hr hlk hP hS dX7_isName_100 (b := false) rfl (⟨by first | with_reducible rfl | (simp only [nmB', c1, c3, c5, c7, c9, ↓reduceIte, Bool.false_eq_true]; done) | (simp only [nmB', c1, c3, c5, c7, c9, ↓reduceIte, Bool.false_eq_true]; rfl) | rfl, by first | with_reducible rfl | (simp only [nmB', c1, c3, c5, c7, c9, ↓reduceIte, Bool.false_eq_true]; done) | (simp only [nmB', c1, c3, c5, c7, c9, ↓reduceIte, Bool.false_eq_true]; rfl) | rfl, rfl⟩)
          · refine lv_aload_n hx hb dX7_isName_59 rfl (lv_at hl 0 rfl) ?_
            refine fgetx hx hb ht inG7 hown hK hP (k := 1) (by decide) (x := (σ 1)) rfl (sh_read _ _) rfl 0 (by decide) gw_235 (v := .ref (ad 2)) rfl dX7_isName_60 ?_
            refine va_ldcS hx hb hown (hE.2.2.2 4 (by decide)) dX7_isName_63 ?_
            refine callvY (y := yX6_isWord) ⟨hx, hb, hml, hown, ht⟩ hK hN hE hP hS (k := 2) (c_X6_isWord l D ca ad hI adK adV σ τ (by decide)) (by decide) (sh_tape _ _) rfl ok_X6_isWord gw_419 ⟨by decide, by decide⟩ rfl hl.1 rfl (Nat.le_of_ble_eq_true rfl) ⟨by decide, by decide⟩ dX7_isName_65 (fun v_ S_ T_ H locs hp10 hP hS => ?_)
            obtain ⟨rfl, rfl, rfl⟩ := hp10
            try dsimp only [Option.toList, List.cons_append, List.nil_append]
            refine br_ne (tgt := 99) hx hb dX7_isName_68 (by decide) (fun c11 => ?_) (fun c11 => ?_)
            · refine lv_iconst (v := 0) hx hb dX7_isName_99 (by decide) ?_
              exact ret_z hx hb hr hlk hP hS dX7_isName_100 (b := false) rfl (⟨by first | with_reducible rfl | (simp only [nmB', c1, c3, c5, c7, c9, c11, ↓reduceIte, Bool.false_eq_true]; done) | (simp only [nmB', c1, c3, c5, c7, c9, c11, ↓reduceIte, Bool.false_eq_true]; rfl) | rfl, by first | with_reducible rfl | (simp only [nmB', c1, c3, c5, c7, c9, c11, ↓reduceIte, Bool.false_eq_true]; done) | (simp only [nmB', c1, c3, c5, c7, c9, c11, ↓reduceIte, Bool.false_eq_true]; rfl) | rfl, rfl⟩)
            · refine lv_aload_n hx hb dX7_isName_71 rfl (lv_at hl 0 rfl) ?_
              refine fgetx hx hb ht inG7 hown hK hP (k := 1) (by decide) (x := (σ 1)) rfl (sh_read _ _) rfl 0 (by decide) gw_235 (v := .ref (ad 2)) rfl dX7_isName_72 ?_
              refine va_ldcS hx hb hown (hE.2.2.2 5 (by decide)) dX7_isName_75 ?_
              refine callvY (y := yX6_isWord) ⟨hx, hb, hml, hown, ht⟩ hK hN hE hP hS (k := 2) (c_X6_isWord l D ca ad hI adK adV σ τ (by decide)) (by decide) (sh_tape _ _) rfl ok_X6_isWord gw_419 ⟨by decide, by decide⟩ rfl hl.1 rfl (Nat.le_of_ble_eq_true rfl) ⟨by decide, by decide⟩ dX7_isName_77 (fun v_ S_ T_ H locs hp12 hP hS => ?_)
              obtain ⟨rfl, rfl, rfl⟩ := hp12
              try dsimp only [Option.toList, List.cons_append, List.nil_append]
              refine br_ne (tgt := 99) hx hb dX7_isName_80 (by decide) (fun c13 => ?_) (fun c13 => ?_)
              · refine lv_iconst (v := 0) hx hb dX7_isName_99 (by decide) ?_
                exact ret_z hx hb hr hlk hP hS dX7_isName_100 (b := false) rfl (⟨by first | with_reducible rfl | (simp only [nmB', c1, c3, c5, c7, c9, c11, c13, ↓reduceIte, Bool.false_eq_true]; done) | (simp only [nmB', c1, c3, c5, c7, c9, c11, c13, ↓reduceIte, Bool.false_eq_true]; rfl) | rfl, by first | with_reducible rfl | (simp only [nmB', c1, c3, c5, c7, c9, c11, c13, ↓reduceIte, Bool.false_eq_true]; done) | (simp only [nmB', c1, c3, c5, c7, c9, c11, c13, ↓reduceIte, Bool.false_eq_true]; rfl) | rfl, rfl⟩)
              · refine lv_aload_n hx hb dX7_isName_83 rfl (lv_at hl 0 rfl) ?_
                refine fgetx hx hb ht inG7 hown hK hP (k := 1) (by decide) (x := (σ 1)) rfl (sh_read _ _) rfl 0 (by decide) gw_235 (v := .ref (ad 2)) rfl dX7_isName_84 ?_
                refine va_ldcS hx hb hown (hE.2.2.2 6 (by decide)) dX7_isName_87 ?_
                refine callvY (y := yX6_isWord) ⟨hx, hb, hml, hown, ht⟩ hK hN hE hP hS (k := 2) (c_X6_isWord l D ca ad hI adK adV σ τ (by decide)) (by decide) (sh_tape _ _) rfl ok_X6_isWord gw_419 ⟨by decide, by decide⟩ rfl hl.1 rfl (Nat.le_of_ble_eq_true rfl) ⟨by decide, by decide⟩ dX7_isName_89 (fun v_ S_ T_ H locs hp14 hP hS => ?_)
                obtain ⟨rfl, rfl, rfl⟩ := hp14
                try dsimp only [Option.toList, List.cons_append, List.nil_append]
                refine br_ne (tgt := 99) hx hb dX7_isName_92 (by decide) (fun c15 => ?_) (fun c15 => ?_)
                · refine lv_iconst (v := 0) hx hb dX7_isName_99 (by decide) ?_
                  exact ret_z hx hb hr hlk hP hS dX7_isName_100 (b := false) rfl (⟨by first | with_reducible rfl | (simp only [nmB', c1, c3, c5, c7, c9, c11, c13, c15, ↓reduceIte, Bool.false_eq_true]; done) | (simp only [nmB', c1, c3, c5, c7, c9, c11, c13, c15, ↓reduceIte, Bool.false_eq_true]; rfl) | rfl, by first | with_reducible rfl | (simp only [nmB', c1, c3, c5, c7, c9, c11, c13, c15, ↓reduceIte, Bool.false_eq_true]; done) | (simp only [nmB', c1, c3, c5, c7, c9, c11, c13, c15, ↓reduceIte, Bool.false_eq_true]; rfl) | rfl, rfl⟩)
                · refine lv_iconst (v := 1) hx hb dX7_isName_95 (by decide) ?_
                  refine lv_goto (tgt := 100) hx hb dX7_isName_96 (by decide) ?_
                  exact ret_z hx hb hr hlk hP hS dX7_isName_100 (b := true) rfl (⟨by first | with_reducible rfl | (simp only [nmB', c1, c3, c5, c7, c9, c11, c13, c15, ↓reduceIte, Bool.false_eq_true]; done) | (simp only [nmB', c1, c3, c5, c7, c9, c11, c13, c15, ↓reduceIte, Bool.false_eq_true]; rfl) | rfl, by first | with_reducible rfl | (simp only [nmB', c1, c3, c5, c7, c9, c11, c13, c15, ↓reduceIte, Bool.false_eq_true]; done) | (simp only [nmB', c1, c3, c5, c7, c9, c11, c13, c15, ↓reduceIte, Bool.false_eq_true]; rfl) | rfl, rfl⟩)
set_option maxHeartbeats 4000000 in
set_option maxRecDepth 100000 in
theorem c_X7_keepName (l : Launch) (D : va_G) (ca : Nat → ClassId) (ad : Nat → Nat) (hI : Inj 158 ad) (σ : MI) (τ : ML) (x : Int32) : CT l D (TY ca) 158 ad (cxf ca ad) yX7_keepName cX7_keepName 2 none 0 0 [.ref (ad 1), .int x] σ τ (fun v_ S_ T_ => none = v_ ∧ (kpM σ x) = S_ ∧ τ = T_) := by
  refine CT.of (by decide) (Nat.le_of_ble_eq_true rfl) ?_
  intro p e s m args below meth c hx hb hr ht hown hlk hml hP hK hN hS ls hl
  have hl : lv_has ls 2 [(0, .ref (ad 1)), (1, .int x)] := hl
  refine lv_iload_n hx hb dX7_keepName_0 rfl (lv_at hl 1 rfl) ?_
  refine lv_if_lt (tgt := 44) hx hb dX7_keepName_1 (by decide) (fun c1 => ?_) (fun c1 => ?_)
  · have dc1 := c1
    rw [i_lt] at dc1
    exact ret_v hx hb hr hlk hP hS dX7_keepName_44 (⟨by first | with_reducible rfl | (simp only [kpM, c1, ↓reduceIte, Bool.false_eq_true]; done) | (simp only [kpM, c1, ↓reduceIte, Bool.false_eq_true]; rfl) | rfl, by first | with_reducible rfl | (simp only [kpM, c1, ↓reduceIte, Bool.false_eq_true]; done) | (simp only [kpM, c1, ↓reduceIte, Bool.false_eq_true]; rfl) | rfl, rfl⟩)
  · have dc1 := c1
    rw [i_lt] at dc1
    refine lv_iload_n hx hb dX7_keepName_4 rfl (lv_at hl 1 rfl) ?_
    refine lv_bipush (v := 6) hx hb dX7_keepName_5 (by decide) ?_
    refine lv_icmp_ge (tgt := 44) hx hb dX7_keepName_7 (by decide) (fun c2 => ?_) (fun c2 => ?_)
    · have dc2 := c2
      rw [i_le] at dc2
      exact ret_v hx hb hr hlk hP hS dX7_keepName_44 (⟨by first | with_reducible rfl | (simp only [kpM, c1, c2, ↓reduceIte, Bool.false_eq_true]; done) | (simp only [kpM, c1, c2, ↓reduceIte, Bool.false_eq_true]; rfl) | rfl, by first | with_reducible rfl | (simp only [kpM, c1, c2, ↓reduceIte, Bool.false_eq_true]; done) | (simp only [kpM, c1, c2, ↓reduceIte, Bool.false_eq_true]; rfl) | rfl, rfl⟩)
    · have dc2 := c2
      rw [i_le] at dc2
      refine lv_aload_n hx hb dX7_keepName_10 rfl (lv_at hl 0 rfl) ?_
      refine fgetx hx hb ht inG7 hown hK hP (k := 1) (by decide) (x := (σ 1)) rfl (sh_read _ _) rfl 1 (by decide) gw_237 (v := .ref (ad 4)) rfl dX7_keepName_11 ?_
      refine lv_iload_n hx hb dX7_keepName_14 rfl (lv_at hl 1 rfl) ?_
      refine lv_aload_n hx hb dX7_keepName_15 rfl (lv_at hl 0 rfl) ?_
      refine fgetx hx hb ht inG7 hown hK hP (k := 1) (by decide) (x := (σ 1)) rfl (sh_read _ _) rfl 0 (by decide) gw_235 (v := .ref (ad 2)) rfl dX7_keepName_16 ?_
      refine fgetxN hx hb ht inG6 hown hK hP (k := 2) (by decide) (x := (σ 2)) rfl (sh_tape _ _) rfl 2 (by decide) (hN.get 100 nw_100 rfl) (v := .int ((σ 2) 2)) rfl dX7_keepName_19 ?_
      refine astj hx hb hK hP hI hS (k := 4) (by decide) 0 (fun f => sh_npl f _ ) rfl (in_lt (n := 6) ‹_› ‹_› rfl) (j := x.toNatClampNeg) rfl dX7_keepName_22 (fun H locs hP hS => ?_)
      refine lv_aload_n hx hb dX7_keepName_23 rfl (lv_at hl 0 rfl) ?_
      refine fgetx hx hb ht inG7 hown hK hP (k := 1) (by decide) (x := (σ 1)) (s2_nk _ _ _ (by omega)) (sh_read _ _) rfl 2 (by decide) gw_238 (v := .ref (ad 5)) rfl dX7_keepName_24 ?_
      refine lv_iload_n hx hb dX7_keepName_27 rfl (lv_at hl 1 rfl) ?_
      refine lv_aload_n hx hb dX7_keepName_28 rfl (lv_at hl 0 rfl) ?_
      refine fgetx hx hb ht inG7 hown hK hP (k := 1) (by decide) (x := (σ 1)) (s2_nk _ _ _ (by omega)) (sh_read _ _) rfl 0 (by decide) gw_235 (v := .ref (ad 2)) rfl dX7_keepName_29 ?_
      refine fgetxN hx hb ht inG6 hown hK hP (k := 2) (by decide) (x := (σ 2)) (s2_nk _ _ _ (by omega)) (sh_tape _ _) rfl 3 (by decide) (hN.get 103 nw_103 rfl) (v := .int ((σ 2) 3)) rfl dX7_keepName_32 ?_
      refine lv_aload_n hx hb dX7_keepName_35 rfl (lv_at hl 0 rfl) ?_
      refine fgetx hx hb ht inG7 hown hK hP (k := 1) (by decide) (x := (σ 1)) (s2_nk _ _ _ (by omega)) (sh_read _ _) rfl 0 (by decide) gw_235 (v := .ref (ad 2)) rfl dX7_keepName_36 ?_
      refine fgetxN hx hb ht inG6 hown hK hP (k := 2) (by decide) (x := (σ 2)) (s2_nk _ _ _ (by omega)) (sh_tape _ _) rfl 2 (by decide) (hN.get 100 nw_100 rfl) (v := .int ((σ 2) 2)) rfl dX7_keepName_39 ?_
      refine lv_isub hx hb dX7_keepName_42 ?_
      refine astj hx hb hK hP hI hS (k := 5) (by decide) 0 (fun f => sh_nsz f _ ) rfl (in_lt (n := 6) ‹_› ‹_› rfl) (j := x.toNatClampNeg) rfl dX7_keepName_43 (fun H locs hP hS => ?_)
      exact ret_v hx hb hr hlk hP hS dX7_keepName_44 (⟨by first | with_reducible rfl | (simp only [kpM, c1, c2, ↓reduceIte, Bool.false_eq_true]; done) | (simp only [kpM, c1, c2, ↓reduceIte, Bool.false_eq_true]; rfl) | rfl, by first | with_reducible rfl | (simp only [kpM, c1, c2, ↓reduceIte, Bool.false_eq_true]; done) | (simp only [kpM, c1, c2, ↓reduceIte, Bool.false_eq_true]; rfl) | rfl, rfl⟩)
set_option maxHeartbeats 4000000 in
set_option maxRecDepth 100000 in
theorem lp_X7_named {l : Launch} {D : va_G} {ca : Nat → ClassId} {ad : Nat → Nat} (hI : Inj 158 ad) {σ : MI} {τ : ML} (x : Int32) {p : Program} {e : Env} {s : State} {m : MethodId} {args : Array Value} {below : List Frame} {meth : Method} {c : Code} (hx : p.tables.exec = Jvm.exec) (hb : c.code = cX7_indexNamed) (hr : meth.sig.returnType = (some .int)) (ht : ∀ w ∈ GG, w.before args s = true) (hown : s.vm.findClass yX7_indexNamed.cls = some m.cls) (hlk : meth.locks = false) (hml : c.maxLocals = 3) (hK : va_K D vwCl (TY ca) s) (hN : NW s) : ∀ (n : Nat) (r k : Nat) (hk : k + r = kmin x 6) (hn : r < n) (hR : fnd (fun k => samS σ (σ 4 k) (σ 5 k)) r k = ixN σ x) (H : Heap) (locs : List Loc) (hP : PW D 158 ad (cxf ca ad) σ τ H) (hS : va_S (AA 158 ad) s.heap H locs) (ls : Array Slot) (hl : lv_has ls 3 [(2, .int (nI k)), (0, .ref (ad 1)), (1, .int x)]), W p l e { frames := 2, cells := 0, slots := 0, locals := 44 } s m args below meth c H locs 0 0 (MQ below (QD D 158 ad (cxf ca ad) (fun v_ S_ T_ => some (.int (ixN σ x)) = v_ ∧ σ = S_ ∧ τ = T_)) args s 0 0 (AA 158 ad)) (F0 m 2 ls []) := by
  intro n
  induction n with
  | zero => intro r k hk hn hR H locs hP hS ls hl; exfalso; omega
  | succ n ih =>
    intro r k hk hn hR H locs hP hS ls hl
    have e6 : (6 : Int32).toInt = 6 := rfl
    have hc := clampI x
    have hm : kmin x 6 = min x.toNatClampNeg 6 := rfl
    have ek : (nI k).toInt = k := nI_toInt (by omega)
    refine lv_iload_n hx hb dX7_indexNamed_2 rfl (lv_at hl 0 rfl) ?_
    refine lv_iload_n hx hb dX7_indexNamed_3 rfl (lv_at hl 2 rfl) ?_
    refine lv_icmp_ge (tgt := 43) hx hb dX7_indexNamed_4 (by decide) (fun c1 => ?_) (fun c1 => ?_)
    · have dc1 := c1
      rw [i_le] at dc1
      obtain rfl : r = 0 := by omega
      refine lv_iconst (v := -1) hx hb dX7_indexNamed_43 (by decide) ?_
      exact ret_i hx hb hr hlk hP hS dX7_indexNamed_44 (⟨by rw [← hR]; rfl, rfl, rfl⟩)
    · have dc1 := c1
      rw [i_le] at dc1
      refine lv_iload_n hx hb dX7_indexNamed_7 rfl (lv_at hl 0 rfl) ?_
      refine lv_bipush (v := 6) hx hb dX7_indexNamed_8 (by decide) ?_
      refine lv_icmp_ge (tgt := 43) hx hb dX7_indexNamed_10 (by decide) (fun c2 => ?_) (fun c2 => ?_)
      · have dc2 := c2
        rw [i_le] at dc2
        obtain rfl : r = 0 := by omega
        refine lv_iconst (v := -1) hx hb dX7_indexNamed_43 (by decide) ?_
        exact ret_i hx hb hr hlk hP hS dX7_indexNamed_44 (⟨by rw [← hR]; rfl, rfl, rfl⟩)
      · have dc2 := c2
        rw [i_le] at dc2
        obtain ⟨r', rfl⟩ : ∃ r', r = r' + 1 := ⟨r - 1, by omega⟩
        refine lv_aload_n hx hb dX7_indexNamed_13 rfl (lv_at hl 1 rfl) ?_
        refine fgetx hx hb ht inG7 hown hK hP (k := 1) (by decide) (x := (σ 1)) rfl (sh_read _ _) rfl 0 (by decide) gw_235 (v := .ref (ad 2)) rfl dX7_indexNamed_14 ?_
        refine lv_aload_n hx hb dX7_indexNamed_17 rfl (lv_at hl 1 rfl) ?_
        refine fgetx hx hb ht inG7 hown hK hP (k := 1) (by decide) (x := (σ 1)) rfl (sh_read _ _) rfl 1 (by decide) gw_237 (v := .ref (ad 4)) rfl dX7_indexNamed_18 ?_
        refine lv_iload_n hx hb dX7_indexNamed_21 rfl (lv_at hl 0 rfl) ?_
        refine aldj hx hb hK hP (k := 4) (by decide) (x := (σ 4)) rfl 0 (sh_npl _ _) rfl (by rw [vp_in_iff]; omega) (j := k) (nI_clamp (by omega)) dX7_indexNamed_22 ?_
        refine lv_aload_n hx hb dX7_indexNamed_23 rfl (lv_at hl 1 rfl) ?_
        refine fgetx hx hb ht inG7 hown hK hP (k := 1) (by decide) (x := (σ 1)) rfl (sh_read _ _) rfl 2 (by decide) gw_238 (v := .ref (ad 5)) rfl dX7_indexNamed_24 ?_
        refine lv_iload_n hx hb dX7_indexNamed_27 rfl (lv_at hl 0 rfl) ?_
        refine aldj hx hb hK hP (k := 5) (by decide) (x := (σ 5)) rfl 0 (sh_nsz _ _) rfl (by rw [vp_in_iff]; omega) (j := k) (nI_clamp (by omega)) dX7_indexNamed_28 ?_
        refine callv (y := yX6_isSameAs) ⟨hx, hb, hml, hown, ht⟩ hK hN hP hS (k := 2) (c_X6_isSameAs l D ca ad hI σ τ ((σ 4) k) ((σ 5) k)) (by decide) (sh_tape _ _) rfl ok_X6_isSameAs gw_518 ⟨by decide, by decide⟩ rfl hl.1 rfl (Nat.le_of_ble_eq_true rfl) ⟨by decide, by decide⟩ dX7_indexNamed_29 (fun v_ S_ T_ H locs hp3 hP hS => ?_)
        obtain ⟨rfl, rfl, rfl⟩ := hp3
        try dsimp only [Option.toList, List.cons_append, List.nil_append]
        refine br_eq (tgt := 37) hx hb dX7_indexNamed_32 (by decide) (fun c4 => ?_) (fun c4 => ?_)
        · refine lv_iinc (v := (nI k) + 1) (lv' := [(2, .int ((nI k) + 1)), (0, .ref (ad 1)), (1, .int x)]) hx hb dX7_indexNamed_37 hl (k := 0) rfl rfl (by decide) rfl (fun ls hl => ?_)
          refine lv_goto (tgt := 2) hx hb dX7_indexNamed_40 (by decide) ?_
          rw [nI_1] at hl
          exact ih r' (k + 1) (by omega) (by omega) (by rw [← hR, fnd, if_neg (by rw [c4]; decide)]) _ _ hP hS ls (lv_sub hl [0, 1, 2] rfl)
        · refine lv_iload_n hx hb dX7_indexNamed_35 rfl (lv_at hl 0 rfl) ?_
          exact ret_i hx hb hr hlk hP hS dX7_indexNamed_36 (⟨by rw [← hR, fnd, if_pos c4], rfl, rfl⟩)
set_option maxHeartbeats 4000000 in
set_option maxRecDepth 100000 in
theorem c_X7_indexNamed (l : Launch) (D : va_G) (ca : Nat → ClassId) (ad : Nat → Nat) (hI : Inj 158 ad) (σ : MI) (τ : ML) (x : Int32) : CT l D (TY ca) 158 ad (cxf ca ad) yX7_indexNamed cX7_indexNamed 3 (some .int) 2 44 [.ref (ad 1), .int x] σ τ (fun v_ S_ T_ => some (.int (ixN σ x)) = v_ ∧ σ = S_ ∧ τ = T_) := by
  refine CT.of (by decide) (Nat.le_of_ble_eq_true rfl) ?_
  intro p e s m args below meth c hx hb hr ht hown hlk hml hP hK hN hS ls hl
  have hl : lv_has ls 3 [(0, .ref (ad 1)), (1, .int x)] := hl
  refine lv_iconst (v := 0) hx hb dX7_indexNamed_0 (by decide) ?_
  refine lv_istore_n (lv' := [(2, .int 0), (0, .ref (ad 1)), (1, .int x)]) hx hb dX7_indexNamed_1 rfl hl (by decide) rfl (fun ls hl => ?_)
  exact lp_X7_named hI x hx hb hr ht hown hlk hml hK hN (kmin x 6 + 1) (kmin x 6) 0 (by omega) (by omega) rfl _ _ hP hS ls hl
