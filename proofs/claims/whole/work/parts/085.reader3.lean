set_option maxHeartbeats 4000000 in
set_option maxRecDepth 100000 in
theorem lp_X7_text {l : Launch} {D : va_G} {ca : Nat → ClassId} {ad : Nat → Nat} (hI : Inj 158 ad) {adK adV : Nat → Nat} {σ : MI} {τ : ML}  {p : Program} {e : Env} {s : State} {m : MethodId} {args : Array Value} {below : List Frame} {meth : Method} {c : Code} (hx : p.tables.exec = Jvm.exec) (hb : c.code = cX7_readText) (hr : meth.sig.returnType = (some .int)) (ht : ∀ w ∈ GG, w.before args s = true) (hown : s.vm.findClass yX7_readText.cls = some m.cls) (hlk : meth.locks = false) (hml : c.maxLocals = 3) (hK : va_K D vwCl (TY ca) s) (hN : NW s) (hE : SCx adK adV (AA 158 ad) s s.heap) : ∀ (n : Nat) (ρ : MI) (r k : Nat) (hk : k + r = 14) (hn : r < n) (hR : txL r ρ k = txP σ) (H : Heap) (locs : List Loc) (hP : PW D 158 ad (cxf ca ad) ρ τ H) (hS : va_S (AA 158 ad) s.heap H locs) (ls : Array Slot) (hl : lv_has ls 3 [(1, .int (nI k)), (0, .ref (ad 1))]), W p l e { frames := 8, cells := 0, slots := 0, locals := 171 } s m args below meth c H locs 0 0 (MQ below (QD D 158 ad (cxf ca ad) (fun v_ S_ T_ => some (.int ((txP σ).1)) = v_ ∧ ((txP σ).2) = S_ ∧ τ = T_)) args s 0 0 (AA 158 ad)) (F0 m 21 ls []) := by
  intro n
  induction n with
  | zero => intro ρ r k hk hn hR H locs hP hS ls hl; exfalso; omega
  | succ n ih =>
    intro ρ r k hk hn hR H locs hP hS ls hl
    have e13 : (13 : Int32).toInt = 13 := rfl
    have ek : (nI k).toInt = k := nI_toInt (by omega)
    have e0 : (0 : Int32).toInt = 0 := rfl
    have hbz := bz_lt (ρ 1 3)
    refine lv_iload_n hx hb dX7_readText_21 rfl (lv_at hl 0 rfl) ?_
    refine lv_bipush (v := 13) hx hb dX7_readText_22 (by decide) ?_
    refine lv_icmp_gt (tgt := 99) hx hb dX7_readText_24 (by decide) (fun c1 => ?_) (fun c1 => ?_)
    · have dc1 := c1
      rw [i_lt] at dc1
      obtain rfl : r = 0 := by omega
      refine lv_iconst (v := -1) hx hb dX7_readText_99 (by decide) ?_
      refine lv_aload_n hx hb dX7_readText_100 rfl (lv_at hl 1 rfl) ?_
      refine fgetx hx hb ht inG7 hown hK hP (k := 1) (by decide) (x := (ρ 1)) rfl (sh_read _ _) rfl 0 (by decide) gw_235 (v := .ref (ad 2)) rfl dX7_readText_101 ?_
      refine fgetxN hx hb ht inG6 hown hK hP (k := 2) (by decide) (x := (ρ 2)) rfl (sh_tape _ _) rfl 2 (by decide) (hN.get 100 nw_100 rfl) (v := .int ((ρ 2) 2)) rfl dX7_readText_104 ?_
      refine lv_isub hx hb dX7_readText_107 ?_
      exact ret_i hx hb hr hlk hP hS dX7_readText_108 (⟨by rw [← hR]; rfl, by rw [← hR]; rfl, rfl⟩)
    · have dc1 := c1
      rw [i_lt] at dc1
      obtain ⟨r', rfl⟩ : ∃ r', r = r' + 1 := ⟨r - 1, by omega⟩
      refine lv_aload_n hx hb dX7_readText_27 rfl (lv_at hl 1 rfl) ?_
      refine fgetx hx hb ht inG7 hown hK hP (k := 1) (by decide) (x := (ρ 1)) rfl (sh_read _ _) rfl 0 (by decide) gw_235 (v := .ref (ad 2)) rfl dX7_readText_28 ?_
      refine fgetxN hx hb ht inG6 hown hK hP (k := 2) (by decide) (x := (ρ 2)) rfl (sh_tape _ _) rfl 4 (by decide) (hN.get 104 nw_104 rfl) (v := .int ((ρ 2) 4)) rfl dX7_readText_31 ?_
      refine lv_iconst (v := 4) hx hb dX7_readText_34 (by decide) ?_
      refine lv_icmp_ne (tgt := 40) hx hb dX7_readText_35 (by decide) (fun c2 => ?_) (fun c2 => ?_)
      · have dc2 := c2
        rw [i_eq] at dc2
        refine lv_iload_n hx hb dX7_readText_40 rfl (lv_at hl 0 rfl) ?_
        refine lv_if_ne (tgt := 52) hx hb dX7_readText_41 (by decide) (fun c3 => ?_) (fun c3 => ?_)
        · have dc3 := c3
          rw [i_eq] at dc3
          have hd : decide (k = 0) = false := decide_eq_false (fun q => dc3 (by rw [q]; rfl))
          refine lv_aload_n hx hb dX7_readText_52 rfl (lv_at hl 1 rfl) ?_
          refine fgetx hx hb ht inG7 hown hK hP (k := 1) (by decide) (x := (ρ 1)) rfl (sh_read _ _) rfl 0 (by decide) gw_235 (v := .ref (ad 2)) rfl dX7_readText_53 ?_
          refine va_ldcS hx hb hown (hE.2.2.2 2 (by decide)) dX7_readText_56 ?_
          refine callvY (y := yX6_isWord) ⟨hx, hb, hml, hown, ht⟩ hK hN hE hP hS (k := 2) (c_X6_isWord l D ca ad hI adK adV ρ τ (by decide)) (by decide) (sh_tape _ _) rfl ok_X6_isWord gw_419 ⟨by decide, by decide⟩ rfl hl.1 rfl (Nat.le_of_ble_eq_true rfl) ⟨by decide, by decide⟩ dX7_readText_58 (fun v_ S_ T_ H locs hp4 hP hS => ?_)
          obtain ⟨rfl, rfl, rfl⟩ := hp4
          try dsimp only [Option.toList, List.cons_append, List.nil_append]
          refine br_eq (tgt := 72) hx hb dX7_readText_61 (by decide) (fun c5 => ?_) (fun c5 => ?_)
          · refine lv_aload_n hx hb dX7_readText_72 rfl (lv_at hl 1 rfl) ?_
            refine callvY (y := yX7_readIndex) ⟨hx, hb, hml, hown, ht⟩ hK hN hE hP hS (k := 1) (c_X7_readIndex l D ca ad hI adK adV ρ τ ) (by decide) (sh_read _ _) rfl ok_X7_readIndex gw_557 ⟨by decide, by decide⟩ rfl hl.1 rfl (Nat.le_of_ble_eq_true rfl) ⟨by decide, by decide⟩ dX7_readText_73 (fun v_ S_ T_ H locs hp6 hP hS => ?_)
            obtain ⟨rfl, rfl, rfl⟩ := hp6
            try dsimp only [Option.toList, List.cons_append, List.nil_append]
            obtain ⟨S7_, hA7_⟩ : ∃ X_ : MI, X_ = ((riP ρ).2) := ⟨_, rfl⟩
            rw [← hA7_] at hP
            refine lv_istore_n (lv' := [(2, .int (b2i ((riP ρ).1))), (1, .int (nI k)), (0, .ref (ad 1))]) hx hb dX7_readText_76 rfl hl (by decide) rfl (fun ls hl => ?_)
            refine lv_iload_n hx hb dX7_readText_77 rfl (lv_at hl 0 rfl) ?_
            refine br_eq (tgt := 99) hx hb dX7_readText_78 (by decide) (fun c8 => ?_) (fun c8 => ?_)
            · refine lv_iconst (v := -1) hx hb dX7_readText_99 (by decide) ?_
              refine lv_aload_n hx hb dX7_readText_100 rfl (lv_at hl 2 rfl) ?_
              refine fgetx hx hb ht inG7 hown hK hP (k := 1) (by decide) (x := (S7_ 1)) rfl (sh_read _ _) rfl 0 (by decide) gw_235 (v := .ref (ad 2)) rfl dX7_readText_101 ?_
              refine fgetxN hx hb ht inG6 hown hK hP (k := 2) (by decide) (x := (S7_ 2)) rfl (sh_tape _ _) rfl 2 (by decide) (hN.get 100 nw_100 rfl) (v := .int ((S7_ 2) 2)) rfl dX7_readText_104 ?_
              refine lv_isub hx hb dX7_readText_107 ?_
              subst hA7_
              exact ret_i hx hb hr hlk hP hS dX7_readText_108 (⟨by rw [← hR]; simp only [txL, c2, c3, c5, c8, hd, lnP, ↓reduceIte, Bool.false_eq_true], by rw [← hR]; simp only [txL, c2, c3, c5, c8, hd, lnP, ↓reduceIte, Bool.false_eq_true], rfl⟩)
            · refine lv_aload_n hx hb dX7_readText_81 rfl (lv_at hl 2 rfl) ?_
              refine lv_bipush (v := 59) hx hb dX7_readText_82 (by decide) ?_
              refine callv (y := yX7_readSign) ⟨hx, hb, hml, hown, ht⟩ hK hN hP hS (k := 1) (c_X7_readSign l D ca ad hI S7_ τ (59 : Int32)) (by decide) (sh_read _ _) rfl ok_X7_readSign gw_493 ⟨by decide, by decide⟩ rfl hl.1 rfl (Nat.le_of_ble_eq_true rfl) ⟨by decide, by decide⟩ dX7_readText_84 (fun v_ S_ T_ H locs hp9 hP hS => ?_)
              obtain ⟨rfl, rfl, rfl⟩ := hp9
              try dsimp only [Option.toList, List.cons_append, List.nil_append]
              obtain ⟨S10_, hA10_⟩ : ∃ X_ : MI, X_ = (rsM S7_ (59 : Int32)) := ⟨_, rfl⟩
              rw [← hA10_] at hP
              refine br_ne (tgt := 93) hx hb dX7_readText_87 (by decide) (fun c11 => ?_) (fun c11 => ?_)
              · refine lv_iinc (v := (nI k) + 1) (lv' := [(1, .int ((nI k) + 1)), (2, .int (b2i ((riP ρ).1))), (0, .ref (ad 1))]) hx hb dX7_readText_93 hl (k := 1) rfl rfl (by decide) rfl (fun ls hl => ?_)
                refine lv_goto (tgt := 21) hx hb dX7_readText_96 (by decide) ?_
                subst hA10_
                subst hA7_
                rw [nI_1] at hl
                exact ih _ r' (k + 1) (by omega) (by omega) (by rw [← hR]; simp only [txL, c2, c3, c5, c8, c11, hd, lnP, ↓reduceIte, Bool.false_eq_true]) _ _ hP hS ls (lv_sub hl [0, 2] rfl)
              · refine lv_goto (tgt := 99) hx hb dX7_readText_90 (by decide) ?_
                refine lv_iconst (v := -1) hx hb dX7_readText_99 (by decide) ?_
                refine lv_aload_n hx hb dX7_readText_100 rfl (lv_at hl 2 rfl) ?_
                refine fgetx hx hb ht inG7 hown hK hP (k := 1) (by decide) (x := (S10_ 1)) rfl (sh_read _ _) rfl 0 (by decide) gw_235 (v := .ref (ad 2)) rfl dX7_readText_101 ?_
                refine fgetxN hx hb ht inG6 hown hK hP (k := 2) (by decide) (x := (S10_ 2)) rfl (sh_tape _ _) rfl 2 (by decide) (hN.get 100 nw_100 rfl) (v := .int ((S10_ 2) 2)) rfl dX7_readText_104 ?_
                refine lv_isub hx hb dX7_readText_107 ?_
                subst hA10_
                subst hA7_
                exact ret_i hx hb hr hlk hP hS dX7_readText_108 (⟨by rw [← hR]; simp only [txL, c2, c3, c5, c8, c11, hd, lnP, ↓reduceIte, Bool.false_eq_true], by rw [← hR]; simp only [txL, c2, c3, c5, c8, c11, hd, lnP, ↓reduceIte, Bool.false_eq_true], rfl⟩)
          · refine lv_aload_n hx hb dX7_readText_64 rfl (lv_at hl 1 rfl) ?_
            refine callvY (y := yX7_readContract) ⟨hx, hb, hml, hown, ht⟩ hK hN hE hP hS (k := 1) (c_X7_readContract l D ca ad hI adK adV ρ τ ) (by decide) (sh_read _ _) rfl ok_X7_readContract gw_485 ⟨by decide, by decide⟩ rfl hl.1 rfl (Nat.le_of_ble_eq_true rfl) ⟨by decide, by decide⟩ dX7_readText_65 (fun v_ S_ T_ H locs hp12 hP hS => ?_)
            obtain ⟨rfl, rfl, rfl⟩ := hp12
            try dsimp only [Option.toList, List.cons_append, List.nil_append]
            obtain ⟨S13_, hA13_⟩ : ∃ X_ : MI, X_ = ((rcP ρ).2) := ⟨_, rfl⟩
            rw [← hA13_] at hP
            refine lv_istore_n (lv' := [(2, .int (b2i ((rcP ρ).1))), (1, .int (nI k)), (0, .ref (ad 1))]) hx hb dX7_readText_68 rfl hl (by decide) rfl (fun ls hl => ?_)
            refine lv_goto (tgt := 77) hx hb dX7_readText_69 (by decide) ?_
            refine lv_iload_n hx hb dX7_readText_77 rfl (lv_at hl 0 rfl) ?_
            refine br_eq (tgt := 99) hx hb dX7_readText_78 (by decide) (fun c14 => ?_) (fun c14 => ?_)
            · refine lv_iconst (v := -1) hx hb dX7_readText_99 (by decide) ?_
              refine lv_aload_n hx hb dX7_readText_100 rfl (lv_at hl 2 rfl) ?_
              refine fgetx hx hb ht inG7 hown hK hP (k := 1) (by decide) (x := (S13_ 1)) rfl (sh_read _ _) rfl 0 (by decide) gw_235 (v := .ref (ad 2)) rfl dX7_readText_101 ?_
              refine fgetxN hx hb ht inG6 hown hK hP (k := 2) (by decide) (x := (S13_ 2)) rfl (sh_tape _ _) rfl 2 (by decide) (hN.get 100 nw_100 rfl) (v := .int ((S13_ 2) 2)) rfl dX7_readText_104 ?_
              refine lv_isub hx hb dX7_readText_107 ?_
              subst hA13_
              exact ret_i hx hb hr hlk hP hS dX7_readText_108 (⟨by rw [← hR]; simp only [txL, c2, c3, c5, c14, hd, lnP, ↓reduceIte, Bool.false_eq_true], by rw [← hR]; simp only [txL, c2, c3, c5, c14, hd, lnP, ↓reduceIte, Bool.false_eq_true], rfl⟩)
            · refine lv_aload_n hx hb dX7_readText_81 rfl (lv_at hl 2 rfl) ?_
              refine lv_bipush (v := 59) hx hb dX7_readText_82 (by decide) ?_
              refine callv (y := yX7_readSign) ⟨hx, hb, hml, hown, ht⟩ hK hN hP hS (k := 1) (c_X7_readSign l D ca ad hI S13_ τ (59 : Int32)) (by decide) (sh_read _ _) rfl ok_X7_readSign gw_493 ⟨by decide, by decide⟩ rfl hl.1 rfl (Nat.le_of_ble_eq_true rfl) ⟨by decide, by decide⟩ dX7_readText_84 (fun v_ S_ T_ H locs hp15 hP hS => ?_)
              obtain ⟨rfl, rfl, rfl⟩ := hp15
              try dsimp only [Option.toList, List.cons_append, List.nil_append]
              obtain ⟨S16_, hA16_⟩ : ∃ X_ : MI, X_ = (rsM S13_ (59 : Int32)) := ⟨_, rfl⟩
              rw [← hA16_] at hP
              refine br_ne (tgt := 93) hx hb dX7_readText_87 (by decide) (fun c17 => ?_) (fun c17 => ?_)
              · refine lv_iinc (v := (nI k) + 1) (lv' := [(1, .int ((nI k) + 1)), (2, .int (b2i ((rcP ρ).1))), (0, .ref (ad 1))]) hx hb dX7_readText_93 hl (k := 1) rfl rfl (by decide) rfl (fun ls hl => ?_)
                refine lv_goto (tgt := 21) hx hb dX7_readText_96 (by decide) ?_
                subst hA16_
                subst hA13_
                rw [nI_1] at hl
                exact ih _ r' (k + 1) (by omega) (by omega) (by rw [← hR]; simp only [txL, c2, c3, c5, c14, c17, hd, lnP, ↓reduceIte, Bool.false_eq_true]) _ _ hP hS ls (lv_sub hl [0, 2] rfl)
              · refine lv_goto (tgt := 99) hx hb dX7_readText_90 (by decide) ?_
                refine lv_iconst (v := -1) hx hb dX7_readText_99 (by decide) ?_
                refine lv_aload_n hx hb dX7_readText_100 rfl (lv_at hl 2 rfl) ?_
                refine fgetx hx hb ht inG7 hown hK hP (k := 1) (by decide) (x := (S16_ 1)) rfl (sh_read _ _) rfl 0 (by decide) gw_235 (v := .ref (ad 2)) rfl dX7_readText_101 ?_
                refine fgetxN hx hb ht inG6 hown hK hP (k := 2) (by decide) (x := (S16_ 2)) rfl (sh_tape _ _) rfl 2 (by decide) (hN.get 100 nw_100 rfl) (v := .int ((S16_ 2) 2)) rfl dX7_readText_104 ?_
                refine lv_isub hx hb dX7_readText_107 ?_
                subst hA16_
                subst hA13_
                exact ret_i hx hb hr hlk hP hS dX7_readText_108 (⟨by rw [← hR]; simp only [txL, c2, c3, c5, c14, c17, hd, lnP, ↓reduceIte, Bool.false_eq_true], by rw [← hR]; simp only [txL, c2, c3, c5, c14, c17, hd, lnP, ↓reduceIte, Bool.false_eq_true], rfl⟩)
        · have dc3 := c3
          rw [i_eq] at dc3
          have hd : decide (k = 0) = true := decide_eq_true (by omega)
          refine lv_aload_n hx hb dX7_readText_44 rfl (lv_at hl 1 rfl) ?_
          refine callvY (y := yX7_readNow) ⟨hx, hb, hml, hown, ht⟩ hK hN hE hP hS (k := 1) (c_X7_readNow l D ca ad hI adK adV ρ τ ) (by decide) (sh_read _ _) rfl ok_X7_readNow gw_410 ⟨by decide, by decide⟩ rfl hl.1 rfl (Nat.le_of_ble_eq_true rfl) ⟨by decide, by decide⟩ dX7_readText_45 (fun v_ S_ T_ H locs hp18 hP hS => ?_)
          obtain ⟨rfl, rfl, rfl⟩ := hp18
          try dsimp only [Option.toList, List.cons_append, List.nil_append]
          obtain ⟨S19_, hA19_⟩ : ∃ X_ : MI, X_ = (nwM ρ) := ⟨_, rfl⟩
          rw [← hA19_] at hP
          refine lv_istore_n (lv' := [(2, .int (b2i (nwB ρ))), (1, .int (nI k)), (0, .ref (ad 1))]) hx hb dX7_readText_48 rfl hl (by decide) rfl (fun ls hl => ?_)
          refine lv_goto (tgt := 77) hx hb dX7_readText_49 (by decide) ?_
          refine lv_iload_n hx hb dX7_readText_77 rfl (lv_at hl 0 rfl) ?_
          refine br_eq (tgt := 99) hx hb dX7_readText_78 (by decide) (fun c20 => ?_) (fun c20 => ?_)
          · refine lv_iconst (v := -1) hx hb dX7_readText_99 (by decide) ?_
            refine lv_aload_n hx hb dX7_readText_100 rfl (lv_at hl 2 rfl) ?_
            refine fgetx hx hb ht inG7 hown hK hP (k := 1) (by decide) (x := (S19_ 1)) rfl (sh_read _ _) rfl 0 (by decide) gw_235 (v := .ref (ad 2)) rfl dX7_readText_101 ?_
            refine fgetxN hx hb ht inG6 hown hK hP (k := 2) (by decide) (x := (S19_ 2)) rfl (sh_tape _ _) rfl 2 (by decide) (hN.get 100 nw_100 rfl) (v := .int ((S19_ 2) 2)) rfl dX7_readText_104 ?_
            refine lv_isub hx hb dX7_readText_107 ?_
            subst hA19_
            exact ret_i hx hb hr hlk hP hS dX7_readText_108 (⟨by rw [← hR]; simp only [txL, c2, (eq_true c3), c20, hd, lnP, ↓reduceIte, Bool.false_eq_true], by rw [← hR]; simp only [txL, c2, (eq_true c3), c20, hd, lnP, ↓reduceIte, Bool.false_eq_true], rfl⟩)
          · refine lv_aload_n hx hb dX7_readText_81 rfl (lv_at hl 2 rfl) ?_
            refine lv_bipush (v := 59) hx hb dX7_readText_82 (by decide) ?_
            refine callv (y := yX7_readSign) ⟨hx, hb, hml, hown, ht⟩ hK hN hP hS (k := 1) (c_X7_readSign l D ca ad hI S19_ τ (59 : Int32)) (by decide) (sh_read _ _) rfl ok_X7_readSign gw_493 ⟨by decide, by decide⟩ rfl hl.1 rfl (Nat.le_of_ble_eq_true rfl) ⟨by decide, by decide⟩ dX7_readText_84 (fun v_ S_ T_ H locs hp21 hP hS => ?_)
            obtain ⟨rfl, rfl, rfl⟩ := hp21
            try dsimp only [Option.toList, List.cons_append, List.nil_append]
            obtain ⟨S22_, hA22_⟩ : ∃ X_ : MI, X_ = (rsM S19_ (59 : Int32)) := ⟨_, rfl⟩
            rw [← hA22_] at hP
            refine br_ne (tgt := 93) hx hb dX7_readText_87 (by decide) (fun c23 => ?_) (fun c23 => ?_)
            · refine lv_iinc (v := (nI k) + 1) (lv' := [(1, .int ((nI k) + 1)), (2, .int (b2i (nwB ρ))), (0, .ref (ad 1))]) hx hb dX7_readText_93 hl (k := 1) rfl rfl (by decide) rfl (fun ls hl => ?_)
              refine lv_goto (tgt := 21) hx hb dX7_readText_96 (by decide) ?_
              subst hA22_
              subst hA19_
              rw [nI_1] at hl
              exact ih _ r' (k + 1) (by omega) (by omega) (by rw [← hR]; simp only [txL, c2, (eq_true c3), c20, c23, hd, lnP, ↓reduceIte, Bool.false_eq_true]) _ _ hP hS ls (lv_sub hl [0, 2] rfl)
            · refine lv_goto (tgt := 99) hx hb dX7_readText_90 (by decide) ?_
              refine lv_iconst (v := -1) hx hb dX7_readText_99 (by decide) ?_
              refine lv_aload_n hx hb dX7_readText_100 rfl (lv_at hl 2 rfl) ?_
              refine fgetx hx hb ht inG7 hown hK hP (k := 1) (by decide) (x := (S22_ 1)) rfl (sh_read _ _) rfl 0 (by decide) gw_235 (v := .ref (ad 2)) rfl dX7_readText_101 ?_
              refine fgetxN hx hb ht inG6 hown hK hP (k := 2) (by decide) (x := (S22_ 2)) rfl (sh_tape _ _) rfl 2 (by decide) (hN.get 100 nw_100 rfl) (v := .int ((S22_ 2) 2)) rfl dX7_readText_104 ?_
              refine lv_isub hx hb dX7_readText_107 ?_
              subst hA22_
              subst hA19_
              exact ret_i hx hb hr hlk hP hS dX7_readText_108 (⟨by rw [← hR]; simp only [txL, c2, (eq_true c3), c20, c23, hd, lnP, ↓reduceIte, Bool.false_eq_true], by rw [← hR]; simp only [txL, c2, (eq_true c3), c20, c23, hd, lnP, ↓reduceIte, Bool.false_eq_true], rfl⟩)
      · have dc2 := c2
        rw [i_eq] at dc2
        refine lv_iload_n hx hb dX7_readText_38 rfl (lv_at hl 0 rfl) ?_
        exact ret_i hx hb hr hlk hP hS dX7_readText_39 (⟨by rw [← hR]; simp only [txL, (eq_true c2), ↓reduceIte], by rw [← hR]; simp only [txL, (eq_true c2), ↓reduceIte], rfl⟩)
set_option maxHeartbeats 4000000 in
set_option maxRecDepth 100000 in
theorem c_X7_readText (l : Launch) (D : va_G) (ca : Nat → ClassId) (ad : Nat → Nat) (hI : Inj 158 ad) (adK adV : Nat → Nat) (σ : MI) (τ : ML)  : CY l D (TY ca) 158 ad (cxf ca ad) adK adV yX7_readText cX7_readText 3 (some .int) 8 171 [.ref (ad 1)] σ τ (fun v_ S_ T_ => some (.int ((txP σ).1)) = v_ ∧ ((txP σ).2) = S_ ∧ τ = T_) := by
  refine CY.of (by decide) (Nat.le_of_ble_eq_true rfl) ?_
  intro p e s m args below meth c hx hb hr ht hown hlk hml hP hK hN hS ls hl hE
  have hl : lv_has ls 3 [(0, .ref (ad 1))] := hl
  have hbz := bz_lt (σ 1 3)
  refine lv_aload_n hx hb dX7_readText_0 rfl (lv_at hl 0 rfl) ?_
  refine fgetx hx hb ht inG7 hown hK hP (k := 1) (by decide) (x := (σ 1)) rfl (sh_read _ _) rfl 3 (by decide) gw_239 (v := .ref (ad (44 + 57 * (bz ((σ 1) 3))))) rfl dX7_readText_1 ?_
  refine callv (y := yX0_forget) ⟨hx, hb, hml, hown, ht⟩ hK hN hP hS (k := (44 + 57 * (bz ((σ 1) 3)))) (c_X0_forget l D ca ad hI σ τ (bz_lt _)) (by have b0_ : (bz ((σ 1) 3)) < 2 := (bz_lt _); omega) (sh_book _ _ (bz_lt _)) rfl ok_X0_forget gw_384 ⟨by decide, by decide⟩ rfl hl.1 rfl (Nat.le_of_ble_eq_true rfl) ⟨by decide, by decide⟩ dX7_readText_4 (fun v_ S_ T_ H locs hp1 hP hS => ?_)
  obtain ⟨rfl, rfl, rfl⟩ := hp1
  try dsimp only [Option.toList, List.cons_append, List.nil_append]
  refine lv_aload_n hx hb dX7_readText_7 rfl (lv_at hl 0 rfl) ?_
  refine lv_iconst (v := 0) hx hb dX7_readText_8 (by decide) ?_
  refine fputx (ref := "") (w := 0) hx hb ht inG7 tyX7 tyX7_ok nmX7 hown hK hP hI hS (k := 1) (by decide) (sh_read _ _) rfl 5 (by decide) gw_241 rfl rfl rfl (Nat.le_of_ble_eq_true rfl) (sh_read _ _) dX7_readText_9 (fun H locs hP hS => ?_)
  refine lv_aload_n hx hb dX7_readText_12 rfl (lv_at hl 0 rfl) ?_
  refine fgetx hx hb ht inG7 hown hK hP (k := 1) (by decide) (x := (upd (σ 1) 5 0)) ((s2_k _ _ _ _).trans (congrArg (fun f => upd f 5 0) ((s2_nk _ _ _ (by omega)).trans ((s2_nk _ _ _ (by omega)).trans (s2_nk _ _ _ (by omega)))))) (sh_read _ _) rfl 0 (by decide) gw_235 (v := .ref (ad 2)) rfl dX7_readText_13 ?_
  refine callv (y := yX6_begin) ⟨hx, hb, hml, hown, ht⟩ hK hN hP hS (k := 2) (c_X6_begin l D ca ad hI (s2 (s2 (s2 (s2 σ (44 + 57 * (bz ((σ 1) 3))) 0 0) (44 + 57 * (bz ((σ 1) 3))) 1 0) (44 + 57 * (bz ((σ 1) 3))) 2 0) 1 5 0) τ ) (by decide) (sh_tape _ _) rfl ok_X6_begin gw_388 ⟨by decide, by decide⟩ rfl hl.1 rfl (Nat.le_of_ble_eq_true rfl) ⟨by decide, by decide⟩ dX7_readText_16 (fun v_ S_ T_ H locs hp2 hP hS => ?_)
  obtain ⟨rfl, rfl, rfl⟩ := hp2
  try dsimp only [Option.toList, List.cons_append, List.nil_append]
  refine lv_iconst (v := 0) hx hb dX7_readText_19 (by decide) ?_
  refine lv_istore_n (lv' := [(1, .int 0), (0, .ref (ad 1))]) hx hb dX7_readText_20 rfl hl (by decide) rfl (fun ls hl => ?_)
  exact lp_X7_text hI hx hb hr ht hown hlk hml hK hN hE 15 (tx0 σ) 14 0 (by omega) (by omega) rfl _ _ hP hS ls hl
set_option maxHeartbeats 4000000 in
set_option maxRecDepth 100000 in
theorem c_X7_exchangeBook (l : Launch) (D : va_G) (ca : Nat → ClassId) (ad : Nat → Nat) (hI : Inj 158 ad) (σ : MI) (τ : ML) {b : Nat} (hb2 : b < 2) : CT l D (TY ca) 158 ad (cxf ca ad) yX7_exchangeBook cX7_exchangeBook 3 (some (.object "PriceDesk$Book")) 0 0 [.ref (ad 1), .ref (ad (44 + 57 * b))] σ τ (fun v_ S_ T_ => some (.ref (ad (44 + 57 * bz (σ 1 3)))) = v_ ∧ s2 σ 1 3 (bw b) = S_ ∧ τ = T_) := by
  refine CT.of (by decide) (Nat.le_of_ble_eq_true rfl) ?_
  intro p e s m args below meth c hx hb hr ht hown hlk hml hP hK hN hS ls hl
  have hl : lv_has ls 3 [(0, .ref (ad 1)), (1, .ref (ad (44 + 57 * b)))] := hl
  refine lv_aload_n hx hb dX7_exchangeBook_0 rfl (lv_at hl 0 rfl) ?_
  refine fgetx hx hb ht inG7 hown hK hP (k := 1) (by decide) (x := (σ 1)) rfl (sh_read _ _) rfl 3 (by decide) gw_239 (v := .ref (ad (44 + 57 * (bz ((σ 1) 3))))) rfl dX7_exchangeBook_1 ?_
  refine lv_astore_n (lv' := [(2, .ref (ad (44 + 57 * (bz ((σ 1) 3))))), (0, .ref (ad 1)), (1, .ref (ad (44 + 57 * b)))]) hx hb dX7_exchangeBook_4 rfl hl (by decide) rfl (fun ls hl => ?_)
  refine lv_aload_n hx hb dX7_exchangeBook_5 rfl (lv_at hl 1 rfl) ?_
  refine lv_aload_n hx hb dX7_exchangeBook_6 rfl (lv_at hl 2 rfl) ?_
  refine fputx (ref := "") (w := (bw b)) hx hb ht inG7 tyX7 tyX7_ok nmX7 hown hK hP hI hS (k := 1) (by decide) (sh_read _ _) rfl 3 (by decide) gw_239 rfl rfl rfl (Nat.le_of_ble_eq_true rfl) (by rw [sh_read]; simp only [upd, ↓reduceIte, bz_bw hb2]; rfl) dX7_exchangeBook_7 (fun H locs hP hS => ?_)
  refine lv_aload_n hx hb dX7_exchangeBook_10 rfl (lv_at hl 0 rfl) ?_
  exact ret_a hx hb hr hlk hP hS dX7_exchangeBook_11 (by first | exact Or.inl rfl | exact Or.inr ⟨_, rfl⟩) (⟨rfl, rfl, rfl⟩)
set_option maxHeartbeats 4000000 in
set_option maxRecDepth 100000 in
theorem c_X8_text (l : Launch) (D : va_G) (ca : Nat → ClassId) (ad : Nat → Nat) (hI : Inj 158 ad) (adK adV : Nat → Nat) (σ : MI) (τ : ML)  : CY l D (TY ca) 158 ad (cxf ca ad) adK adV yX8_text cX8_text 2 (some .int) 9 193 [.ref (ad 0)] σ τ (fun v_ S_ T_ => some (.int ((txP σ).1)) = v_ ∧ (teM σ) = S_ ∧ τ = T_) := by
  refine CY.of (by decide) (Nat.le_of_ble_eq_true rfl) ?_
  intro p e s m args below meth c hx hb hr ht hown hlk hml hP hK hN hS ls hl hE
  have hl : lv_has ls 2 [(0, .ref (ad 0))] := hl
  refine lv_aload_n hx hb dX8_text_0 rfl (lv_at hl 0 rfl) ?_
  refine fgetx hx hb ht inG8 hown hK hP (k := 0) (by decide) (x := (σ 0)) rfl (sh_desk _ _) rfl 0 (by decide) gw_351 (v := .ref (ad 1)) rfl dX8_text_1 ?_
  refine callvY (y := yX7_readText) ⟨hx, hb, hml, hown, ht⟩ hK hN hE hP hS (k := 1) (c_X7_readText l D ca ad hI adK adV σ τ ) (by decide) (sh_read _ _) rfl ok_X7_readText gw_380 ⟨by decide, by decide⟩ rfl hl.1 rfl (Nat.le_of_ble_eq_true rfl) ⟨by decide, by decide⟩ dX8_text_4 (fun v_ S_ T_ H locs hp1 hP hS => ?_)
  obtain ⟨rfl, rfl, rfl⟩ := hp1
  try dsimp only [Option.toList, List.cons_append, List.nil_append]
  obtain ⟨S2_, hA2_⟩ : ∃ X_ : MI, X_ = ((txP σ).2) := ⟨_, rfl⟩
  rw [← hA2_] at hP
  refine lv_istore_n (lv' := [(1, .int ((txP σ).1)), (0, .ref (ad 0))]) hx hb dX8_text_7 rfl hl (by decide) rfl (fun ls hl => ?_)
  refine lv_aload_n hx hb dX8_text_8 rfl (lv_at hl 1 rfl) ?_
  refine fgetx hx hb ht inG8 hown hK hP (k := 0) (by decide) (x := (S2_ 0)) rfl (sh_desk _ _) rfl 0 (by decide) gw_351 (v := .ref (ad 1)) rfl dX8_text_9 ?_
  refine fgetxN hx hb ht inG7 hown hK hP (k := 1) (by decide) (x := (S2_ 1)) rfl (sh_read _ _) rfl 0 (by decide) (hN.get 236 nw_236 rfl) (v := .ref (ad 2)) rfl dX8_text_12 ?_
  refine lv_iconst (v := 0) hx hb dX8_text_15 (by decide) ?_
  refine fputxN (ref := "") (w := 0) hx hb ht inG6 tyX6 tyX6_ok nmX6 hown hK hP hI hS (k := 2) (by decide) (sh_tape _ _) rfl 1 (by decide) (hN.get 99 nw_99 rfl) rfl rfl rfl (Nat.le_of_ble_eq_true rfl) (sh_tape _ _) dX8_text_16 (fun H locs hP hS => ?_)
  refine lv_iload_n hx hb dX8_text_19 rfl (lv_at hl 0 rfl) ?_
  refine lv_if_ge (tgt := 25) hx hb dX8_text_20 (by decide) (fun c3 => ?_) (fun c3 => ?_)
  · have dc3 := c3
    rw [i_le] at dc3
    refine lv_aload_n hx hb dX8_text_25 rfl (lv_at hl 1 rfl) ?_
    refine lv_aload_n hx hb dX8_text_26 rfl (lv_at hl 1 rfl) ?_
    refine fgetx hx hb ht inG8 hown hK hP (k := 0) (by decide) (x := (S2_ 0)) (s2_nk _ _ _ (by omega)) (sh_desk _ _) rfl 0 (by decide) gw_351 (v := .ref (ad 1)) rfl dX8_text_27 ?_
    refine lv_aload_n hx hb dX8_text_30 rfl (lv_at hl 1 rfl) ?_
    refine fgetx hx hb ht inG8 hown hK hP (k := 0) (by decide) (x := (S2_ 0)) (s2_nk _ _ _ (by omega)) (sh_desk _ _) rfl 1 (by decide) gw_352 (v := .ref (ad (44 + 57 * (bz ((S2_ 0) 1))))) rfl dX8_text_31 ?_
    refine callv (y := yX7_exchangeBook) ⟨hx, hb, hml, hown, ht⟩ hK hN hP hS (k := 1) (c_X7_exchangeBook l D ca ad hI (s2 S2_ 2 1 0) τ (bz_lt _)) (by decide) (sh_read _ _) rfl ok_X7_exchangeBook gw_581 ⟨by decide, by decide⟩ rfl hl.1 rfl (Nat.le_of_ble_eq_true rfl) ⟨by decide, by decide⟩ dX8_text_34 (fun v_ S_ T_ H locs hp4 hP hS => ?_)
    obtain ⟨rfl, rfl, rfl⟩ := hp4
    try dsimp only [Option.toList, List.cons_append, List.nil_append]
    obtain ⟨S5_, hA5_⟩ : ∃ X_ : MI, X_ = (s2 (s2 S2_ 2 1 0) 1 3 (bw (bz ((S2_ 0) 1)))) := ⟨_, rfl⟩
    rw [← hA5_] at hP
    refine fputx (ref := "") (w := (bw (bz ((s2 S2_ 2 1 0) 1 3)))) hx hb ht inG8 tyX8 tyX8_ok nmX8 hown hK hP hI hS (k := 0) (by decide) (sh_desk _ _) rfl 1 (by decide) gw_352 rfl rfl rfl (Nat.le_of_ble_eq_true rfl) (by rw [sh_desk]; simp only [upd, ↓reduceIte, bz_bw (bz_lt _)]; rfl) dX8_text_37 (fun H locs hP hS => ?_)
    refine lv_aload_n hx hb dX8_text_40 rfl (lv_at hl 1 rfl) ?_
    refine fgetx hx hb ht inG8 hown hK hP (k := 0) (by decide) (x := (upd (S2_ 0) 1 (bw (bz ((s2 S2_ 2 1 0) 1 3))))) ((s2_k _ _ _ _).trans (congrArg (fun f => upd f 1 (bw (bz ((s2 S2_ 2 1 0) 1 3)))) ((congrFun hA5_ 0).trans ((s2_nk _ _ _ (by omega)).trans (s2_nk _ _ _ (by omega)))))) (sh_desk _ _) rfl 2 (by decide) gw_353 (v := .ref (ad 12)) rfl dX8_text_41 ?_
    refine lv_iconst (v := 0) hx hb dX8_text_44 (by decide) ?_
    refine fputxN (ref := "") (w := 0) hx hb ht inG5 tyX5 tyX5_ok nmX5 hown hK hP hI hS (k := 12) (by decide) (sh_ledg _ _) rfl 1 (by decide) (hN.get 311 nw_311 rfl) rfl rfl rfl (Nat.le_of_ble_eq_true rfl) (sh_ledg _ _) dX8_text_45 (fun H locs hP hS => ?_)
    refine lv_aload_n hx hb dX8_text_48 rfl (lv_at hl 1 rfl) ?_
    refine fgetx hx hb ht inG8 hown hK hP (k := 0) (by decide) (x := (upd (S2_ 0) 1 (bw (bz ((s2 S2_ 2 1 0) 1 3))))) ((s2_nk _ _ _ (by omega)).trans ((s2_k _ _ _ _).trans (congrArg (fun f => upd f 1 (bw (bz ((s2 S2_ 2 1 0) 1 3)))) ((congrFun hA5_ 0).trans ((s2_nk _ _ _ (by omega)).trans (s2_nk _ _ _ (by omega))))))) (sh_desk _ _) rfl 3 (by decide) gw_354 (v := .ref (ad 6)) rfl dX8_text_49 ?_
    refine callv (y := yX3_forget) ⟨hx, hb, hml, hown, ht⟩ hK hN hP hS (k := 6) (c_X3_forget l D ca ad hI (s2 (s2 S5_ 0 1 (bw (bz ((s2 S2_ 2 1 0) 1 3)))) 12 1 0) τ ) (by decide) (sh_hist _ _) rfl ok_X3_forget gw_585 ⟨by decide, by decide⟩ rfl hl.1 rfl (Nat.le_of_ble_eq_true rfl) ⟨by decide, by decide⟩ dX8_text_52 (fun v_ S_ T_ H locs hp6 hP hS => ?_)
    obtain ⟨rfl, rfl, rfl⟩ := hp6
    try dsimp only [Option.toList, List.cons_append, List.nil_append]
    obtain ⟨S7_, hA7_⟩ : ∃ X_ : MI, X_ = (s2 (s2 (s2 S5_ 0 1 (bw (bz ((s2 S2_ 2 1 0) 1 3)))) 12 1 0) 6 6 0) := ⟨_, rfl⟩
    rw [← hA7_] at hP
    refine lv_iload_n hx hb dX8_text_55 rfl (lv_at hl 0 rfl) ?_
    subst hA7_
    subst hA5_
    subst hA2_
    exact ret_i hx hb hr hlk hP hS dX8_text_56 (⟨rfl, by simp only [teM, teX, c3, ↓reduceIte, show s2 (txP σ).2 2 1 0 0 = (txP σ).2 0 from s2_nk _ _ _ (by decide)], rfl⟩)
  · have dc3 := c3
    rw [i_le] at dc3
    refine lv_iload_n hx hb dX8_text_23 rfl (lv_at hl 0 rfl) ?_
    subst hA2_
    exact ret_i hx hb hr hlk hP hS dX8_text_24 (⟨rfl, by simp only [teM, teX, c3, ↓reduceIte, show s2 (txP σ).2 2 1 0 0 = (txP σ).2 0 from s2_nk _ _ _ (by decide)], rfl⟩)
