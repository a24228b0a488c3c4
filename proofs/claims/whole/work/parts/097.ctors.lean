set_option maxHeartbeats 4000000 in
set_option maxRecDepth 100000 in
theorem k_X2 (l : Launch) (D : va_G) (ca : Nat → ClassId) (a : Nat) : KT l D (TY ca) yX2_init cX2_init 1 1 12 0 0 2 [.int 0, .int 0, .int 0, .int 0, .int 0, .int 0, .int 0, .long 0] a deB (fun _ => .inr (0, [])) := by
  refine KT.of (E := (fun _ => .inr (0, []))) (by decide) (Nat.le_of_ble_eq_true rfl) ?_
  intro p e s m args below meth c hx hb hr ht hown hlk hml hin2 hC hK hN hA3 ls hl
  have hloc : ∀ z ∈ ([] : List Loc), a ≤ z.base := fun z hz => nomatch hz
  refine lv_aload_n hx hb dX2_init_0 rfl (lv_at hl 0 rfl) ?_
  refine W.objInit hx hb hown (ht _ gw_270) (ht _ gw_83) (ht _ gw_84) rfl (by rw [hml]; exact hl.1) rfl dX2_init_1 (Nat.le_of_ble_eq_true rfl) (Nat.le_of_ble_eq_true rfl) ?_
  refine W.eq (g2 := F0 m 4 ls []) rfl ?_
  refine W.widen (k := 0) (n := 0) (Nat.le_of_ble_eq_true rfl) (Nat.le_of_ble_eq_true rfl) ?_
  exact k_ret hx hb hr hlk (hC.eqE (fun k hk => absurd hk (Nat.not_lt_zero k))) hloc dX2_init_4
set_option maxHeartbeats 4000000 in
set_option maxRecDepth 100000 in
theorem k_X4 (l : Launch) (D : va_G) (ca : Nat → ClassId) (a : Nat) : KT l D (TY ca) yX4_init cX4_init 1 1 12 5 81 4 [.null, .null, .null, .null, .null, .int 0] a (ixB a) (ixE ca) := by
  refine KT.of (E := (fun _ => .inr (0, []))) (by decide) (Nat.le_of_ble_eq_true rfl) ?_
  intro p e s m args below meth c hx hb hr ht hown hlk hml hin2 hC hK hN hA3 ls hl
  have hloc : ∀ z ∈ ([] : List Loc), a ≤ z.base := fun z hz => nomatch hz
  refine lv_aload_n hx hb dX4_init_0 rfl (lv_at hl 0 rfl) ?_
  refine W.objInit hx hb hown (ht _ gw_134) (ht _ gw_83) (ht _ gw_84) rfl (by rw [hml]; exact hl.1) rfl dX4_init_1 (Nat.le_of_ble_eq_true rfl) (Nat.le_of_ble_eq_true rfl) ?_
  refine W.eq (g2 := F0 m 4 ls []) rfl ?_
  refine lv_aload_n hx hb dX4_init_4 rfl (lv_at hl 0 rfl) ?_
  refine lv_bipush (v := 36) hx hb dX4_init_5 (by decide) ?_
  refine k_arr (atype := .int) (a0 := (36, .inl (fun _ => 0))) hx hb ht gw_158 hK hC 0 (cA := ca 0) rfl (fun _ h => h) (fun _ => rfl) (by decide) rfl (by decide) (Nat.le_of_ble_eq_true rfl) (Nat.le_of_ble_eq_true rfl) dX4_init_7 (fun H hC => ?_)
  have hC : CS D a 1 s.heap (.inr (4, [.null, .null, .null, .null, .null, .int 0])) (va_up (fun _ => .inr (0, [])) 0 (.inl (ca 0, (36, .inl (fun _ => 0))))) H := hC
  refine k_put hx hb ht inG4 tyX4 tyX4_ok nmX4 hown hK hC rfl 0 (by decide) gw_135 (Or.inr ⟨rfl, hin2, rfl⟩) rfl rfl (Nat.le_of_ble_eq_true rfl) hloc dX4_init_9 (fun H locs hC hloc => ?_)
  have hC : CS D a 1 s.heap (.inr (4, [.ref (a + 1 + 0), .null, .null, .null, .null, .int 0])) (va_up (fun _ => .inr (0, [])) 0 (.inl (ca 0, (36, .inl (fun _ => 0))))) H := hC
  refine lv_aload_n hx hb dX4_init_12 rfl (lv_at hl 0 rfl) ?_
  refine lv_bipush (v := 36) hx hb dX4_init_13 (by decide) ?_
  refine k_arr (atype := .int) (a0 := (36, .inl (fun _ => 0))) hx hb ht gw_158 hK hC 0 (cA := ca 0) rfl (fun _ h => h) (fun _ => rfl) (by decide) rfl (by decide) (Nat.le_of_ble_eq_true rfl) (Nat.le_of_ble_eq_true rfl) dX4_init_15 (fun H hC => ?_)
  have hC : CS D a 2 s.heap (.inr (4, [.ref (a + 1 + 0), .null, .null, .null, .null, .int 0])) (va_up (va_up (fun _ => .inr (0, [])) 0 (.inl (ca 0, (36, .inl (fun _ => 0))))) 1 (.inl (ca 0, (36, .inl (fun _ => 0))))) H := hC
  refine k_put hx hb ht inG4 tyX4 tyX4_ok nmX4 hown hK hC rfl 1 (by decide) gw_136 (Or.inr ⟨rfl, hin2, rfl⟩) rfl rfl (Nat.le_of_ble_eq_true rfl) hloc dX4_init_17 (fun H locs hC hloc => ?_)
  have hC : CS D a 2 s.heap (.inr (4, [.ref (a + 1 + 0), .ref (a + 1 + 1), .null, .null, .null, .int 0])) (va_up (va_up (fun _ => .inr (0, [])) 0 (.inl (ca 0, (36, .inl (fun _ => 0))))) 1 (.inl (ca 0, (36, .inl (fun _ => 0))))) H := hC
  refine lv_aload_n hx hb dX4_init_20 rfl (lv_at hl 0 rfl) ?_
  refine lv_iconst (v := 3) hx hb dX4_init_21 (by decide) ?_
  refine k_arr (atype := .int) (a0 := (3, .inl (fun _ => 0))) hx hb ht gw_158 hK hC 0 (cA := ca 0) rfl (fun _ h => h) (fun _ => rfl) (by decide) rfl (by decide) (Nat.le_of_ble_eq_true rfl) (Nat.le_of_ble_eq_true rfl) dX4_init_22 (fun H hC => ?_)
  have hC : CS D a 3 s.heap (.inr (4, [.ref (a + 1 + 0), .ref (a + 1 + 1), .null, .null, .null, .int 0])) (va_up (va_up (va_up (fun _ => .inr (0, [])) 0 (.inl (ca 0, (36, .inl (fun _ => 0))))) 1 (.inl (ca 0, (36, .inl (fun _ => 0))))) 2 (.inl (ca 0, (3, .inl (fun _ => 0))))) H := hC
  refine k_put hx hb ht inG4 tyX4 tyX4_ok nmX4 hown hK hC rfl 2 (by decide) gw_137 (Or.inr ⟨rfl, hin2, rfl⟩) rfl rfl (Nat.le_of_ble_eq_true rfl) hloc dX4_init_24 (fun H locs hC hloc => ?_)
  have hC : CS D a 3 s.heap (.inr (4, [.ref (a + 1 + 0), .ref (a + 1 + 1), .ref (a + 1 + 2), .null, .null, .int 0])) (va_up (va_up (va_up (fun _ => .inr (0, [])) 0 (.inl (ca 0, (36, .inl (fun _ => 0))))) 1 (.inl (ca 0, (36, .inl (fun _ => 0))))) 2 (.inl (ca 0, (3, .inl (fun _ => 0))))) H := hC
  refine lv_aload_n hx hb dX4_init_27 rfl (lv_at hl 0 rfl) ?_
  refine lv_iconst (v := 3) hx hb dX4_init_28 (by decide) ?_
  refine k_arr (atype := .int) (a0 := (3, .inl (fun _ => 0))) hx hb ht gw_158 hK hC 0 (cA := ca 0) rfl (fun _ h => h) (fun _ => rfl) (by decide) rfl (by decide) (Nat.le_of_ble_eq_true rfl) (Nat.le_of_ble_eq_true rfl) dX4_init_29 (fun H hC => ?_)
  have hC : CS D a 4 s.heap (.inr (4, [.ref (a + 1 + 0), .ref (a + 1 + 1), .ref (a + 1 + 2), .null, .null, .int 0])) (va_up (va_up (va_up (va_up (fun _ => .inr (0, [])) 0 (.inl (ca 0, (36, .inl (fun _ => 0))))) 1 (.inl (ca 0, (36, .inl (fun _ => 0))))) 2 (.inl (ca 0, (3, .inl (fun _ => 0))))) 3 (.inl (ca 0, (3, .inl (fun _ => 0))))) H := hC
  refine k_put hx hb ht inG4 tyX4 tyX4_ok nmX4 hown hK hC rfl 3 (by decide) gw_139 (Or.inr ⟨rfl, hin2, rfl⟩) rfl rfl (Nat.le_of_ble_eq_true rfl) hloc dX4_init_31 (fun H locs hC hloc => ?_)
  have hC : CS D a 4 s.heap (.inr (4, [.ref (a + 1 + 0), .ref (a + 1 + 1), .ref (a + 1 + 2), .ref (a + 1 + 3), .null, .int 0])) (va_up (va_up (va_up (va_up (fun _ => .inr (0, [])) 0 (.inl (ca 0, (36, .inl (fun _ => 0))))) 1 (.inl (ca 0, (36, .inl (fun _ => 0))))) 2 (.inl (ca 0, (3, .inl (fun _ => 0))))) 3 (.inl (ca 0, (3, .inl (fun _ => 0))))) H := hC
  refine lv_aload_n hx hb dX4_init_34 rfl (lv_at hl 0 rfl) ?_
  refine lv_iconst (v := 3) hx hb dX4_init_35 (by decide) ?_
  refine k_arr (atype := .int) (a0 := (3, .inl (fun _ => 0))) hx hb ht gw_158 hK hC 0 (cA := ca 0) rfl (fun _ h => h) (fun _ => rfl) (by decide) rfl (by decide) (Nat.le_of_ble_eq_true rfl) (Nat.le_of_ble_eq_true rfl) dX4_init_36 (fun H hC => ?_)
  have hC : CS D a 5 s.heap (.inr (4, [.ref (a + 1 + 0), .ref (a + 1 + 1), .ref (a + 1 + 2), .ref (a + 1 + 3), .null, .int 0])) (va_up (va_up (va_up (va_up (va_up (fun _ => .inr (0, [])) 0 (.inl (ca 0, (36, .inl (fun _ => 0))))) 1 (.inl (ca 0, (36, .inl (fun _ => 0))))) 2 (.inl (ca 0, (3, .inl (fun _ => 0))))) 3 (.inl (ca 0, (3, .inl (fun _ => 0))))) 4 (.inl (ca 0, (3, .inl (fun _ => 0))))) H := hC
  refine k_put hx hb ht inG4 tyX4 tyX4_ok nmX4 hown hK hC rfl 4 (by decide) gw_141 (Or.inr ⟨rfl, hin2, rfl⟩) rfl rfl (Nat.le_of_ble_eq_true rfl) hloc dX4_init_38 (fun H locs hC hloc => ?_)
  have hC : CS D a 5 s.heap (.inr (4, [.ref (a + 1 + 0), .ref (a + 1 + 1), .ref (a + 1 + 2), .ref (a + 1 + 3), .ref (a + 1 + 4), .int 0])) (va_up (va_up (va_up (va_up (va_up (fun _ => .inr (0, [])) 0 (.inl (ca 0, (36, .inl (fun _ => 0))))) 1 (.inl (ca 0, (36, .inl (fun _ => 0))))) 2 (.inl (ca 0, (3, .inl (fun _ => 0))))) 3 (.inl (ca 0, (3, .inl (fun _ => 0))))) 4 (.inl (ca 0, (3, .inl (fun _ => 0))))) H := hC
  refine W.widen (k := 5) (n := 81) (Nat.le_of_ble_eq_true rfl) (Nat.le_of_ble_eq_true rfl) ?_
  exact k_ret hx hb hr hlk (hC.eqE (fun k hk => by rcases (by omega : k = 0 ∨ k = 1 ∨ k = 2 ∨ k = 3 ∨ k = 4) with rfl | rfl | rfl | rfl | rfl <;> rfl)) hloc dX4_init_41
set_option maxHeartbeats 4000000 in
set_option maxRecDepth 100000 in
theorem k_X1 (l : Launch) (D : va_G) (ca : Nat → ClassId) (a : Nat) : KT l D (TY ca) yX1_init cX1_init 1 1 12 2 12 1 [.int 0, .int 0, .int 0, .int 0, .int 0, .int 0, .int 0, .null, .null] a (coB a) (fun _ => zI ca 6) := by
  refine KT.of (E := (fun _ => .inr (0, []))) (by decide) (Nat.le_of_ble_eq_true rfl) ?_
  intro p e s m args below meth c hx hb hr ht hown hlk hml hin2 hC hK hN hA3 ls hl
  have hloc : ∀ z ∈ ([] : List Loc), a ≤ z.base := fun z hz => nomatch hz
  refine lv_aload_n hx hb dX1_init_0 rfl (lv_at hl 0 rfl) ?_
  refine W.objInit hx hb hown (ht _ gw_165) (ht _ gw_83) (ht _ gw_84) rfl (by rw [hml]; exact hl.1) rfl dX1_init_1 (Nat.le_of_ble_eq_true rfl) (Nat.le_of_ble_eq_true rfl) ?_
  refine W.eq (g2 := F0 m 4 ls []) rfl ?_
  refine lv_aload_n hx hb dX1_init_4 rfl (lv_at hl 0 rfl) ?_
  refine lv_bipush (v := 6) hx hb dX1_init_5 (by decide) ?_
  refine k_arr (atype := .int) (a0 := (6, .inl (fun _ => 0))) hx hb ht gw_158 hK hC 0 (cA := ca 0) rfl (fun _ h => h) (fun _ => rfl) (by decide) rfl (by decide) (Nat.le_of_ble_eq_true rfl) (Nat.le_of_ble_eq_true rfl) dX1_init_7 (fun H hC => ?_)
  have hC : CS D a 1 s.heap (.inr (1, [.int 0, .int 0, .int 0, .int 0, .int 0, .int 0, .int 0, .null, .null])) (va_up (fun _ => .inr (0, [])) 0 (.inl (ca 0, (6, .inl (fun _ => 0))))) H := hC
  refine k_put hx hb ht inG1 tyX1 tyX1_ok nmX1 hown hK hC rfl 7 (by decide) gw_189 (Or.inr ⟨rfl, hin2, rfl⟩) rfl rfl (Nat.le_of_ble_eq_true rfl) hloc dX1_init_9 (fun H locs hC hloc => ?_)
  have hC : CS D a 1 s.heap (.inr (1, [.int 0, .int 0, .int 0, .int 0, .int 0, .int 0, .int 0, .ref (a + 1 + 0), .null])) (va_up (fun _ => .inr (0, [])) 0 (.inl (ca 0, (6, .inl (fun _ => 0))))) H := hC
  refine lv_aload_n hx hb dX1_init_12 rfl (lv_at hl 0 rfl) ?_
  refine lv_bipush (v := 6) hx hb dX1_init_13 (by decide) ?_
  refine k_arr (atype := .int) (a0 := (6, .inl (fun _ => 0))) hx hb ht gw_158 hK hC 0 (cA := ca 0) rfl (fun _ h => h) (fun _ => rfl) (by decide) rfl (by decide) (Nat.le_of_ble_eq_true rfl) (Nat.le_of_ble_eq_true rfl) dX1_init_15 (fun H hC => ?_)
  have hC : CS D a 2 s.heap (.inr (1, [.int 0, .int 0, .int 0, .int 0, .int 0, .int 0, .int 0, .ref (a + 1 + 0), .null])) (va_up (va_up (fun _ => .inr (0, [])) 0 (.inl (ca 0, (6, .inl (fun _ => 0))))) 1 (.inl (ca 0, (6, .inl (fun _ => 0))))) H := hC
  refine k_put hx hb ht inG1 tyX1 tyX1_ok nmX1 hown hK hC rfl 8 (by decide) gw_191 (Or.inr ⟨rfl, hin2, rfl⟩) rfl rfl (Nat.le_of_ble_eq_true rfl) hloc dX1_init_17 (fun H locs hC hloc => ?_)
  have hC : CS D a 2 s.heap (.inr (1, [.int 0, .int 0, .int 0, .int 0, .int 0, .int 0, .int 0, .ref (a + 1 + 0), .ref (a + 1 + 1)])) (va_up (va_up (fun _ => .inr (0, [])) 0 (.inl (ca 0, (6, .inl (fun _ => 0))))) 1 (.inl (ca 0, (6, .inl (fun _ => 0))))) H := hC
  refine W.widen (k := 2) (n := 12) (Nat.le_of_ble_eq_true rfl) (Nat.le_of_ble_eq_true rfl) ?_
  exact k_ret hx hb hr hlk (hC.eqE (fun k hk => by rcases (by omega : k = 0 ∨ k = 1) with rfl | rfl <;> rfl)) hloc dX1_init_20
set_option maxHeartbeats 4000000 in
set_option maxRecDepth 100000 in
theorem k_X3 (l : Launch) (D : va_G) (ca : Nat → ClassId) (a : Nat) : KT l D (TY ca) yX3_init cX3_init 1 1 12 5 40 3 [.null, .null, .null, .null, .null, .int 0, .int 0] a (hiB a) (fun _ => zI ca 8) := by
  refine KT.of (E := (fun _ => .inr (0, []))) (by decide) (Nat.le_of_ble_eq_true rfl) ?_
  intro p e s m args below meth c hx hb hr ht hown hlk hml hin2 hC hK hN hA3 ls hl
  have hloc : ∀ z ∈ ([] : List Loc), a ≤ z.base := fun z hz => nomatch hz
  refine lv_aload_n hx hb dX3_init_0 rfl (lv_at hl 0 rfl) ?_
  refine W.objInit hx hb hown (ht _ gw_322) (ht _ gw_83) (ht _ gw_84) rfl (by rw [hml]; exact hl.1) rfl dX3_init_1 (Nat.le_of_ble_eq_true rfl) (Nat.le_of_ble_eq_true rfl) ?_
  refine W.eq (g2 := F0 m 4 ls []) rfl ?_
  refine lv_aload_n hx hb dX3_init_4 rfl (lv_at hl 0 rfl) ?_
  refine lv_bipush (v := 8) hx hb dX3_init_5 (by decide) ?_
  refine k_arr (atype := .int) (a0 := (8, .inl (fun _ => 0))) hx hb ht gw_158 hK hC 0 (cA := ca 0) rfl (fun _ h => h) (fun _ => rfl) (by decide) rfl (by decide) (Nat.le_of_ble_eq_true rfl) (Nat.le_of_ble_eq_true rfl) dX3_init_7 (fun H hC => ?_)
  have hC : CS D a 1 s.heap (.inr (3, [.null, .null, .null, .null, .null, .int 0, .int 0])) (va_up (fun _ => .inr (0, [])) 0 (.inl (ca 0, (8, .inl (fun _ => 0))))) H := hC
  refine k_put hx hb ht inG3 tyX3 tyX3_ok nmX3 hown hK hC rfl 0 (by decide) gw_323 (Or.inr ⟨rfl, hin2, rfl⟩) rfl rfl (Nat.le_of_ble_eq_true rfl) hloc dX3_init_9 (fun H locs hC hloc => ?_)
  have hC : CS D a 1 s.heap (.inr (3, [.ref (a + 1 + 0), .null, .null, .null, .null, .int 0, .int 0])) (va_up (fun _ => .inr (0, [])) 0 (.inl (ca 0, (8, .inl (fun _ => 0))))) H := hC
  refine lv_aload_n hx hb dX3_init_12 rfl (lv_at hl 0 rfl) ?_
  refine lv_bipush (v := 8) hx hb dX3_init_13 (by decide) ?_
  refine k_arr (atype := .int) (a0 := (8, .inl (fun _ => 0))) hx hb ht gw_158 hK hC 0 (cA := ca 0) rfl (fun _ h => h) (fun _ => rfl) (by decide) rfl (by decide) (Nat.le_of_ble_eq_true rfl) (Nat.le_of_ble_eq_true rfl) dX3_init_15 (fun H hC => ?_)
  have hC : CS D a 2 s.heap (.inr (3, [.ref (a + 1 + 0), .null, .null, .null, .null, .int 0, .int 0])) (va_up (va_up (fun _ => .inr (0, [])) 0 (.inl (ca 0, (8, .inl (fun _ => 0))))) 1 (.inl (ca 0, (8, .inl (fun _ => 0))))) H := hC
  refine k_put hx hb ht inG3 tyX3 tyX3_ok nmX3 hown hK hC rfl 1 (by decide) gw_325 (Or.inr ⟨rfl, hin2, rfl⟩) rfl rfl (Nat.le_of_ble_eq_true rfl) hloc dX3_init_17 (fun H locs hC hloc => ?_)
  have hC : CS D a 2 s.heap (.inr (3, [.ref (a + 1 + 0), .ref (a + 1 + 1), .null, .null, .null, .int 0, .int 0])) (va_up (va_up (fun _ => .inr (0, [])) 0 (.inl (ca 0, (8, .inl (fun _ => 0))))) 1 (.inl (ca 0, (8, .inl (fun _ => 0))))) H := hC
  refine lv_aload_n hx hb dX3_init_20 rfl (lv_at hl 0 rfl) ?_
  refine lv_bipush (v := 8) hx hb dX3_init_21 (by decide) ?_
  refine k_arr (atype := .int) (a0 := (8, .inl (fun _ => 0))) hx hb ht gw_158 hK hC 0 (cA := ca 0) rfl (fun _ h => h) (fun _ => rfl) (by decide) rfl (by decide) (Nat.le_of_ble_eq_true rfl) (Nat.le_of_ble_eq_true rfl) dX3_init_23 (fun H hC => ?_)
  have hC : CS D a 3 s.heap (.inr (3, [.ref (a + 1 + 0), .ref (a + 1 + 1), .null, .null, .null, .int 0, .int 0])) (va_up (va_up (va_up (fun _ => .inr (0, [])) 0 (.inl (ca 0, (8, .inl (fun _ => 0))))) 1 (.inl (ca 0, (8, .inl (fun _ => 0))))) 2 (.inl (ca 0, (8, .inl (fun _ => 0))))) H := hC
  refine k_put hx hb ht inG3 tyX3 tyX3_ok nmX3 hown hK hC rfl 2 (by decide) gw_327 (Or.inr ⟨rfl, hin2, rfl⟩) rfl rfl (Nat.le_of_ble_eq_true rfl) hloc dX3_init_25 (fun H locs hC hloc => ?_)
  have hC : CS D a 3 s.heap (.inr (3, [.ref (a + 1 + 0), .ref (a + 1 + 1), .ref (a + 1 + 2), .null, .null, .int 0, .int 0])) (va_up (va_up (va_up (fun _ => .inr (0, [])) 0 (.inl (ca 0, (8, .inl (fun _ => 0))))) 1 (.inl (ca 0, (8, .inl (fun _ => 0))))) 2 (.inl (ca 0, (8, .inl (fun _ => 0))))) H := hC
  refine lv_aload_n hx hb dX3_init_28 rfl (lv_at hl 0 rfl) ?_
  refine lv_bipush (v := 8) hx hb dX3_init_29 (by decide) ?_
  refine k_arr (atype := .int) (a0 := (8, .inl (fun _ => 0))) hx hb ht gw_158 hK hC 0 (cA := ca 0) rfl (fun _ h => h) (fun _ => rfl) (by decide) rfl (by decide) (Nat.le_of_ble_eq_true rfl) (Nat.le_of_ble_eq_true rfl) dX3_init_31 (fun H hC => ?_)
  have hC : CS D a 4 s.heap (.inr (3, [.ref (a + 1 + 0), .ref (a + 1 + 1), .ref (a + 1 + 2), .null, .null, .int 0, .int 0])) (va_up (va_up (va_up (va_up (fun _ => .inr (0, [])) 0 (.inl (ca 0, (8, .inl (fun _ => 0))))) 1 (.inl (ca 0, (8, .inl (fun _ => 0))))) 2 (.inl (ca 0, (8, .inl (fun _ => 0))))) 3 (.inl (ca 0, (8, .inl (fun _ => 0))))) H := hC
  refine k_put hx hb ht inG3 tyX3 tyX3_ok nmX3 hown hK hC rfl 3 (by decide) gw_329 (Or.inr ⟨rfl, hin2, rfl⟩) rfl rfl (Nat.le_of_ble_eq_true rfl) hloc dX3_init_33 (fun H locs hC hloc => ?_)
  have hC : CS D a 4 s.heap (.inr (3, [.ref (a + 1 + 0), .ref (a + 1 + 1), .ref (a + 1 + 2), .ref (a + 1 + 3), .null, .int 0, .int 0])) (va_up (va_up (va_up (va_up (fun _ => .inr (0, [])) 0 (.inl (ca 0, (8, .inl (fun _ => 0))))) 1 (.inl (ca 0, (8, .inl (fun _ => 0))))) 2 (.inl (ca 0, (8, .inl (fun _ => 0))))) 3 (.inl (ca 0, (8, .inl (fun _ => 0))))) H := hC
  refine lv_aload_n hx hb dX3_init_36 rfl (lv_at hl 0 rfl) ?_
  refine lv_bipush (v := 8) hx hb dX3_init_37 (by decide) ?_
  refine k_arr (atype := .int) (a0 := (8, .inl (fun _ => 0))) hx hb ht gw_158 hK hC 0 (cA := ca 0) rfl (fun _ h => h) (fun _ => rfl) (by decide) rfl (by decide) (Nat.le_of_ble_eq_true rfl) (Nat.le_of_ble_eq_true rfl) dX3_init_39 (fun H hC => ?_)
  have hC : CS D a 5 s.heap (.inr (3, [.ref (a + 1 + 0), .ref (a + 1 + 1), .ref (a + 1 + 2), .ref (a + 1 + 3), .null, .int 0, .int 0])) (va_up (va_up (va_up (va_up (va_up (fun _ => .inr (0, [])) 0 (.inl (ca 0, (8, .inl (fun _ => 0))))) 1 (.inl (ca 0, (8, .inl (fun _ => 0))))) 2 (.inl (ca 0, (8, .inl (fun _ => 0))))) 3 (.inl (ca 0, (8, .inl (fun _ => 0))))) 4 (.inl (ca 0, (8, .inl (fun _ => 0))))) H := hC
  refine k_put hx hb ht inG3 tyX3 tyX3_ok nmX3 hown hK hC rfl 4 (by decide) gw_331 (Or.inr ⟨rfl, hin2, rfl⟩) rfl rfl (Nat.le_of_ble_eq_true rfl) hloc dX3_init_41 (fun H locs hC hloc => ?_)
  have hC : CS D a 5 s.heap (.inr (3, [.ref (a + 1 + 0), .ref (a + 1 + 1), .ref (a + 1 + 2), .ref (a + 1 + 3), .ref (a + 1 + 4), .int 0, .int 0])) (va_up (va_up (va_up (va_up (va_up (fun _ => .inr (0, [])) 0 (.inl (ca 0, (8, .inl (fun _ => 0))))) 1 (.inl (ca 0, (8, .inl (fun _ => 0))))) 2 (.inl (ca 0, (8, .inl (fun _ => 0))))) 3 (.inl (ca 0, (8, .inl (fun _ => 0))))) 4 (.inl (ca 0, (8, .inl (fun _ => 0))))) H := hC
  refine W.widen (k := 5) (n := 40) (Nat.le_of_ble_eq_true rfl) (Nat.le_of_ble_eq_true rfl) ?_
  exact k_ret hx hb hr hlk (hC.eqE (fun k hk => by rcases (by omega : k = 0 ∨ k = 1 ∨ k = 2 ∨ k = 3 ∨ k = 4) with rfl | rfl | rfl | rfl | rfl <;> rfl)) hloc dX3_init_44
set_option maxHeartbeats 4000000 in
set_option maxRecDepth 100000 in
theorem k_X6 (l : Launch) (D : va_G) (ca : Nat → ClassId) (a : Nat) : KT l D (TY ca) yX6_init cX6_init 1 1 12 1 740 6 [.null, .int 0, .int 0, .int 0, .int 0, .int 0] a (taB a) (fun _ => zB ca) := by
  refine KT.of (E := (fun _ => .inr (0, []))) (by decide) (Nat.le_of_ble_eq_true rfl) ?_
  intro p e s m args below meth c hx hb hr ht hown hlk hml hin2 hC hK hN hA3 ls hl
  have hloc : ∀ z ∈ ([] : List Loc), a ≤ z.base := fun z hz => nomatch hz
  refine lv_aload_n hx hb dX6_init_0 rfl (lv_at hl 0 rfl) ?_
  refine W.objInit hx hb hown (ht _ gw_96) (ht _ gw_83) (ht _ gw_84) rfl (by rw [hml]; exact hl.1) rfl dX6_init_1 (Nat.le_of_ble_eq_true rfl) (Nat.le_of_ble_eq_true rfl) ?_
  refine W.eq (g2 := F0 m 4 ls []) rfl ?_
  refine lv_aload_n hx hb dX6_init_4 rfl (lv_at hl 0 rfl) ?_
  refine lv_sipush (v := 740) hx hb dX6_init_5 (by decide) ?_
  refine k_arr (atype := .byte) (a0 := (740, .inl (fun _ => 0))) hx hb ht gw_121 hK hC 1 (cA := ca 1) rfl (fun _ h => h) (fun _ => rfl) (by decide) rfl (by decide) (Nat.le_of_ble_eq_true rfl) (Nat.le_of_ble_eq_true rfl) dX6_init_8 (fun H hC => ?_)
  have hC : CS D a 1 s.heap (.inr (6, [.null, .int 0, .int 0, .int 0, .int 0, .int 0])) (va_up (fun _ => .inr (0, [])) 0 (.inl (ca 1, (740, .inl (fun _ => 0))))) H := hC
  refine k_put hx hb ht inG6 tyX6 tyX6_ok nmX6 hown hK hC rfl 0 (by decide) gw_97 (Or.inr ⟨rfl, hin2, rfl⟩) rfl rfl (Nat.le_of_ble_eq_true rfl) hloc dX6_init_10 (fun H locs hC hloc => ?_)
  have hC : CS D a 1 s.heap (.inr (6, [.ref (a + 1 + 0), .int 0, .int 0, .int 0, .int 0, .int 0])) (va_up (fun _ => .inr (0, [])) 0 (.inl (ca 1, (740, .inl (fun _ => 0))))) H := hC
  refine W.widen (k := 1) (n := 740) (Nat.le_of_ble_eq_true rfl) (Nat.le_of_ble_eq_true rfl) ?_
  exact k_ret hx hb hr hlk (hC.eqE (fun k hk => by obtain rfl : k = 0 := (by omega); rfl)) hloc dX6_init_13
set_option maxHeartbeats 4000000 in
set_option maxRecDepth 100000 in
theorem k_X9 (l : Launch) (D : va_G) (ca : Nat → ClassId) (a : Nat) : KT l D (TY ca) yX9_init cX9_init 1 1 12 5 9546 9 [.int 0, .null, .int 0, .int 0, .int 0, .int 0, .int 0, .int 0, .int 0, .int 0, .int 0, .long 0, .null, .null, .null, .null, .int 0] a (mdB a) (mdE ca) := by
  refine KT.of (E := (fun _ => .inr (0, []))) (by decide) (Nat.le_of_ble_eq_true rfl) ?_
  intro p e s m args below meth c hx hb hr ht hown hlk hml hin2 hC hK hN hA3 ls hl
  have hloc : ∀ z ∈ ([] : List Loc), a ≤ z.base := fun z hz => nomatch hz
  refine lv_aload_n hx hb dX9_init_0 rfl (lv_at hl 0 rfl) ?_
  refine W.objInit hx hb hown (ht _ gw_938) (ht _ gw_83) (ht _ gw_84) rfl (by rw [hml]; exact hl.1) rfl dX9_init_1 (Nat.le_of_ble_eq_true rfl) (Nat.le_of_ble_eq_true rfl) ?_
  refine W.eq (g2 := F0 m 4 ls []) rfl ?_
  refine lv_aload_n hx hb dX9_init_4 rfl (lv_at hl 0 rfl) ?_
  refine lv_sipush (v := 740) hx hb dX9_init_5 (by decide) ?_
  refine k_arr (atype := .int) (a0 := (740, .inl (fun _ => 0))) hx hb ht gw_158 hK hC 0 (cA := ca 0) rfl (fun _ h => h) (fun _ => rfl) (by decide) rfl (by decide) (Nat.le_of_ble_eq_true rfl) (Nat.le_of_ble_eq_true rfl) dX9_init_8 (fun H hC => ?_)
  have hC : CS D a 1 s.heap (.inr (9, [.int 0, .null, .int 0, .int 0, .int 0, .int 0, .int 0, .int 0, .int 0, .int 0, .int 0, .long 0, .null, .null, .null, .null, .int 0])) (va_up (fun _ => .inr (0, [])) 0 (.inl (ca 0, (740, .inl (fun _ => 0))))) H := hC
  refine k_put hx hb ht inG9 tyX9 tyX9_ok nmX9 hown hK hC rfl 1 (by decide) gw_940 (Or.inr ⟨rfl, hin2, rfl⟩) rfl rfl (Nat.le_of_ble_eq_true rfl) hloc dX9_init_10 (fun H locs hC hloc => ?_)
  have hC : CS D a 1 s.heap (.inr (9, [.int 0, .ref (a + 1 + 0), .int 0, .int 0, .int 0, .int 0, .int 0, .int 0, .int 0, .int 0, .int 0, .long 0, .null, .null, .null, .null, .int 0])) (va_up (fun _ => .inr (0, [])) 0 (.inl (ca 0, (740, .inl (fun _ => 0))))) H := hC
  refine lv_aload_n hx hb dX9_init_13 rfl (lv_at hl 0 rfl) ?_
  refine lv_sipush (v := 880) hx hb dX9_init_14 (by decide) ?_
  refine k_arr (atype := .int) (a0 := (880, .inl (fun _ => 0))) hx hb ht gw_158 hK hC 0 (cA := ca 0) rfl (fun _ h => h) (fun _ => rfl) (by decide) rfl (by decide) (Nat.le_of_ble_eq_true rfl) (Nat.le_of_ble_eq_true rfl) dX9_init_17 (fun H hC => ?_)
  have hC : CS D a 2 s.heap (.inr (9, [.int 0, .ref (a + 1 + 0), .int 0, .int 0, .int 0, .int 0, .int 0, .int 0, .int 0, .int 0, .int 0, .long 0, .null, .null, .null, .null, .int 0])) (va_up (va_up (fun _ => .inr (0, [])) 0 (.inl (ca 0, (740, .inl (fun _ => 0))))) 1 (.inl (ca 0, (880, .inl (fun _ => 0))))) H := hC
  refine k_put hx hb ht inG9 tyX9 tyX9_ok nmX9 hown hK hC rfl 12 (by decide) gw_951 (Or.inr ⟨rfl, hin2, rfl⟩) rfl rfl (Nat.le_of_ble_eq_true rfl) hloc dX9_init_19 (fun H locs hC hloc => ?_)
  have hC : CS D a 2 s.heap (.inr (9, [.int 0, .ref (a + 1 + 0), .int 0, .int 0, .int 0, .int 0, .int 0, .int 0, .int 0, .int 0, .int 0, .long 0, .ref (a + 1 + 1), .null, .null, .null, .int 0])) (va_up (va_up (fun _ => .inr (0, [])) 0 (.inl (ca 0, (740, .inl (fun _ => 0))))) 1 (.inl (ca 0, (880, .inl (fun _ => 0))))) H := hC
  refine lv_aload_n hx hb dX9_init_22 rfl (lv_at hl 0 rfl) ?_
  refine lv_sipush (v := 880) hx hb dX9_init_23 (by decide) ?_
  refine k_arr (atype := .int) (a0 := (880, .inl (fun _ => 0))) hx hb ht gw_158 hK hC 0 (cA := ca 0) rfl (fun _ h => h) (fun _ => rfl) (by decide) rfl (by decide) (Nat.le_of_ble_eq_true rfl) (Nat.le_of_ble_eq_true rfl) dX9_init_26 (fun H hC => ?_)
  have hC : CS D a 3 s.heap (.inr (9, [.int 0, .ref (a + 1 + 0), .int 0, .int 0, .int 0, .int 0, .int 0, .int 0, .int 0, .int 0, .int 0, .long 0, .ref (a + 1 + 1), .null, .null, .null, .int 0])) (va_up (va_up (va_up (fun _ => .inr (0, [])) 0 (.inl (ca 0, (740, .inl (fun _ => 0))))) 1 (.inl (ca 0, (880, .inl (fun _ => 0))))) 2 (.inl (ca 0, (880, .inl (fun _ => 0))))) H := hC
  refine k_put hx hb ht inG9 tyX9 tyX9_ok nmX9 hown hK hC rfl 13 (by decide) gw_952 (Or.inr ⟨rfl, hin2, rfl⟩) rfl rfl (Nat.le_of_ble_eq_true rfl) hloc dX9_init_28 (fun H locs hC hloc => ?_)
  have hC : CS D a 3 s.heap (.inr (9, [.int 0, .ref (a + 1 + 0), .int 0, .int 0, .int 0, .int 0, .int 0, .int 0, .int 0, .int 0, .int 0, .long 0, .ref (a + 1 + 1), .ref (a + 1 + 2), .null, .null, .int 0])) (va_up (va_up (va_up (fun _ => .inr (0, [])) 0 (.inl (ca 0, (740, .inl (fun _ => 0))))) 1 (.inl (ca 0, (880, .inl (fun _ => 0))))) 2 (.inl (ca 0, (880, .inl (fun _ => 0))))) H := hC
  refine lv_aload_n hx hb dX9_init_31 rfl (lv_at hl 0 rfl) ?_
  refine lv_sipush (v := 7040) hx hb dX9_init_32 (by decide) ?_
  refine k_arr (atype := .int) (a0 := (7040, .inl (fun _ => 0))) hx hb ht gw_158 hK hC 0 (cA := ca 0) rfl (fun _ h => h) (fun _ => rfl) (by decide) rfl (by decide) (Nat.le_of_ble_eq_true rfl) (Nat.le_of_ble_eq_true rfl) dX9_init_35 (fun H hC => ?_)
  have hC : CS D a 4 s.heap (.inr (9, [.int 0, .ref (a + 1 + 0), .int 0, .int 0, .int 0, .int 0, .int 0, .int 0, .int 0, .int 0, .int 0, .long 0, .ref (a + 1 + 1), .ref (a + 1 + 2), .null, .null, .int 0])) (va_up (va_up (va_up (va_up (fun _ => .inr (0, [])) 0 (.inl (ca 0, (740, .inl (fun _ => 0))))) 1 (.inl (ca 0, (880, .inl (fun _ => 0))))) 2 (.inl (ca 0, (880, .inl (fun _ => 0))))) 3 (.inl (ca 0, (7040, .inl (fun _ => 0))))) H := hC
  refine k_put hx hb ht inG9 tyX9 tyX9_ok nmX9 hown hK hC rfl 14 (by decide) gw_953 (Or.inr ⟨rfl, hin2, rfl⟩) rfl rfl (Nat.le_of_ble_eq_true rfl) hloc dX9_init_37 (fun H locs hC hloc => ?_)
  have hC : CS D a 4 s.heap (.inr (9, [.int 0, .ref (a + 1 + 0), .int 0, .int 0, .int 0, .int 0, .int 0, .int 0, .int 0, .int 0, .int 0, .long 0, .ref (a + 1 + 1), .ref (a + 1 + 2), .ref (a + 1 + 3), .null, .int 0])) (va_up (va_up (va_up (va_up (fun _ => .inr (0, [])) 0 (.inl (ca 0, (740, .inl (fun _ => 0))))) 1 (.inl (ca 0, (880, .inl (fun _ => 0))))) 2 (.inl (ca 0, (880, .inl (fun _ => 0))))) 3 (.inl (ca 0, (7040, .inl (fun _ => 0))))) H := hC
  refine lv_aload_n hx hb dX9_init_40 rfl (lv_at hl 0 rfl) ?_
  refine lv_bipush (v := 6) hx hb dX9_init_41 (by decide) ?_
  refine k_arr (atype := .long) (a0 := (6, .inr (.inl (fun _ => 0)))) hx hb ht gw_991 hK hC 5 (cA := ca 5) rfl (fun _ h => h) (fun _ => rfl) (by decide) rfl (by decide) (Nat.le_of_ble_eq_true rfl) (Nat.le_of_ble_eq_true rfl) dX9_init_43 (fun H hC => ?_)
  have hC : CS D a 5 s.heap (.inr (9, [.int 0, .ref (a + 1 + 0), .int 0, .int 0, .int 0, .int 0, .int 0, .int 0, .int 0, .int 0, .int 0, .long 0, .ref (a + 1 + 1), .ref (a + 1 + 2), .ref (a + 1 + 3), .null, .int 0])) (va_up (va_up (va_up (va_up (va_up (fun _ => .inr (0, [])) 0 (.inl (ca 0, (740, .inl (fun _ => 0))))) 1 (.inl (ca 0, (880, .inl (fun _ => 0))))) 2 (.inl (ca 0, (880, .inl (fun _ => 0))))) 3 (.inl (ca 0, (7040, .inl (fun _ => 0))))) 4 (.inl (ca 5, (6, .inr (.inl (fun _ => 0)))))) H := hC
  refine k_put hx hb ht inG9 tyX9 tyX9_ok nmX9 hown hK hC rfl 15 (by decide) gw_954 (Or.inr ⟨rfl, hin2, rfl⟩) rfl rfl (Nat.le_of_ble_eq_true rfl) hloc dX9_init_45 (fun H locs hC hloc => ?_)
  have hC : CS D a 5 s.heap (.inr (9, [.int 0, .ref (a + 1 + 0), .int 0, .int 0, .int 0, .int 0, .int 0, .int 0, .int 0, .int 0, .int 0, .long 0, .ref (a + 1 + 1), .ref (a + 1 + 2), .ref (a + 1 + 3), .ref (a + 1 + 4), .int 0])) (va_up (va_up (va_up (va_up (va_up (fun _ => .inr (0, [])) 0 (.inl (ca 0, (740, .inl (fun _ => 0))))) 1 (.inl (ca 0, (880, .inl (fun _ => 0))))) 2 (.inl (ca 0, (880, .inl (fun _ => 0))))) 3 (.inl (ca 0, (7040, .inl (fun _ => 0))))) 4 (.inl (ca 5, (6, .inr (.inl (fun _ => 0)))))) H := hC
  refine W.widen (k := 5) (n := 9546) (Nat.le_of_ble_eq_true rfl) (Nat.le_of_ble_eq_true rfl) ?_
  exact k_ret hx hb hr hlk (hC.eqE (fun k hk => by rcases (by omega : k = 0 ∨ k = 1 ∨ k = 2 ∨ k = 3 ∨ k = 4) with rfl | rfl | rfl | rfl | rfl <;> rfl)) hloc dX9_init_48
set_option maxHeartbeats 4000000 in
set_option maxRecDepth 100000 in
theorem lp_X0_b {l : Launch} {D : va_G} {ca : Nat → ClassId} {a : Nat} {p : Program} {e : Env} {s : State} {m : MethodId} {args : Array Value} {below : List Frame} {meth : Method} {c : Code} (hx : p.tables.exec = Jvm.exec) (hb : c.code = cX0_init) (hr : meth.sig.returnType = none) (ht : ∀ w ∈ GG, w.before args s = true) (hown : s.vm.findClass yX0_init.cls = some m.cls) (hlk : meth.locks = false) (hml : c.maxLocals = 2) (hin2 : meth.name = "<init>") (hK : va_K D vwCl (TY ca) s) (hN : NW s) (hA3 : AO3 s) : ∀ (n i : Nat) (hi : i ≤ 6) (hn : 6 - i < n) (H : Heap) (locs : List Loc) (hC : CS D a (38 + 3 * i) s.heap (.inr (0, [.int 0, .int 0, .int 0, .ref (a + 1 + 0), .ref (a + 1 + 37)])) (bkE ca a 6 i) H) (hloc : ∀ z ∈ locs, a ≤ z.base) (ls : Array Slot) (hl : lv_has ls 2 [(1, .int (nI i)), (0, .ref a)]), W p l e { frames := 2, cells := 56, slots := 660, locals := 32 } s m args below meth c H locs (38 + 3 * i) (534 + 21 * i) (MQ below (KQ D a 56 (bkB a) (bkE ca a 6 6)) args s 56 660 (fun q => a ≤ q)) (F0 m 51 ls []) := by
  intro n
  induction n with
  | zero => intro i hi hn; exfalso; omega
  | succ n ih =>
    intro i hi hn H locs hC hloc ls hl
    refine lv_iload_n hx hb dX0_init_51 rfl (lv_at hl 0 rfl) ?_
    refine lv_bipush (v := 6) hx hb dX0_init_52 (by decide) ?_
    refine lv_icmp_ge (tgt := 76) hx hb dX0_init_54 (by decide) (fun c1 => ?_) (fun c1 => ?_)
    · have e1 : i = 6 := by rw [i_le, nI_toInt (by omega)] at c1; have e2 : (6 : Int32).toInt = 6 := rfl; omega
      subst e1
      refine W.widen (k := 56) (n := 660) (by omega) (by omega) ?_
      exact k_ret hx hb hr hlk hC hloc dX0_init_76
    · have hi5 : i < 6 := by rw [i_le, nI_toInt (by omega)] at c1; have e2 : (6 : Int32).toInt = 6 := rfl; omega
      refine lv_aload_n hx hb dX0_init_57 rfl (lv_at hl 1 rfl) ?_
      refine k_get hx hb ht inG0 hown hK hC rfl 4 (by decide) gw_223 (v := .ref (a + 1 + 37)) rfl dX0_init_58 ?_
      refine lv_iload_n hx hb dX0_init_61 rfl (lv_at hl 0 rfl) ?_
      refine k_new hx hb ht inG1 tyX1 tyX1_ok hown gw_159 gw_161 gw_63 hK hC (ci := 1) rfl (fs := [.int 0, .int 0, .int 0, .int 0, .int 0, .int 0, .int 0, .null, .null]) (fun j hj => by rcases (by omega : j = 0 ∨ j = 1 ∨ j = 2 ∨ j = 3 ∨ j = 4 ∨ j = 5 ∨ j = 6 ∨ j = 7 ∨ j = 8) with rfl | rfl | rfl | rfl | rfl | rfl | rfl | rfl | rfl <;> rfl) (by show 38 + 3 * i + 1 ≤ 56; omega) (by show 534 + 21 * i + 9 ≤ 660; omega) dX0_init_62 (fun H hC => ?_)
      refine lv_dup hx hb dX0_init_65 rfl ?_
      refine k_call ⟨hx, hb, hml, hown, ht⟩ hK hN hA3 hC hloc (k_X1 l D ca (a + 1 + (38 + 3 * i))) gw_162 gw_163 gw_63 gw_164 rfl (by decide +kernel) ⟨by decide, by decide⟩ hl.1 (Nat.le_of_ble_eq_true rfl) ⟨by show 38 + 3 * i + 1 + 2 ≤ 56; omega, by show 534 + 21 * i + 9 + 12 ≤ 660; omega⟩ dX0_init_66 (fun H locs hC hloc => ?_)
      have hJ0 : joinE (38 + 3 * i) (bkE ca a 6 i) (coB (a + 1 + (38 + 3 * i))) (fun _ => zI ca 6) 37 = zRef ca 3 6 (fun j => if j < i then some (a + 39 + 3 * j) else none) := by unfold joinE; rw [if_pos (by omega)]; rfl
      have hJv : joinE (38 + 3 * i) (bkE ca a 6 i) (coB (a + 1 + (38 + 3 * i))) (fun _ => zI ca 6) (38 + 3 * i) = (coB (a + 1 + (38 + 3 * i))) := by unfold joinE; rw [if_neg (by omega), if_pos rfl]
      refine k_aast hx hb hK hC 37 (38 + 3 * i) 3 1 (by omega) (by omega) hJ0 rfl hJv rfl (vp_in_nI (by omega) (by decide)) hloc dX0_init_69 (fun H locs hC hloc => ?_)
      refine lv_iinc (v := nI i + 1) (lv' := [(1, .int (nI i + 1)), (0, .ref a)]) hx hb dX0_init_70 hl (k := 0) rfl rfl (by decide) rfl (fun ls hl => ?_)
      refine lv_goto (tgt := 51) hx hb dX0_init_73 (by decide) ?_
      rw [nI_1] at hl
      rw [nI_clamp (by omega)] at hC
      refine W.widen (k := 38 + 3 * (i + 1)) (n := 534 + 21 * (i + 1)) (by omega) (by omega) ?_
      have hC9 : CS D a (38 + 3 * (i + 1)) s.heap (.inr (0, [.int 0, .int 0, .int 0, .ref (a + 1 + 0), .ref (a + 1 + 37)])) (bkE ca a 6 (i + 1)) H := by
        rw [show 38 + 3 * (i + 1) = 38 + 3 * i + 1 + 2 by omega]
        refine hC.eqE (fun k hk => ?_)
        by_cases h0 : k = 37
        · subst h0
          rw [va_up_self]
          show _ = zRef ca 3 6 (fun j => if j < i + 1 then some (a + 39 + 3 * j) else none)
          unfold zRef
          congr 7
          funext j
          by_cases hj : j = i
          · subst hj; rw [va_up_self, if_pos (by omega)]; congr 1; omega
          · rw [va_up_ne _ _ hj]
            by_cases hj2 : j < i
            · rw [if_pos hj2, if_pos (by omega)]
            · rw [if_neg hj2, if_neg (by omega)]
        · rw [va_up_ne _ _ h0]
          unfold joinE
          by_cases h1 : k < 38 + 3 * i
          · rw [if_pos h1]
            unfold bkE
            rw [if_neg h0, if_neg h0]
          · rw [if_neg h1]
            by_cases h2 : k = 38 + 3 * i
            · rw [if_pos h2]
              unfold bkE
              rw [if_neg (by omega), if_neg (by omega), if_neg h0, if_pos (by omega), h2]
            · rw [if_neg h2]
              unfold bkE
              rw [if_neg (by omega), if_neg (by omega), if_neg h0, if_neg (by omega)]
      exact ih (i + 1) (by omega) (by omega) H locs hC9 hloc ls hl
set_option maxHeartbeats 4000000 in
set_option maxRecDepth 100000 in
theorem lp_X0_a {l : Launch} {D : va_G} {ca : Nat → ClassId} {a : Nat} {p : Program} {e : Env} {s : State} {m : MethodId} {args : Array Value} {below : List Frame} {meth : Method} {c : Code} (hx : p.tables.exec = Jvm.exec) (hb : c.code = cX0_init) (hr : meth.sig.returnType = none) (ht : ∀ w ∈ GG, w.before args s = true) (hown : s.vm.findClass yX0_init.cls = some m.cls) (hlk : meth.locks = false) (hml : c.maxLocals = 2) (hin2 : meth.name = "<init>") (hK : va_K D vwCl (TY ca) s) (hN : NW s) (hA3 : AO3 s) : ∀ (n i : Nat) (hi : i ≤ 6) (hn : 6 - i < n) (H : Heap) (locs : List Loc) (hC : CS D a (1 + 6 * i) s.heap (.inr (0, [.int 0, .int 0, .int 0, .ref (a + 1 + 0), .null])) (bkE ca a i 0) H) (hloc : ∀ z ∈ locs, a ≤ z.base) (ls : Array Slot) (hl : lv_has ls 2 [(1, .int (nI i)), (0, .ref a)]), W p l e { frames := 2, cells := 56, slots := 660, locals := 32 } s m args below meth c H locs (1 + 6 * i) (6 + 87 * i) (MQ below (KQ D a 56 (bkB a) (bkE ca a 6 6)) args s 56 660 (fun q => a ≤ q)) (F0 m 15 ls []) := by
  intro n
  induction n with
  | zero => intro i hi hn; exfalso; omega
  | succ n ih =>
    intro i hi hn H locs hC hloc ls hl
    refine lv_iload_n hx hb dX0_init_15 rfl (lv_at hl 0 rfl) ?_
    refine lv_bipush (v := 6) hx hb dX0_init_16 (by decide) ?_
    refine lv_icmp_ge (tgt := 40) hx hb dX0_init_18 (by decide) (fun c1 => ?_) (fun c1 => ?_)
    · have e1 : i = 6 := by rw [i_le, nI_toInt (by omega)] at c1; have e2 : (6 : Int32).toInt = 6 := rfl; omega
      subst e1
      refine lv_aload_n hx hb dX0_init_40 rfl (lv_at hl 1 rfl) ?_
      refine lv_bipush (v := 6) hx hb dX0_init_41 (by decide) ?_
      refine k_arq (N' := 6) hx hb ht hown gw_159 hA3.2.1 hK hC 3 (cA := ca 3) rfl (by decide) rfl (by decide) (Nat.le_of_ble_eq_true rfl) (Nat.le_of_ble_eq_true rfl) dX0_init_43 (fun H hC => ?_)
      refine k_put hx hb ht inG0 tyX0 tyX0_ok nmX0 hown hK hC rfl 4 (by decide) gw_223 (Or.inr ⟨rfl, hin2, rfl⟩) rfl rfl (Nat.le_of_ble_eq_true rfl) hloc dX0_init_46 (fun H locs hC hloc => ?_)
      refine lv_iconst (v := 0) hx hb dX0_init_49 (by decide) ?_
      refine lv_istore_n (lv' := [(1, .int 0), (0, .ref a)]) hx hb dX0_init_50 rfl hl (by decide) rfl (fun ls hl => ?_)
      refine W.widen (k := 38 + 3 * 0) (n := 534 + 21 * 0) (by omega) (by omega) ?_
      refine lp_X0_b hx hb hr ht hown hlk hml hin2 hK hN hA3 7 0 (by omega) (by omega) H locs (hC.eqE (fun k hk => ?_)) hloc ls hl
      by_cases h0 : k = 37
      · subst h0
        rfl
      · have h1 : k ≠ 1 + 6 * 6 := by omega
        rw [va_up_ne _ _ h1]
    · have hi5 : i < 6 := by rw [i_le, nI_toInt (by omega)] at c1; have e2 : (6 : Int32).toInt = 6 := rfl; omega
      refine lv_aload_n hx hb dX0_init_21 rfl (lv_at hl 1 rfl) ?_
      refine k_get hx hb ht inG0 hown hK hC rfl 3 (by decide) gw_222 (v := .ref (a + 1 + 0)) rfl dX0_init_22 ?_
      refine lv_iload_n hx hb dX0_init_25 rfl (lv_at hl 0 rfl) ?_
      refine k_new hx hb ht inG4 tyX4 tyX4_ok hown gw_128 gw_130 gw_62 hK hC (ci := 4) rfl (fs := [.null, .null, .null, .null, .null, .int 0]) (fun j hj => by rcases (by omega : j = 0 ∨ j = 1 ∨ j = 2 ∨ j = 3 ∨ j = 4 ∨ j = 5) with rfl | rfl | rfl | rfl | rfl | rfl <;> rfl) (by show 1 + 6 * i + 1 ≤ 56; omega) (by show 6 + 87 * i + 6 ≤ 660; omega) dX0_init_26 (fun H hC => ?_)
      refine lv_dup hx hb dX0_init_29 rfl ?_
      refine k_call ⟨hx, hb, hml, hown, ht⟩ hK hN hA3 hC hloc (k_X4 l D ca (a + 1 + (1 + 6 * i))) gw_131 gw_132 gw_62 gw_133 rfl (by decide +kernel) ⟨by decide, by decide⟩ hl.1 (Nat.le_of_ble_eq_true rfl) ⟨by show 1 + 6 * i + 1 + 5 ≤ 56; omega, by show 6 + 87 * i + 6 + 81 ≤ 660; omega⟩ dX0_init_30 (fun H locs hC hloc => ?_)
      have hJ0 : joinE (1 + 6 * i) (bkE ca a i 0) (ixB (a + 1 + (1 + 6 * i))) (ixE ca) 0 = zRef ca 2 6 (fun j => if j < i then some (a + 2 + 6 * j) else none) := by unfold joinE; rw [if_pos (by omega)]; rfl
      have hJv : joinE (1 + 6 * i) (bkE ca a i 0) (ixB (a + 1 + (1 + 6 * i))) (ixE ca) (1 + 6 * i) = (ixB (a + 1 + (1 + 6 * i))) := by unfold joinE; rw [if_neg (by omega), if_pos rfl]
      refine k_aast hx hb hK hC 0 (1 + 6 * i) 2 4 (by omega) (by omega) hJ0 rfl hJv rfl (vp_in_nI (by omega) (by decide)) hloc dX0_init_33 (fun H locs hC hloc => ?_)
      refine lv_iinc (v := nI i + 1) (lv' := [(1, .int (nI i + 1)), (0, .ref a)]) hx hb dX0_init_34 hl (k := 0) rfl rfl (by decide) rfl (fun ls hl => ?_)
      refine lv_goto (tgt := 15) hx hb dX0_init_37 (by decide) ?_
      rw [nI_1] at hl
      rw [nI_clamp (by omega)] at hC
      refine W.widen (k := 1 + 6 * (i + 1)) (n := 6 + 87 * (i + 1)) (by omega) (by omega) ?_
      have hC9 : CS D a (1 + 6 * (i + 1)) s.heap (.inr (0, [.int 0, .int 0, .int 0, .ref (a + 1 + 0), .null])) (bkE ca a (i + 1) 0) H := by
        rw [show 1 + 6 * (i + 1) = 1 + 6 * i + 1 + 5 by omega]
        refine hC.eqE (fun k hk => ?_)
        by_cases h0 : k = 0
        · subst h0
          rw [va_up_self]
          show _ = zRef ca 2 6 (fun j => if j < i + 1 then some (a + 2 + 6 * j) else none)
          unfold zRef
          congr 7
          funext j
          by_cases hj : j = i
          · subst hj; rw [va_up_self, if_pos (by omega)]; congr 1; omega
          · rw [va_up_ne _ _ hj]
            by_cases hj2 : j < i
            · rw [if_pos hj2, if_pos (by omega)]
            · rw [if_neg hj2, if_neg (by omega)]
        · rw [va_up_ne _ _ h0]
          unfold joinE
          by_cases h1 : k < 1 + 6 * i
          · rw [if_pos h1]
            unfold bkE
            rw [if_neg h0, if_neg h0]
          · rw [if_neg h1]
            by_cases h2 : k = 1 + 6 * i
            · rw [if_pos h2]
              unfold bkE
              rw [if_neg h0, if_pos (by omega), if_pos (by omega), h2]
            · rw [if_neg h2]
              unfold bkE
              rw [if_neg h0, if_pos (by omega), if_neg (by omega), show (k - 1) % 6 - 1 = k - (1 + 6 * i + 1) by omega]
      exact ih (i + 1) (by omega) (by omega) H locs hC9 hloc ls hl
set_option maxHeartbeats 4000000 in
set_option maxRecDepth 100000 in
theorem k_X0 (l : Launch) (D : va_G) (ca : Nat → ClassId) (a : Nat) : KT l D (TY ca) yX0_init cX0_init 2 2 32 56 660 0 [.int 0, .int 0, .int 0, .null, .null] a (bkB a) (bkE ca a 6 6) := by
  refine KT.of (E := (fun _ => .inr (0, []))) (by decide) (Nat.le_of_ble_eq_true rfl) ?_
  intro p e s m args below meth c hx hb hr ht hown hlk hml hin2 hC hK hN hA3 ls hl
  have hloc : ∀ z ∈ ([] : List Loc), a ≤ z.base := fun z hz => nomatch hz
  refine lv_aload_n hx hb dX0_init_0 rfl (lv_at hl 0 rfl) ?_
  refine W.objInit hx hb hown (ht _ gw_127) (ht _ gw_83) (ht _ gw_84) rfl (by rw [hml]; exact hl.1) rfl dX0_init_1 (Nat.le_of_ble_eq_true rfl) (Nat.le_of_ble_eq_true rfl) ?_
  refine W.eq (g2 := F0 m 4 ls []) rfl ?_
  refine lv_aload_n hx hb dX0_init_4 rfl (lv_at hl 0 rfl) ?_
  refine lv_bipush (v := 6) hx hb dX0_init_5 (by decide) ?_
  refine k_arq (N' := 6) hx hb ht hown gw_128 hA3.1 hK hC 2 (cA := ca 2) rfl (by decide) rfl (by decide) (Nat.le_of_ble_eq_true rfl) (Nat.le_of_ble_eq_true rfl) dX0_init_7 (fun H hC => ?_)
  refine k_put hx hb ht inG0 tyX0 tyX0_ok nmX0 hown hK hC rfl 3 (by decide) gw_222 (Or.inr ⟨rfl, hin2, rfl⟩) rfl rfl (Nat.le_of_ble_eq_true rfl) hloc dX0_init_10 (fun H locs hC hloc => ?_)
  refine lv_iconst (v := 0) hx hb dX0_init_13 (by decide) ?_
  refine lv_istore_n (lv' := [(1, .int 0), (0, .ref a)]) hx hb dX0_init_14 rfl hl (by decide) rfl (fun ls hl => ?_)
  refine W.widen (k := 1 + 6 * 0) (n := 6 + 87 * 0) (by omega) (by omega) ?_
  refine lp_X0_a hx hb hr ht hown hlk hml hin2 hK hN hA3 7 0 (by omega) (by omega) H locs (hC.eqE (fun k hk => ?_)) hloc ls hl
  obtain rfl : k = 0 := by omega
  rfl
set_option maxHeartbeats 4000000 in
set_option maxRecDepth 100000 in
theorem lp_X5_a {l : Launch} {D : va_G} {ca : Nat → ClassId} {a : Nat} {p : Program} {e : Env} {s : State} {m : MethodId} {args : Array Value} {below : List Frame} {meth : Method} {c : Code} (hx : p.tables.exec = Jvm.exec) (hb : c.code = cX5_init) (hr : meth.sig.returnType = none) (ht : ∀ w ∈ GG, w.before args s = true) (hown : s.vm.findClass yX5_init.cls = some m.cls) (hlk : meth.locks = false) (hml : c.maxLocals = 2) (hin2 : meth.name = "<init>") (hK : va_K D vwCl (TY ca) s) (hN : NW s) (hA3 : AO3 s) : ∀ (n i : Nat) (hi : i ≤ 30) (hn : 30 - i < n) (H : Heap) (locs : List Loc) (hC : CS D a (1 + i) s.heap (.inr (5, [.ref (a + 1 + 0), .int 0])) (leE ca a i) H) (hloc : ∀ z ∈ locs, a ≤ z.base) (ls : Array Slot) (hl : lv_has ls 2 [(1, .int (nI i)), (0, .ref a)]), W p l e { frames := 2, cells := 31, slots := 270, locals := 32 } s m args below meth c H locs (1 + i) (30 + 8 * i) (MQ below (KQ D a 31 (leB a) (leE ca a 30)) args s 31 270 (fun q => a ≤ q)) (F0 m 15 ls []) := by
  intro n
  induction n with
  | zero => intro i hi hn; exfalso; omega
  | succ n ih =>
    intro i hi hn H locs hC hloc ls hl
    refine lv_iload_n hx hb dX5_init_15 rfl (lv_at hl 0 rfl) ?_
    refine lv_bipush (v := 30) hx hb dX5_init_16 (by decide) ?_
    refine lv_icmp_ge (tgt := 40) hx hb dX5_init_18 (by decide) (fun c1 => ?_) (fun c1 => ?_)
    · have e1 : i = 30 := by rw [i_le, nI_toInt (by omega)] at c1; have e2 : (30 : Int32).toInt = 30 := rfl; omega
      subst e1
      refine W.widen (k := 31) (n := 270) (by omega) (by omega) ?_
      exact k_ret hx hb hr hlk hC hloc dX5_init_40
    · have hi5 : i < 30 := by rw [i_le, nI_toInt (by omega)] at c1; have e2 : (30 : Int32).toInt = 30 := rfl; omega
      refine lv_aload_n hx hb dX5_init_21 rfl (lv_at hl 1 rfl) ?_
      refine k_get hx hb ht inG5 hown hK hC rfl 0 (by decide) gw_309 (v := .ref (a + 1 + 0)) rfl dX5_init_22 ?_
      refine lv_iload_n hx hb dX5_init_25 rfl (lv_at hl 0 rfl) ?_
      refine k_new hx hb ht inG2 tyX2 tyX2_ok hown gw_264 gw_266 gw_65 hK hC (ci := 2) rfl (fs := [.int 0, .int 0, .int 0, .int 0, .int 0, .int 0, .int 0, .long 0]) (fun j hj => by rcases (by omega : j = 0 ∨ j = 1 ∨ j = 2 ∨ j = 3 ∨ j = 4 ∨ j = 5 ∨ j = 6 ∨ j = 7) with rfl | rfl | rfl | rfl | rfl | rfl | rfl | rfl <;> rfl) (by show 1 + i + 1 ≤ 31; omega) (by show 30 + 8 * i + 8 ≤ 270; omega) dX5_init_26 (fun H hC => ?_)
      refine lv_dup hx hb dX5_init_29 rfl ?_
      refine k_callN ⟨hx, hb, hml, hown, ht⟩ hK hN hA3 hC hloc (k_X2 l D ca (a + 1 + (1 + i))) (hN.get 267 nw_267 rfl) gw_268 gw_65 gw_269 rfl (by decide +kernel) ⟨by decide, by decide⟩ hl.1 (Nat.le_of_ble_eq_true rfl) ⟨by show 1 + i + 1 + 0 ≤ 31; omega, by show 30 + 8 * i + 8 + 0 ≤ 270; omega⟩ dX5_init_30 (fun H locs hC hloc => ?_)
      have hJ0 : joinE (1 + i) (leE ca a i) deB (fun _ => .inr (0, [])) 0 = zRef ca 4 30 (fun j => if j < i then some (a + 2 + j) else none) := by unfold joinE; rw [if_pos (by omega)]; rfl
      have hJv : joinE (1 + i) (leE ca a i) deB (fun _ => .inr (0, [])) (1 + i) = deB := by unfold joinE; rw [if_neg (by omega), if_pos rfl]
      refine k_aast hx hb hK hC 0 (1 + i) 4 2 (by omega) (by omega) hJ0 rfl hJv rfl (vp_in_nI (by omega) (by decide)) hloc dX5_init_33 (fun H locs hC hloc => ?_)
      refine lv_iinc (v := nI i + 1) (lv' := [(1, .int (nI i + 1)), (0, .ref a)]) hx hb dX5_init_34 hl (k := 0) rfl rfl (by decide) rfl (fun ls hl => ?_)
      refine lv_goto (tgt := 15) hx hb dX5_init_37 (by decide) ?_
      rw [nI_1] at hl
      rw [nI_clamp (by omega)] at hC
      refine W.widen (k := 1 + (i + 1)) (n := 30 + 8 * (i + 1)) (by omega) (by omega) ?_
      have hC9 : CS D a (1 + (i + 1)) s.heap (.inr (5, [.ref (a + 1 + 0), .int 0])) (leE ca a (i + 1)) H := by
        rw [show 1 + (i + 1) = 1 + i + 1 + 0 by omega]
        refine hC.eqE (fun k hk => ?_)
        by_cases h0 : k = 0
        · subst h0
          rw [va_up_self]
          show _ = zRef ca 4 30 (fun j => if j < i + 1 then some (a + 2 + j) else none)
          unfold zRef
          congr 7
          funext j
          by_cases hj : j = i
          · subst hj; rw [va_up_self, if_pos (by omega)]; congr 1; omega
          · rw [va_up_ne _ _ hj]
            by_cases hj2 : j < i
            · rw [if_pos hj2, if_pos (by omega)]
            · rw [if_neg hj2, if_neg (by omega)]
        · rw [va_up_ne _ _ h0]
          unfold joinE
          by_cases h1 : k < 1 + i
          · rw [if_pos h1]
            unfold leE
            rw [if_neg h0, if_neg h0]
          · rw [if_neg h1, if_pos (by omega)]
            unfold leE
            rw [if_neg h0]
      exact ih (i + 1) (by omega) (by omega) H locs hC9 hloc ls hl
set_option maxHeartbeats 4000000 in
set_option maxRecDepth 100000 in
theorem k_X5 (l : Launch) (D : va_G) (ca : Nat → ClassId) (a : Nat) : KT l D (TY ca) yX5_init cX5_init 2 2 32 31 270 5 [.null, .int 0] a (leB a) (leE ca a 30) := by
  refine KT.of (E := (fun _ => .inr (0, []))) (by decide) (Nat.le_of_ble_eq_true rfl) ?_
  intro p e s m args below meth c hx hb hr ht hown hlk hml hin2 hC hK hN hA3 ls hl
  have hloc : ∀ z ∈ ([] : List Loc), a ≤ z.base := fun z hz => nomatch hz
  refine lv_aload_n hx hb dX5_init_0 rfl (lv_at hl 0 rfl) ?_
  refine W.objInit hx hb hown (ht _ gw_263) (ht _ gw_83) (ht _ gw_84) rfl (by rw [hml]; exact hl.1) rfl dX5_init_1 (Nat.le_of_ble_eq_true rfl) (Nat.le_of_ble_eq_true rfl) ?_
  refine W.eq (g2 := F0 m 4 ls []) rfl ?_
  refine lv_aload_n hx hb dX5_init_4 rfl (lv_at hl 0 rfl) ?_
  refine lv_bipush (v := 30) hx hb dX5_init_5 (by decide) ?_
  refine k_arq (N' := 30) hx hb ht hown gw_264 hA3.2.2 hK hC 4 (cA := ca 4) rfl (by decide) rfl (by decide) (Nat.le_of_ble_eq_true rfl) (Nat.le_of_ble_eq_true rfl) dX5_init_7 (fun H hC => ?_)
  refine k_put hx hb ht inG5 tyX5 tyX5_ok nmX5 hown hK hC rfl 0 (by decide) gw_309 (Or.inr ⟨rfl, hin2, rfl⟩) rfl rfl (Nat.le_of_ble_eq_true rfl) hloc dX5_init_10 (fun H locs hC hloc => ?_)
  refine lv_iconst (v := 0) hx hb dX5_init_13 (by decide) ?_
  refine lv_istore_n (lv' := [(1, .int 0), (0, .ref a)]) hx hb dX5_init_14 rfl hl (by decide) rfl (fun ls hl => ?_)
  refine W.widen (k := 1 + 0) (n := 30 + 8 * 0) (by omega) (by omega) ?_
  refine lp_X5_a hx hb hr ht hown hlk hml hin2 hK hN hA3 31 0 (by omega) (by omega) H locs (hC.eqE (fun k hk => ?_)) hloc ls hl
  obtain rfl : k = 0 := by omega
  rfl
set_option maxHeartbeats 4000000 in
set_option maxRecDepth 100000 in
theorem k_X7 (l : Launch) (D : va_G) (ca : Nat → ClassId) (a : Nat) : KT l D (TY ca) yX7_init cX7_init 1 3 53 61 1423 7 [.null, .null, .null, .null, .int 0, .int 0] a (rdB a) (rdE ca a) := by
  refine KT.of (E := (fun _ => .inr (0, []))) (by decide) (Nat.le_of_ble_eq_true rfl) ?_
  intro p e s m args below meth c hx hb hr ht hown hlk hml hin2 hC hK hN hA3 ls hl
  have hloc : ∀ z ∈ ([] : List Loc), a ≤ z.base := fun z hz => nomatch hz
  refine lv_aload_n hx hb dX7_init_0 rfl (lv_at hl 0 rfl) ?_
  refine W.objInit hx hb hown (ht _ gw_90) (ht _ gw_83) (ht _ gw_84) rfl (by rw [hml]; exact hl.1) rfl dX7_init_1 (Nat.le_of_ble_eq_true rfl) (Nat.le_of_ble_eq_true rfl) ?_
  refine W.eq (g2 := F0 m 4 ls []) rfl ?_
  refine lv_aload_n hx hb dX7_init_4 rfl (lv_at hl 0 rfl) ?_
  refine k_new hx hb ht inG6 tyX6 tyX6_ok hown gw_91 gw_92 gw_60 hK hC (ci := 6) rfl (fs := [.null, .int 0, .int 0, .int 0, .int 0, .int 0]) (fun j hj => by rcases (by omega : j = 0 ∨ j = 1 ∨ j = 2 ∨ j = 3 ∨ j = 4 ∨ j = 5) with rfl | rfl | rfl | rfl | rfl | rfl <;> rfl) (Nat.le_of_ble_eq_true rfl) (Nat.le_of_ble_eq_true rfl) dX7_init_5 (fun H hC => ?_)
  refine lv_dup hx hb dX7_init_8 rfl ?_
  refine k_call ⟨hx, hb, hml, hown, ht⟩ hK hN hA3 hC hloc (k_X6 l D ca (a + 1 + 0)) gw_93 gw_94 gw_60 gw_95 rfl (by decide +kernel) ⟨by decide, by decide⟩ hl.1 (Nat.le_of_ble_eq_true rfl) ⟨Nat.le_of_ble_eq_true rfl, Nat.le_of_ble_eq_true rfl⟩ dX7_init_9 (fun H locs hC hloc => ?_)
  have hC : CS D a 2 s.heap (.inr (7, [.null, .null, .null, .null, .int 0, .int 0])) (joinE 0 (fun _ => .inr (0, [])) (taB (a + 1 + 0)) (fun _ => zB ca)) H := hC
  refine k_put hx hb ht inG7 tyX7 tyX7_ok nmX7 hown hK hC rfl 0 (by decide) gw_235 (Or.inr ⟨rfl, hin2, rfl⟩) rfl rfl (Nat.le_of_ble_eq_true rfl) hloc dX7_init_12 (fun H locs hC hloc => ?_)
  have hC : CS D a 2 s.heap (.inr (7, [.ref (a + 1 + 0), .null, .null, .null, .int 0, .int 0])) (joinE 0 (fun _ => .inr (0, [])) (taB (a + 1 + 0)) (fun _ => zB ca)) H := hC
  refine lv_aload_n hx hb dX7_init_15 rfl (lv_at hl 0 rfl) ?_
  refine k_new hx hb ht inG0 tyX0 tyX0_ok hown gw_122 gw_123 gw_61 hK hC (ci := 0) rfl (fs := [.int 0, .int 0, .int 0, .null, .null]) (fun j hj => by rcases (by omega : j = 0 ∨ j = 1 ∨ j = 2 ∨ j = 3 ∨ j = 4) with rfl | rfl | rfl | rfl | rfl <;> rfl) (Nat.le_of_ble_eq_true rfl) (Nat.le_of_ble_eq_true rfl) dX7_init_16 (fun H hC => ?_)
  refine lv_dup hx hb dX7_init_19 rfl ?_
  refine k_call ⟨hx, hb, hml, hown, ht⟩ hK hN hA3 hC hloc (k_X0 l D ca (a + 1 + 2)) gw_124 gw_125 gw_61 gw_126 rfl (by decide +kernel) ⟨by decide, by decide⟩ hl.1 (Nat.le_of_ble_eq_true rfl) ⟨Nat.le_of_ble_eq_true rfl, Nat.le_of_ble_eq_true rfl⟩ dX7_init_20 (fun H locs hC hloc => ?_)
  have hC : CS D a 59 s.heap (.inr (7, [.ref (a + 1 + 0), .null, .null, .null, .int 0, .int 0])) (joinE 2 (joinE 0 (fun _ => .inr (0, [])) (taB (a + 1 + 0)) (fun _ => zB ca)) (bkB (a + 1 + 2)) (bkE ca (a + 1 + 2) 6 6)) H := hC
  refine k_put hx hb ht inG7 tyX7 tyX7_ok nmX7 hown hK hC rfl 3 (by decide) gw_239 (Or.inl rfl) rfl rfl (Nat.le_of_ble_eq_true rfl) hloc dX7_init_23 (fun H locs hC hloc => ?_)
  have hC : CS D a 59 s.heap (.inr (7, [.ref (a + 1 + 0), .null, .null, .ref (a + 1 + 2), .int 0, .int 0])) (joinE 2 (joinE 0 (fun _ => .inr (0, [])) (taB (a + 1 + 0)) (fun _ => zB ca)) (bkB (a + 1 + 2)) (bkE ca (a + 1 + 2) 6 6)) H := hC
  refine lv_aload_n hx hb dX7_init_26 rfl (lv_at hl 0 rfl) ?_
  refine lv_bipush (v := 6) hx hb dX7_init_27 (by decide) ?_
  refine k_arr (atype := .int) (a0 := (6, .inl (fun _ => 0))) hx hb ht gw_158 hK hC 0 (cA := ca 0) rfl (fun _ h => h) (fun _ => rfl) (by decide) rfl (by decide) (Nat.le_of_ble_eq_true rfl) (Nat.le_of_ble_eq_true rfl) dX7_init_29 (fun H hC => ?_)
  have hC : CS D a 60 s.heap (.inr (7, [.ref (a + 1 + 0), .null, .null, .ref (a + 1 + 2), .int 0, .int 0])) (va_up (joinE 2 (joinE 0 (fun _ => .inr (0, [])) (taB (a + 1 + 0)) (fun _ => zB ca)) (bkB (a + 1 + 2)) (bkE ca (a + 1 + 2) 6 6)) 59 (.inl (ca 0, (6, .inl (fun _ => 0))))) H := hC
  refine k_put hx hb ht inG7 tyX7 tyX7_ok nmX7 hown hK hC rfl 1 (by decide) gw_237 (Or.inr ⟨rfl, hin2, rfl⟩) rfl rfl (Nat.le_of_ble_eq_true rfl) hloc dX7_init_31 (fun H locs hC hloc => ?_)
  have hC : CS D a 60 s.heap (.inr (7, [.ref (a + 1 + 0), .ref (a + 1 + 59), .null, .ref (a + 1 + 2), .int 0, .int 0])) (va_up (joinE 2 (joinE 0 (fun _ => .inr (0, [])) (taB (a + 1 + 0)) (fun _ => zB ca)) (bkB (a + 1 + 2)) (bkE ca (a + 1 + 2) 6 6)) 59 (.inl (ca 0, (6, .inl (fun _ => 0))))) H := hC
  refine lv_aload_n hx hb dX7_init_34 rfl (lv_at hl 0 rfl) ?_
  refine lv_bipush (v := 6) hx hb dX7_init_35 (by decide) ?_
  refine k_arr (atype := .int) (a0 := (6, .inl (fun _ => 0))) hx hb ht gw_158 hK hC 0 (cA := ca 0) rfl (fun _ h => h) (fun _ => rfl) (by decide) rfl (by decide) (Nat.le_of_ble_eq_true rfl) (Nat.le_of_ble_eq_true rfl) dX7_init_37 (fun H hC => ?_)
  have hC : CS D a 61 s.heap (.inr (7, [.ref (a + 1 + 0), .ref (a + 1 + 59), .null, .ref (a + 1 + 2), .int 0, .int 0])) (va_up (va_up (joinE 2 (joinE 0 (fun _ => .inr (0, [])) (taB (a + 1 + 0)) (fun _ => zB ca)) (bkB (a + 1 + 2)) (bkE ca (a + 1 + 2) 6 6)) 59 (.inl (ca 0, (6, .inl (fun _ => 0))))) 60 (.inl (ca 0, (6, .inl (fun _ => 0))))) H := hC
  refine k_put hx hb ht inG7 tyX7 tyX7_ok nmX7 hown hK hC rfl 2 (by decide) gw_238 (Or.inr ⟨rfl, hin2, rfl⟩) rfl rfl (Nat.le_of_ble_eq_true rfl) hloc dX7_init_39 (fun H locs hC hloc => ?_)
  have hC : CS D a 61 s.heap (.inr (7, [.ref (a + 1 + 0), .ref (a + 1 + 59), .ref (a + 1 + 60), .ref (a + 1 + 2), .int 0, .int 0])) (va_up (va_up (joinE 2 (joinE 0 (fun _ => .inr (0, [])) (taB (a + 1 + 0)) (fun _ => zB ca)) (bkB (a + 1 + 2)) (bkE ca (a + 1 + 2) 6 6)) 59 (.inl (ca 0, (6, .inl (fun _ => 0))))) 60 (.inl (ca 0, (6, .inl (fun _ => 0))))) H := hC
  refine W.widen (k := 61) (n := 1423) (Nat.le_of_ble_eq_true rfl) (Nat.le_of_ble_eq_true rfl) ?_
  exact k_ret hx hb hr hlk (hC.eqE (fun k hk => by
        by_cases h : 3 ≤ k ∧ k ≤ 58
        · rw [va_up_ne _ _ (by omega), va_up_ne _ _ (by omega)]
          unfold joinE rdE
          rw [if_neg (by omega), if_neg (by omega), if_neg (by omega), if_neg (by omega), if_neg (by omega), if_pos (by omega)]
        · rcases (by omega : k = 0 ∨ k = 1 ∨ k = 2 ∨ k = 59 ∨ k = 60) with rfl | rfl | rfl | rfl | rfl <;> rfl)) hloc dX7_init_42
set_option maxHeartbeats 4000000 in
set_option maxRecDepth 100000 in
theorem k_X8 (l : Launch) (D : va_G) (ca : Nat → ClassId) (a : Nat) : KT l D (TY ca) yX8_init cX8_init 1 4 73 157 2413 8 [.null, .null, .null, .null] a (dkB a) (dkE ca a) := by
  refine KT.of (E := (fun _ => .inr (0, []))) (by decide) (Nat.le_of_ble_eq_true rfl) ?_
  intro p e s m args below meth c hx hb hr ht hown hlk hml hin2 hC hK hN hA3 ls hl
  have hloc : ∀ z ∈ ([] : List Loc), a ≤ z.base := fun z hz => nomatch hz
  refine lv_aload_n hx hb dX8_init_0 rfl (lv_at hl 0 rfl) ?_
  refine W.objInit hx hb hown (ht _ gw_82) (ht _ gw_83) (ht _ gw_84) rfl (by rw [hml]; exact hl.1) rfl dX8_init_1 (Nat.le_of_ble_eq_true rfl) (Nat.le_of_ble_eq_true rfl) ?_
  refine W.eq (g2 := F0 m 4 ls []) rfl ?_
  refine lv_aload_n hx hb dX8_init_4 rfl (lv_at hl 0 rfl) ?_
  refine k_new hx hb ht inG7 tyX7 tyX7_ok hown gw_85 gw_86 gw_59 hK hC (ci := 7) rfl (fs := [.null, .null, .null, .null, .int 0, .int 0]) (fun j hj => by rcases (by omega : j = 0 ∨ j = 1 ∨ j = 2 ∨ j = 3 ∨ j = 4 ∨ j = 5) with rfl | rfl | rfl | rfl | rfl | rfl <;> rfl) (Nat.le_of_ble_eq_true rfl) (Nat.le_of_ble_eq_true rfl) dX8_init_5 (fun H hC => ?_)
  refine lv_dup hx hb dX8_init_8 rfl ?_
  refine k_call ⟨hx, hb, hml, hown, ht⟩ hK hN hA3 hC hloc (k_X7 l D ca (a + 1 + 0)) gw_87 gw_88 gw_59 gw_89 rfl (by decide +kernel) ⟨by decide, by decide⟩ hl.1 (Nat.le_of_ble_eq_true rfl) ⟨Nat.le_of_ble_eq_true rfl, Nat.le_of_ble_eq_true rfl⟩ dX8_init_9 (fun H locs hC hloc => ?_)
  have hC : CS D a 62 s.heap (.inr (8, [.null, .null, .null, .null])) (joinE 0 (fun _ => .inr (0, [])) (rdB (a + 1 + 0)) (rdE ca (a + 1 + 0))) H := hC
  refine k_put hx hb ht inG8 tyX8 tyX8_ok nmX8 hown hK hC rfl 0 (by decide) gw_351 (Or.inr ⟨rfl, hin2, rfl⟩) rfl rfl (Nat.le_of_ble_eq_true rfl) hloc dX8_init_12 (fun H locs hC hloc => ?_)
  have hC : CS D a 62 s.heap (.inr (8, [.ref (a + 1 + 0), .null, .null, .null])) (joinE 0 (fun _ => .inr (0, [])) (rdB (a + 1 + 0)) (rdE ca (a + 1 + 0))) H := hC
  refine lv_aload_n hx hb dX8_init_15 rfl (lv_at hl 0 rfl) ?_
  refine k_new hx hb ht inG0 tyX0 tyX0_ok hown gw_256 gw_123 gw_61 hK hC (ci := 0) rfl (fs := [.int 0, .int 0, .int 0, .null, .null]) (fun j hj => by rcases (by omega : j = 0 ∨ j = 1 ∨ j = 2 ∨ j = 3 ∨ j = 4) with rfl | rfl | rfl | rfl | rfl <;> rfl) (Nat.le_of_ble_eq_true rfl) (Nat.le_of_ble_eq_true rfl) dX8_init_16 (fun H hC => ?_)
  refine lv_dup hx hb dX8_init_19 rfl ?_
  refine k_call ⟨hx, hb, hml, hown, ht⟩ hK hN hA3 hC hloc (k_X0 l D ca (a + 1 + 62)) gw_257 gw_125 gw_61 gw_126 rfl (by decide +kernel) ⟨by decide, by decide⟩ hl.1 (Nat.le_of_ble_eq_true rfl) ⟨Nat.le_of_ble_eq_true rfl, Nat.le_of_ble_eq_true rfl⟩ dX8_init_20 (fun H locs hC hloc => ?_)
  have hC : CS D a 119 s.heap (.inr (8, [.ref (a + 1 + 0), .null, .null, .null])) (joinE 62 (joinE 0 (fun _ => .inr (0, [])) (rdB (a + 1 + 0)) (rdE ca (a + 1 + 0))) (bkB (a + 1 + 62)) (bkE ca (a + 1 + 62) 6 6)) H := hC
  refine k_put hx hb ht inG8 tyX8 tyX8_ok nmX8 hown hK hC rfl 1 (by decide) gw_352 (Or.inl rfl) rfl rfl (Nat.le_of_ble_eq_true rfl) hloc dX8_init_23 (fun H locs hC hloc => ?_)
  have hC : CS D a 119 s.heap (.inr (8, [.ref (a + 1 + 0), .ref (a + 1 + 62), .null, .null])) (joinE 62 (joinE 0 (fun _ => .inr (0, [])) (rdB (a + 1 + 0)) (rdE ca (a + 1 + 0))) (bkB (a + 1 + 62)) (bkE ca (a + 1 + 62) 6 6)) H := hC
  refine lv_aload_n hx hb dX8_init_26 rfl (lv_at hl 0 rfl) ?_
  refine k_new hx hb ht inG5 tyX5 tyX5_ok hown gw_258 gw_259 gw_64 hK hC (ci := 5) rfl (fs := [.null, .int 0]) (fun j hj => by rcases (by omega : j = 0 ∨ j = 1) with rfl | rfl <;> rfl) (Nat.le_of_ble_eq_true rfl) (Nat.le_of_ble_eq_true rfl) dX8_init_27 (fun H hC => ?_)
  refine lv_dup hx hb dX8_init_30 rfl ?_
  refine k_call ⟨hx, hb, hml, hown, ht⟩ hK hN hA3 hC hloc (k_X5 l D ca (a + 1 + 119)) gw_260 gw_261 gw_64 gw_262 rfl (by decide +kernel) ⟨by decide, by decide⟩ hl.1 (Nat.le_of_ble_eq_true rfl) ⟨Nat.le_of_ble_eq_true rfl, Nat.le_of_ble_eq_true rfl⟩ dX8_init_31 (fun H locs hC hloc => ?_)
  have hC : CS D a 151 s.heap (.inr (8, [.ref (a + 1 + 0), .ref (a + 1 + 62), .null, .null])) (joinE 119 (joinE 62 (joinE 0 (fun _ => .inr (0, [])) (rdB (a + 1 + 0)) (rdE ca (a + 1 + 0))) (bkB (a + 1 + 62)) (bkE ca (a + 1 + 62) 6 6)) (leB (a + 1 + 119)) (leE ca (a + 1 + 119) 30)) H := hC
  refine k_put hx hb ht inG8 tyX8 tyX8_ok nmX8 hown hK hC rfl 2 (by decide) gw_353 (Or.inr ⟨rfl, hin2, rfl⟩) rfl rfl (Nat.le_of_ble_eq_true rfl) hloc dX8_init_34 (fun H locs hC hloc => ?_)
  have hC : CS D a 151 s.heap (.inr (8, [.ref (a + 1 + 0), .ref (a + 1 + 62), .ref (a + 1 + 119), .null])) (joinE 119 (joinE 62 (joinE 0 (fun _ => .inr (0, [])) (rdB (a + 1 + 0)) (rdE ca (a + 1 + 0))) (bkB (a + 1 + 62)) (bkE ca (a + 1 + 62) 6 6)) (leB (a + 1 + 119)) (leE ca (a + 1 + 119) 30)) H := hC
  refine lv_aload_n hx hb dX8_init_37 rfl (lv_at hl 0 rfl) ?_
  refine k_new hx hb ht inG3 tyX3 tyX3_ok hown gw_317 gw_318 gw_66 hK hC (ci := 3) rfl (fs := [.null, .null, .null, .null, .null, .int 0, .int 0]) (fun j hj => by rcases (by omega : j = 0 ∨ j = 1 ∨ j = 2 ∨ j = 3 ∨ j = 4 ∨ j = 5 ∨ j = 6) with rfl | rfl | rfl | rfl | rfl | rfl | rfl <;> rfl) (Nat.le_of_ble_eq_true rfl) (Nat.le_of_ble_eq_true rfl) dX8_init_38 (fun H hC => ?_)
  refine lv_dup hx hb dX8_init_41 rfl ?_
  refine k_call ⟨hx, hb, hml, hown, ht⟩ hK hN hA3 hC hloc (k_X3 l D ca (a + 1 + 151)) gw_319 gw_320 gw_66 gw_321 rfl (by decide +kernel) ⟨by decide, by decide⟩ hl.1 (Nat.le_of_ble_eq_true rfl) ⟨Nat.le_of_ble_eq_true rfl, Nat.le_of_ble_eq_true rfl⟩ dX8_init_42 (fun H locs hC hloc => ?_)
  have hC : CS D a 157 s.heap (.inr (8, [.ref (a + 1 + 0), .ref (a + 1 + 62), .ref (a + 1 + 119), .null])) (joinE 151 (joinE 119 (joinE 62 (joinE 0 (fun _ => .inr (0, [])) (rdB (a + 1 + 0)) (rdE ca (a + 1 + 0))) (bkB (a + 1 + 62)) (bkE ca (a + 1 + 62) 6 6)) (leB (a + 1 + 119)) (leE ca (a + 1 + 119) 30)) (hiB (a + 1 + 151)) (fun _ => zI ca 8)) H := hC
  refine k_put hx hb ht inG8 tyX8 tyX8_ok nmX8 hown hK hC rfl 3 (by decide) gw_354 (Or.inr ⟨rfl, hin2, rfl⟩) rfl rfl (Nat.le_of_ble_eq_true rfl) hloc dX8_init_45 (fun H locs hC hloc => ?_)
  have hC : CS D a 157 s.heap (.inr (8, [.ref (a + 1 + 0), .ref (a + 1 + 62), .ref (a + 1 + 119), .ref (a + 1 + 151)])) (joinE 151 (joinE 119 (joinE 62 (joinE 0 (fun _ => .inr (0, [])) (rdB (a + 1 + 0)) (rdE ca (a + 1 + 0))) (bkB (a + 1 + 62)) (bkE ca (a + 1 + 62) 6 6)) (leB (a + 1 + 119)) (leE ca (a + 1 + 119) 30)) (hiB (a + 1 + 151)) (fun _ => zI ca 8)) H := hC
  refine W.widen (k := 157) (n := 2413) (Nat.le_of_ble_eq_true rfl) (Nat.le_of_ble_eq_true rfl) ?_
  exact k_ret hx hb hr hlk (hC.eqE (fun k hk => by
        unfold joinE
        rcases (by omega : k = 0 ∨ (1 ≤ k ∧ k ≤ 61) ∨ k = 62 ∨ (63 ≤ k ∧ k ≤ 118) ∨ k = 119 ∨ (120 ≤ k ∧ k ≤ 150) ∨ k = 151 ∨ (152 ≤ k ∧ k ≤ 156)) with rfl | h | rfl | h | rfl | h | rfl | h
        · rfl
        · unfold dkE
          rw [if_pos (by omega), if_pos (by omega), if_pos (by omega), if_neg (by omega), if_neg (by omega), if_neg (by omega), if_pos (by omega)]
        · rfl
        · unfold dkE
          rw [if_pos (by omega), if_pos (by omega), if_neg (by omega), if_neg (by omega), if_neg (by omega), if_neg (by omega), if_neg (by omega), if_pos (by omega)]
        · rfl
        · unfold dkE
          rw [if_pos (by omega), if_neg (by omega), if_neg (by omega), if_neg (by omega), if_neg (by omega), if_neg (by omega), if_neg (by omega), if_neg (by omega), if_pos (by omega)]
        · rfl
        · unfold dkE
          rw [if_neg (by omega), if_neg (by omega), if_neg (by omega), if_neg (by omega), if_neg (by omega), if_neg (by omega), if_neg (by omega), if_neg (by omega)])) hloc dX8_init_48
