/-! ===== what holds as the law begins ===== -/
theorem ak_prim {args : Array Value} {s : State} {ty : FieldType} (h : (Cond.arrayClass ty).before args s = true) (hr : ∀ z : ClassId, s.vm.findClass ("[" ++ ty.toString) = some z → va_RA s z ty) : ∃ cA : ClassId, ArrOfT s cA ty ∧ va_RA s cA ty := by
  obtain ⟨cA, kA, comp, h1, h2, h3⟩ := Cond.arrayClass_spec (args := args) (first := s) (o := none) (s := s) (idx := []) h
  exact ⟨cA, fun n z => ⟨fun k h => (by cases h), kA, h2, comp, h3⟩, hr cA h1⟩
theorem ak_ref {args : Array Value} {s : State} {C : String} (h : (Cond.arrayOver (.object C)).before args s = true) : ∃ cA : ClassId, ArrOfT s cA (.object C) ∧ va_RA s cA (.object C) := by
  obtain ⟨comp, cA, kA, h1, -, h2, h3, h4⟩ := Cond.arrayOver_spec (args := args) (first := s) (o := none) (s := s) (idx := []) h
  exact ⟨cA, fun n z => ⟨fun k h => (by cases h), kA, h2, comp, h3⟩, kA, comp, h2, h3, h1, h4⟩
theorem ow_i : Cond.arrayOver (.object "PriceDesk$Index") ∈ lw_tbl := List.mem_of_getElem? (i := 129) (by decide +kernel)
theorem ow_c : Cond.arrayOver (.object "PriceDesk$Contract") ∈ lw_tbl := List.mem_of_getElem? (i := 160) (by decide +kernel)
theorem ow_d : Cond.arrayOver (.object "PriceDesk$Delivery") ∈ lw_tbl := List.mem_of_getElem? (i := 265) (by decide +kernel)
section STA
variable {args : Array Value} {s : State}
theorem st_G (h : ∀ w ∈ lw_tbl, w.before args s = true) : ∀ w ∈ GG, w.before args s = true := fun w hw => h w (GG_tbl w hw)
theorem st_K (h : ∀ w ∈ lw_tbl, w.before args s = true) : ∃ (D : va_G) (ca : Nat → ClassId), va_K D vwCl (TY ca) s := by
  have g := st_G h
  obtain ⟨c0, i0, k0⟩ := u_known (C := RX0) (T := TX0) (N := 5) (n := 5) g inG0 (g _ gw_123)
  obtain ⟨c1, i1, k1⟩ := u_known (C := RX1) (T := TX1) (N := 9) (n := 9) g inG1 (g _ gw_161)
  obtain ⟨c2, i2, k2⟩ := u_known (C := RX2) (T := TX2) (N := 8) (n := 8) g inG2 (g _ gw_266)
  obtain ⟨c3, i3, k3⟩ := u_known (C := RX3) (T := TX3) (N := 7) (n := 7) g inG3 (g _ gw_318)
  obtain ⟨c4, i4, k4⟩ := u_known (C := RX4) (T := TX4) (N := 6) (n := 6) g inG4 (g _ gw_130)
  obtain ⟨c5, i5, k5⟩ := u_known (C := RX5) (T := TX5) (N := 2) (n := 2) g inG5 (g _ gw_259)
  obtain ⟨c6, i6, k6⟩ := u_known (C := RX6) (T := TX6) (N := 6) (n := 6) g inG6 (g _ gw_92)
  obtain ⟨c7, i7, k7⟩ := u_known (C := RX7) (T := TX7) (N := 6) (n := 6) g inG7 (g _ gw_86)
  obtain ⟨c8, i8, k8⟩ := u_known (C := RX8) (T := TX8) (N := 4) (n := 4) g inG8 (g _ gw_78)
  obtain ⟨c9, i9, k9⟩ := u_known (C := RX9) (T := TX9) (N := 17) (n := 17) g inG9 (g _ gw_928)
  obtain ⟨a0, x0, y0⟩ := ak_prim (ty := .int) (g _ gw_158) (fun _ h => h)
  obtain ⟨a1, x1, y1⟩ := ak_prim (ty := .byte) (g _ gw_121) (fun _ h => h)
  obtain ⟨a2, x2, y2⟩ := ak_ref (h _ ow_i)
  obtain ⟨a3, x3, y3⟩ := ak_ref (h _ ow_c)
  obtain ⟨a4, x4, y4⟩ := ak_ref (h _ ow_d)
  obtain ⟨a5, x5, y5⟩ := ak_prim (ty := .long) (g _ gw_991) (fun _ h => h)
  refine ⟨(fun k => match k with | 0 => c0 | 1 => c1 | 2 => c2 | 3 => c3 | 4 => c4 | 5 => c5 | 6 => c6 | 7 => c7 | 8 => c8 | _ => c9, fun k => match k with | 0 => i0 | 1 => i1 | 2 => i2 | 3 => i3 | 4 => i4 | 5 => i5 | 6 => i6 | 7 => i7 | 8 => i8 | _ => i9), fun k => match k with | 0 => a0 | 1 => a1 | 2 => a2 | 3 => a3 | 4 => a4 | _ => a5, ?_, ?_⟩
  · intro k q hq
    match k, hq with
    | 0, hq => cases hq; exact k0
    | 1, hq => cases hq; exact k1
    | 2, hq => cases hq; exact k2
    | 3, hq => cases hq; exact k3
    | 4, hq => cases hq; exact k4
    | 5, hq => cases hq; exact k5
    | 6, hq => cases hq; exact k6
    | 7, hq => cases hq; exact k7
    | 8, hq => cases hq; exact k8
    | 9, hq => cases hq; exact k9
    | k + 10, hq => cases hq
  · intro k q hq
    match k, hq with
    | 0, hq => cases hq; exact ⟨x0, y0⟩
    | 1, hq => cases hq; exact ⟨x1, y1⟩
    | 2, hq => cases hq; exact ⟨x2, y2⟩
    | 3, hq => cases hq; exact ⟨x3, y3⟩
    | 4, hq => cases hq; exact ⟨x4, y4⟩
    | 5, hq => cases hq; exact ⟨x5, y5⟩
    | k + 6, hq => cases hq
theorem st_AO (h : ∀ w ∈ lw_tbl, w.before args s = true) : AO3 s := ⟨va_AO.of (h _ ow_i), va_AO.of (h _ ow_c), va_AO.of (h _ ow_d)⟩
def tmJ (i : Nat) : Term := .string "PriceDesk$TextReader" (idxJ.getD i 0)
abbrev flJ : List Cond := flatC (Jvm.Cond.and given_1 narrow_1)
theorem fj_ex : ∀ i, i < 7 → Cond.exactly (tmJ i) "java/lang/String" ∈ flJ := by decide +kernel
theorem fj_co : ∀ i, i < 7 → Cond.eq (.field (tmJ i) "java/lang/String" "coder" "B") (.int 0) ∈ flJ := by decide +kernel
theorem fj_ar : ∀ i, i < 7 → Cond.arrayOf (.field (tmJ i) "java/lang/String" "value" "[B") .byte ∈ flJ := by decide +kernel
theorem fj_le : ∀ i, i < 7 → Cond.eq (.length (.field (tmJ i) "java/lang/String" "value" "[B")) (.int (Int32.ofNat (lenJ.getD i 0))) ∈ flJ := by decide +kernel
theorem fj_el : ∀ i, i < 7 → ∀ j, j < lenJ.getD i 0 → Cond.eq (.elem (.field (tmJ i) "java/lang/String" "value" "[B") (.int (Int32.ofNat j))) (.int ((bytJ.getD i []).getD j 0)) ∈ flJ := by decide +kernel
theorem fj_ne : ∀ i, i < 7 → ∀ j, j < 7 → i ≠ j → Cond.not (Cond.eq (tmJ i) (tmJ j)) ∈ flJ ∨ Cond.not (Cond.eq (tmJ j) (tmJ i)) ∈ flJ := by decide +kernel
theorem fj_cs : Cond.eq (.static "java/lang/String" "COMPACT_STRINGS" "Z") (.int 1) ∈ flJ := by decide +kernel
theorem fj_pf : Cond.isRef (.static "jdk/internal/util/Preconditions" "SIOOBE_FORMATTER" "Ljava/util/function/BiFunction;") ∈ flJ := by decide +kernel
theorem fj_us : Cond.isRef (.static Bundle.tN "UNASSIGNED_STACK" Bundle.steD) ∈ flJ := by decide +kernel
theorem fj_ss : Cond.isRef (.static Bundle.tN "SUPPRESSED_SENTINEL" Bundle.listD) ∈ flJ := by decide +kernel
theorem tw_cs : Cond.laysStatic "java/lang/String" "COMPACT_STRINGS" "Z" ∈ lw_tbl := List.mem_of_getElem? (i := 432) (by decide +kernel)
theorem tw_pf : Cond.laysStatic "jdk/internal/util/Preconditions" "SIOOBE_FORMATTER" "Ljava/util/function/BiFunction;" ∈ lw_tbl := List.mem_of_getElem? (i := 448) (by decide +kernel)
theorem tw_us : Cond.laysStatic Bundle.tN "UNASSIGNED_STACK" Bundle.steD ∈ lw_tbl := List.mem_of_getElem? (i := 848) (by decide +kernel)
theorem tw_ss : Cond.laysStatic Bundle.tN "SUPPRESSED_SENTINEL" Bundle.listD ∈ lw_tbl := List.mem_of_getElem? (i := 850) (by decide +kernel)
theorem tw_is : Cond.initialized "java/lang/String" ∈ lw_tbl := by decide +kernel
theorem tw_ip : Cond.initialized "jdk/internal/util/Preconditions" ∈ lw_tbl := by decide +kernel
theorem tw_it : Cond.initialized Bundle.tN ∈ lw_tbl := by decide +kernel
theorem tw_st : ∀ i, i < 7 → Cond.stringRef "PriceDesk$TextReader" (idxJ.getD i 0) (txtJ.getD i "") ∈ lw_tbl := by decide +kernel
theorem tw_ca : Cond.castable NSE NSE ∈ lw_tbl := List.mem_of_getElem? (i := 823) (by decide +kernel)
theorem st_A : ∀ a : Nat, a < s.heap.size → ¬ (A0 s) a := fun a h => Nat.not_le.mpr h
theorem st_SC (h : ∀ w ∈ lw_tbl, w.before args s = true) (hgv : (Jvm.Cond.and given_1 narrow_1).before args s = true) : ∃ adK adV : Nat → Nat, SCx adK adV (A0 s) s s.heap := by
  have hs := flat_of_before _ hgv
  obtain ⟨adK, adV, h1, h2⟩ := vk_Sof (args := args) (s := s) (N := 7) (tm := tmJ) (len := lenJ) (byt := bytJ) (A := A0 s) lenJ_lt (fun i hi => hs _ (fj_ex i hi)) (fun i hi => hs _ (fj_co i hi)) (fun i hi => hs _ (fj_ar i hi)) (fun i hi => hs _ (fj_le i hi)) (fun i hi j hj => hs _ (fj_el i hi j hj)) (fun i j hi hj hij => (fj_ne i hi j hj hij).imp (hs _) (hs _)) st_A
  exact ⟨adK, adV, h1, va_Zof (h _ tw_cs) (h _ tw_is) (va_eqt (hs _ fj_cs)) st_A, va_Zqof (h _ tw_pf) (h _ tw_ip) (hs _ fj_pf) st_A, fun i hi => vk_R.of (A := args) (h _ (tw_st i hi)) (h2 i hi)⟩
theorem st_TX (h : ∀ w ∈ lw_tbl, w.before args s = true) (hgv : (Jvm.Cond.and given_1 narrow_1).before args s = true) : TX (A0 s) s s.heap := by
  have hs := flat_of_before _ hgv
  refine ⟨fun w hw hc => va_Nw.of (A := args) ?_ (h w (tq_tbl w hw)), vx_Zqof (h _ tw_us) (h _ tw_it) (hs _ fj_us) st_A, vx_Zqof (h _ tw_ss) (h _ tw_it) (hs _ fj_ss) st_A⟩
  cases w <;> first | rfl | (simp [isCD] at hc)
theorem st_ca (h : ∀ w ∈ lw_tbl, w.before args s = true) : va_Nw (.castable NSE NSE) s := va_Nw.of (A := args) rfl (h _ tw_ca)
end STA
/-! the first rows of both are alike -/
theorem z_first : zA s0 t0L (fun _ _ => 0) := by
  have hz : ∀ j : Nat, (fun _ => 0 : Nat → Int32) j = 0 := fun _ => rfl
  have hRI : RI (fun _ => 0) := (LI_zero (σ := fun _ _ => 0) (fun _ _ => rfl)).1
  refine ⟨1, 0, by decide, rfl, rfl, ⟨by decide, rfl, rfl, fun j hj => absurd hj (Nat.not_lt_zero _)⟩, rfl, ⟨⟨rfl, rfl, rfl, fun i hi => ?_, fun c hc => ?_⟩, ⟨rfl, fun d hd => ?_⟩, hRI, fun d hd => ?_⟩, ⟨0, 0, by decide, by decide, rfl, rfl, rfl, fun j hj => absurd hj (Nat.not_lt_zero _), fun j hj => absurd hj (Nat.not_lt_zero _)⟩, fun q => absurd q (by decide)⟩
  · exfalso; rw [z0] at hi; omega
  · exfalso; rw [z0] at hc; omega
  · exfalso; rw [z0] at hd; omega
  · exfalso; rw [z0] at hd; omega
