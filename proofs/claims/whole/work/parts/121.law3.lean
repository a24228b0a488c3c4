/-! ===== the law's body: what stands there all along ===== -/
def LWf (ad am : Nat → Nat) (q0 : Nat) (A : Nat → Prop) : Prop := Inj 158 ad ∧ Inj 6 am ∧ (∀ q, AA 158 ad q → ¬ AA 6 am q) ∧ ¬ AA 158 ad q0 ∧ ¬ AA 6 am q0 ∧ (∀ q, AA 158 ad q → A q) ∧ (∀ q, AA 6 am q → A q) ∧ A q0
def LWd (D : va_G) (ca : Nat → ClassId) (ad am : Nat → Nat) (q0 : Nat) (σ : MI) (τ : ML) (μ : MI) (υ : ML) (f : Nat → Int64) (H : Heap) : Prop := PW D 158 ad (cxf ca ad) σ τ H ∧ PW D 6 am (mxf ca am) μ υ H ∧ va_at D vwCl (q0, oE ca f) H
def LO (b : Nat) (ad am : Nat → Nat) (q0 i : Nat) : List (Nat × Value) := [(4, .int (nI i)), (3, .ref q0), (2, .ref (am 0)), (1, .ref (ad 0)), (0, .ref b)]
abbrev A0 (s : State) : Nat → Prop := fun q => s.heap.size ≤ q
def LE (p : Program) (l : Launch) (s : State) (m : MethodId) (meth : Method) (c : Code) (b L : Nat) (xs : Nat → Int32) (D : va_G) (ca : Nat → ClassId) (ad am : Nat → Nat) (q0 : Nat) (adK adV : Nat → Nat) : Prop :=
  (p.tables.exec = Jvm.exec ∧ c.code = cL_law ∧ c.maxLocals = 8 ∧ s.vm.findClass RL = some m.cls ∧ (∀ w ∈ GG, w.before #[Value.ref b] s = true)) ∧ (va_X b L xs s s.heap ∧ b < s.heap.size ∧ L ≤ 3072) ∧ va_K D vwCl (TY ca) s ∧ NW s ∧ SCx adK adV (A0 s) s s.heap ∧ TX (A0 s) s s.heap ∧ va_Nw (.castable NSE NSE) s ∧ l.stackTraces = false ∧ LWf ad am q0 (A0 s)
theorem SCx.narrow {adK adV : Nat → Nat} {A B : Nat → Prop} {U : State} {H : Heap} (h : SCx adK adV A U H) (hAB : ∀ q, B q → A q) : SCx adK adV B U H := ⟨h.1.narrow hAB, h.2.1.narrow hAB, h.2.2.1.narrow hAB, h.2.2.2⟩
section LWX
variable {p : Program} {l : Launch} {e : Env} {R : Room} {s : State} {m : MethodId} {below : List Frame} {meth : Method} {c : Code} {b L : Nat} {xs : Nat → Int32} {D : va_G} {ca : Nat → ClassId} {ad am : Nat → Nat} {q0 : Nat} {adK adV : Nat → Nat}
variable {H : Heap} {locs : List Loc} {cells slots : Nat} {Q : State → Prop} {pc : Nat} {ls : Array Slot} {rest st0 : List Value} {σ : MI} {τ : ML} {μ : MI} {υ : ML} {f : Nat → Int64} {post : Post} {i : Nat}
variable {y : MethodName} {bytes : ByteArray} {maxL n index fr lo : Nat} {ret : Option FieldType} {As : List Value}
theorem LE.fix (E : LE p l s m meth c b L xs D ca ad am q0 adK adV) : CallFix p m c cL_law 8 s #[Value.ref b] GG RL := ⟨E.1.1, E.1.2.1, E.1.2.2.1, E.1.2.2.2.1, E.1.2.2.2.2⟩
theorem LE.lay (E : LE p l s m meth c b L xs D ca ad am q0 adK adV) : LWf ad am q0 (A0 s) := E.2.2.2.2.2.2.2.2
theorem LWd.lt0 (h : LWd D ca ad am q0 σ τ μ υ f H) : q0 < H.size := va_at.lt h.2.2
/-- 'script[i + n]' -/
theorem l_arg (E : LE p l s m meth c b L xs D ca ad am q0 adK adV) (hS : va_S (A0 s) s.heap H locs) (hi : i + 6 ≤ L) (hl : lv_has ls 8 (LO b ad am q0 i)) {n : Nat} {kv : Int} {pc' : Nat} (hn : n < 6) (hk : Int32.ofInt kv = nI n) (hpc : pc + 6 = pc') (d0 : decode cL_law pc = .ok (.aload_n 0, 1)) (d1 : decode cL_law (pc + 1) = .ok (.iload 4, 2)) (d2 : decode cL_law (pc + 3) = .ok (.iconst kv, 1)) (d3 : decode cL_law (pc + 4) = .ok (.iadd, 1)) (d4 : decode cL_law (pc + 5) = .ok (.iaload, 1))
    (kk : W p l e R s m #[Value.ref b] below meth c H locs cells slots Q (F0 m pc' ls (.int (xs (i + n)) :: rest))) : W p l e R s m #[Value.ref b] below meth c H locs cells slots Q (F0 m pc ls rest) := by
  subst hpc
  obtain ⟨⟨hx, hb, -, -, -⟩, ⟨hX, hbl, hL⟩, -⟩ := E
  refine lv_aload_n hx hb d0 rfl (lv_at hl 4 rfl) ?_
  refine lv_iload hx hb d1 (lv_at hl 0 rfl) ?_
  refine lv_iconst (v := nI n) hx hb d2 hk ?_
  refine lv_iadd hx hb d3 ?_
  rw [nI_add]
  refine va_sld hx hb hX hbl (Nat.not_le.mpr hbl) hS (vp_in_nI (by omega) (by omega)) d4 ?_
  rw [nI_clamp (by omega)]
  exact kk
/-- a call of the desk -/
theorem lcC (E : LE p l s m meth c b L xs D ca ad am q0 adK adV) (hW : LWd D ca ad am q0 σ τ μ υ f H) (hS : va_S (A0 s) s.heap H locs) (hM : CT l D (TY ca) 158 ad (cxf ca ad) y bytes maxL ret fr lo (.ref (ad 0) :: As) σ τ post) (ok : MOK RX8 y bytes maxL ret n) (h1 : Cond.methodLink RL index y ∈ GG)
    (hR : fr + 1 ≤ R.frames ∧ 8 + (maxL + 11) + lo ≤ R.locals) (hn : As.length = n) (hsize : ls.size = 8) (hstack : st0 = As.reverse ++ .ref (ad 0) :: rest) (hWs : (rest.map fun v => v.category).sum ≤ 8) (hf : cells ≤ R.cells ∧ slots ≤ R.slots) (hdg : decode cL_law pc = .ok (.invokevirtual index, 3))
    (kk : ∀ (v : Option Value) (σ' : MI) (τ' : ML) (H1 : Heap) (locs1 : List Loc), post v σ' τ' → LWd D ca ad am q0 σ' τ' μ υ f H1 → va_S (A0 s) s.heap H1 locs1 → W p l e R s m #[Value.ref b] below meth c H1 locs1 cells slots Q (F0 m (pc + 3) ls (v.toList ++ rest))) : W p l e R s m #[Value.ref b] below meth c H locs cells slots Q (F0 m pc ls st0) := by
  obtain ⟨o1, o2, o3, o4, o5⟩ := ok
  have S := E.fix
  have F := E.lay
  obtain ⟨-, -, hK, hN, -⟩ := E
  refine lrun (va_runV (As := As) (rest := rest) S hM (cwV n S.2.2.2.2 (GG_inV h1 o1 o2 o3 o4) rfl rfl rfl o5 hR) ⟨PreC.blind, va_recv hK hW.1 (ci := 8) (q0 := 0) rfl (wdl_get (by decide) (sh_desk _ _)), fun U hU hWm => ⟨rfl, by rw [hU]; exact hW.1, va_K.moved hWm.alike hK, NW.warm hWm hN⟩⟩ rfl hn hsize hstack (lv_room hWs) hdg hf) hS F.2.2.2.2.2.1 (fun v σ' τ' H1 locs1 hp hP hz hk hS1 => ?_)
  exact kk v σ' τ' H1 locs1 hp ⟨hP, hW.2.1.kept (fun k hk6 => hk _ (hW.2.1.lt hk6) (fun h => F.2.2.1 _ h ⟨k, hk6, rfl⟩)), va_at.kept' hW.2.2 (hk q0 hW.lt0 F.2.2.2.1)⟩ hS1
/-- a call of the reference -/
theorem lcM (E : LE p l s m meth c b L xs D ca ad am q0 adK adV) (hW : LWd D ca ad am q0 σ τ μ υ f H) (hS : va_S (A0 s) s.heap H locs) (hM : CT l D (TY ca) 6 am (mxf ca am) y bytes maxL ret fr lo (.ref (am 0) :: As) μ υ post) (ok : MOK RX9 y bytes maxL ret n) (h1 : Cond.methodLink RL index y ∈ GG)
    (hR : fr + 1 ≤ R.frames ∧ 8 + (maxL + 11) + lo ≤ R.locals) (hn : As.length = n) (hsize : ls.size = 8) (hstack : st0 = As.reverse ++ .ref (am 0) :: rest) (hWs : (rest.map fun v => v.category).sum ≤ 8) (hf : cells ≤ R.cells ∧ slots ≤ R.slots) (hdg : decode cL_law pc = .ok (.invokevirtual index, 3))
    (kk : ∀ (v : Option Value) (μ' : MI) (υ' : ML) (H1 : Heap) (locs1 : List Loc), post v μ' υ' → LWd D ca ad am q0 σ τ μ' υ' f H1 → va_S (A0 s) s.heap H1 locs1 → W p l e R s m #[Value.ref b] below meth c H1 locs1 cells slots Q (F0 m (pc + 3) ls (v.toList ++ rest))) : W p l e R s m #[Value.ref b] below meth c H locs cells slots Q (F0 m pc ls st0) := by
  obtain ⟨o1, o2, o3, o4, o5⟩ := ok
  have S := E.fix
  have F := E.lay
  obtain ⟨-, -, hK, hN, -⟩ := E
  refine lrun (va_runV (As := As) (rest := rest) S hM (cwV n S.2.2.2.2 (GG_inV h1 o1 o2 o3 o4) rfl rfl rfl o5 hR) ⟨PreC.blind, va_recv hK hW.2.1 (ci := 9) (q0 := 0) rfl (wdl_get (by decide) (sm_obj _ _)), fun U hU hWm => ⟨rfl, by rw [hU]; exact hW.2.1, va_K.moved hWm.alike hK, NW.warm hWm hN⟩⟩ rfl hn hsize hstack (lv_room hWs) hdg hf) hS F.2.2.2.2.2.2.1 (fun v σ' τ' H1 locs1 hp hP hz hk hS1 => ?_)
  exact kk v σ' τ' H1 locs1 hp ⟨hW.1.kept (fun k hk6 => hk _ (hW.1.lt hk6) (F.2.2.1 _ ⟨k, hk6, rfl⟩)), hP, va_at.kept' hW.2.2 (hk q0 hW.lt0 F.2.2.2.2.1)⟩ hS1
/-- the desk's text -/
theorem lcY (E : LE p l s m meth c b L xs D ca ad am q0 adK adV) (hW : LWd D ca ad am q0 σ τ μ υ f H) (hS : va_S (A0 s) s.heap H locs) (hM : CY l D (TY ca) 158 ad (cxf ca ad) adK adV y bytes maxL ret fr lo (.ref (ad 0) :: As) σ τ post) (ok : MOK RX8 y bytes maxL ret n) (h1 : Cond.methodLink RL index y ∈ GG)
    (hR : fr + 1 ≤ R.frames ∧ 8 + (maxL + 11) + lo ≤ R.locals) (hn : As.length = n) (hsize : ls.size = 8) (hstack : st0 = As.reverse ++ .ref (ad 0) :: rest) (hWs : (rest.map fun v => v.category).sum ≤ 8) (hf : cells ≤ R.cells ∧ slots ≤ R.slots) (hdg : decode cL_law pc = .ok (.invokevirtual index, 3))
    (kk : ∀ (v : Option Value) (σ' : MI) (τ' : ML) (H1 : Heap) (locs1 : List Loc), post v σ' τ' → LWd D ca ad am q0 σ' τ' μ υ f H1 → va_S (A0 s) s.heap H1 locs1 → W p l e R s m #[Value.ref b] below meth c H1 locs1 cells slots Q (F0 m (pc + 3) ls (v.toList ++ rest))) : W p l e R s m #[Value.ref b] below meth c H locs cells slots Q (F0 m pc ls st0) := by
  obtain ⟨o1, o2, o3, o4, o5⟩ := ok
  have S := E.fix
  have F := E.lay
  obtain ⟨-, -, hK, hN, hE, -⟩ := E
  refine lrun (va_runV (As := As) (rest := rest) S hM (cwV n S.2.2.2.2 (GG_inV h1 o1 o2 o3 o4) rfl rfl rfl o5 hR) ⟨CY.blind, va_recv hK hW.1 (ci := 8) (q0 := 0) rfl (wdl_get (by decide) (sh_desk _ _)), fun U hU hWm => ⟨rfl, ⟨by rw [hU]; exact hW.1, va_K.moved hWm.alike hK, NW.warm hWm hN⟩, by rw [hU]; exact ((hE.kept hS.2.1).narrow F.2.2.2.2.2.1).warm hWm⟩⟩ rfl hn hsize hstack (lv_room hWs) hdg hf) hS F.2.2.2.2.2.1 (fun v σ' τ' H1 locs1 hp hP hz hk hS1 => ?_)
  exact kk v σ' τ' H1 locs1 hp ⟨hP, hW.2.1.kept (fun k hk6 => hk _ (hW.2.1.lt hk6) (fun h => F.2.2.1 _ h ⟨k, hk6, rfl⟩)), va_at.kept' hW.2.2 (hk q0 hW.lt0 F.2.2.2.1)⟩ hS1
/-- one of the law's own static methods -/
theorem lcH {hh : List (Nat × Nat × Nat × Nat)} {okb : Bool} {val : Int64} (E : LE p l s m meth c b L xs D ca ad am q0 adK adV) (hW : LWd D ca ad am q0 σ τ μ υ f H) (hS : va_S (A0 s) s.heap H locs) (hM : HT l D ca ad q0 y bytes maxL hh fr lo As σ τ f okb val) (hw : Cond.codeWith y bytes maxL (some .int) hh ∈ GG) (h1 : Cond.methodLink RL index y ∈ GG) (h2 : Cond.static y ∈ GG) (h3 : Cond.initialized y.cls ∈ GG) (hd : y.cls ≠ "java/lang/invoke/MethodHandle" ∧ y.cls ≠ "java/lang/invoke/VarHandle" ∧ (parseMethodDescriptor y.desc).map (fun d => d.parameters.length) = some n)
    (hR : fr + 1 ≤ R.frames ∧ 8 + (maxL + 11) + lo ≤ R.locals) (hn : As.length = n) (hsize : ls.size = 8) (hstack : st0 = As.reverse ++ rest) (hWs : (rest.map fun v => v.category).sum ≤ 8) (hf : cells + 1 ≤ R.cells ∧ slots + 6 ≤ R.slots) (hdg : decode cL_law pc = .ok (.invokestatic index, 3))
    (kk : ∀ (f' : Nat → Int64) (H1 : Heap) (locs1 : List Loc), (okb = true → f' 0 = val) → LWd D ca ad am q0 σ τ μ υ f' H1 → va_S (A0 s) s.heap H1 locs1 → W p l e R s m #[Value.ref b] below meth c H1 locs1 (cells + 1) (slots + 6) Q (F0 m (pc + 3) ls (.int (if okb = true then 0 else 1) :: rest))) : W p l e R s m #[Value.ref b] below meth c H locs cells slots Q (F0 m pc ls st0) := by
  have S := E.fix
  have F := E.lay
  obtain ⟨-, -, hK, hN, -, hE, hC, -, -⟩ := E
  have hAL : ∀ q, AL ad q0 q → A0 s q := fun q h => by
    rcases h with h | h
    · exact F.2.2.2.2.2.1 q h
    · rw [h]; exact F.2.2.2.2.2.2.2
  have hr := vx_runSW (As := As) (rest := rest) (p := p) (e := e) (R := R) (below := below) (meth := meth) (H := H) (locs := locs) (cells := cells) (slots := slots) (g := F0 m pc ls st0) S hM (vx_cwSW n S.2.2.2.2 (GG_inS h1 h2 h3 hw) rfl rfl rfl hd hR) ⟨HP.blind, fun U hU hWm => ⟨rfl, ⟨by rw [hU]; exact hW.1, va_K.moved hWm.alike hK, NW.warm hWm hN⟩, by rw [hU]; exact hW.2.2, by rw [hU]; exact ((hE.kept hS.2.1).narrow hAL).warm hWm, va_Nw.warmC hWm hC⟩⟩ rfl hn hsize hstack (lv_room hWs) hdg hf
  intro T hT X
  obtain ⟨v, st₀, t, T', Lc, h0, X', hL, e1, e2, ⟨⟨f', hv, hP, ho, hval⟩, hFr⟩, st⟩ := hr T hT X
  cases hv
  obtain ⟨k1, k2, k3⟩ := vx_keep h0 e1 hS (fun q _ h => hAL q h) hAL hL hFr
  have hnm : ∀ k, k < 6 → ¬ AL ad q0 (am k) := fun k hk6 h => by
    rcases h with h | h
    · exact F.2.2.1 _ h ⟨k, hk6, rfl⟩
    · exact F.2.2.2.2.1 ⟨k, hk6, h.symm⟩
  obtain ⟨t2, a1, b1⟩ := kk f' T'.heap (locs ++ Lc) hval ⟨by rw [e1]; exact hP, hW.2.1.kept (fun k hk6 => k2 _ (hW.2.1.lt hk6) (hnm k hk6)), by rw [e1]; exact ho⟩ k3 T' rfl X'
  exact ⟨t2, st t2 a1, b1⟩
/-- what comes behind a call -/
def KO (p : Program) (l : Launch) (e : Env) (R : Room) (s : State) (m : MethodId) (below : List Frame) (meth : Method) (c : Code) (b : Nat) (D : va_G) (ca : Nat → ClassId) (ad am : Nat → Nat) (q0 i cells slots : Nat) (Q : State → Prop) : Prop :=
  ∀ (σ : MI) (τ : ML) (μ : MI) (υ : ML) (f : Nat → Int64) (H : Heap) (locs : List Loc) (ls : Array Slot), zA σ τ μ → LWd D ca ad am q0 σ τ μ υ f H → va_S (A0 s) s.heap H locs → lv_has ls 8 (LO b ad am q0 i) → W p l e R s m #[Value.ref b] below meth c H locs (cells + 1) (slots + 6) Q (F0 m 1038 ls [])
end LWX
