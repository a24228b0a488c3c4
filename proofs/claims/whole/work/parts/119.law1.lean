/-! ===== the law: desk, reference and the cell 'out' beside each other ===== -/
section LWA
variable {p : Program} {l : Launch} {e : Env} {R : Room} {s : State} {m : MethodId} {args : Array Value} {below : List Frame} {meth : Method} {c : Code} {H : Heap} {locs : List Loc} {cells slots : Nat} {Q : State → Prop}
variable {cc : ByteArray} {pc : Nat} {ls : Array Slot} {rest st0 : List Value} {D : va_G} {tys : List (ClassId × FieldType)} {N : Nat} {ad : Nat → Nat} {cf : CF} {σ : MI} {τ : ML} {H0 : Heap} {post : Post} {A : Nat → Prop} {thr : Prop}
theorem S_step {T' t st₀ : State} {L : List Loc} (e1 : T'.heap = t.heap) (h0 : st₀.heap = H) (hS : va_S A H0 H locs) (hA : ∀ q, AA N ad q → A q) (hL : ∀ q ∈ L, AA N ad q.base) (hF : va_F (AA N ad) st₀ t) : H.size ≤ T'.heap.size ∧ (∀ q : Nat, q < H.size → ¬ AA N ad q → T'.heap[q]? = H[q]?) ∧ va_S A H0 T'.heap (locs ++ L) :=
  vx_keep h0 e1 hS (fun q _ h => hA q h) hA hL hF
theorem lrun {a : Array Value} (hr : va_Run p l e R s m args below meth c H locs cells slots 0 0 (F0 m pc ls st0) rest (QD D N ad cf post a) (AA N ad)) (hS : va_S A H0 H locs) (hA : ∀ q, AA N ad q → A q)
    (kk : ∀ (v : Option Value) (σ' : MI) (τ' : ML) (H1 : Heap) (locs1 : List Loc), post v σ' τ' → PW D N ad cf σ' τ' H1 → H.size ≤ H1.size → (∀ q : Nat, q < H.size → ¬ AA N ad q → H1[q]? = H[q]?) → va_S A H0 H1 locs1 → W p l e R s m args below meth c H1 locs1 cells slots Q (F0 m (pc + 3) ls (v.toList ++ rest))) : W p l e R s m args below meth c H locs cells slots Q (F0 m pc ls st0) := by
  intro T hT X
  obtain ⟨v, st₀, t, T', L, h0, X', hL, e1, e2, ⟨⟨v', σ', τ', hv, hp, hb⟩, hF⟩, st⟩ := hr T hT X
  cases hv
  obtain ⟨k1, k2, k3⟩ := S_step e1 h0 hS hA hL hF
  obtain ⟨t2, a1, b1⟩ := kk v σ' τ' T'.heap (locs ++ L) hp (by rw [e1]; exact hb) k1 k2 k3 T' rfl X'
  exact ⟨t2, st t2 a1, b1⟩
theorem xrun {a : Array Value} (hr : vx_Run p l e R s m args below meth c H locs cells slots 1 6 (F0 m pc ls st0) rest (QD D N ad cf post a) (XCd D N ad cf σ τ thr) (AA N ad)) (hS : va_S A H0 H locs) (hA : ∀ q, AA N ad q → A q)
    (kx : ∀ (ce : Cell) (q9 : Addr) (H1 : Heap) (locs1 : List Loc), thr → PW D N ad cf σ τ H1 → H.size ≤ H1.size → (∀ q : Nat, q < H.size → ¬ AA N ad q → H1[q]? = H[q]?) → va_S A H0 H1 locs1 → H1[q9]? = some ce → ce.vm = .none → s.vm.findClass NSE = some ce.cls → vx_W p l e R s m args below meth c H1 locs1 (cells + 1) (slots + 6) Q (F0 m pc ls rest) q9)
    (kk : ∀ (v : Option Value) (σ' : MI) (τ' : ML) (H1 : Heap) (locs1 : List Loc), post v σ' τ' → PW D N ad cf σ' τ' H1 → H.size ≤ H1.size → (∀ q : Nat, q < H.size → ¬ AA N ad q → H1[q]? = H[q]?) → va_S A H0 H1 locs1 → W p l e R s m args below meth c H1 locs1 (cells + 1) (slots + 6) Q (F0 m (pc + 3) ls (v.toList ++ rest))) : W p l e R s m args below meth c H locs cells slots Q (F0 m pc ls st0) := by
  intro T hT X
  rcases hr T hT X with ⟨v, st₀, t, T', L, h0, X', hL, e1, e2, ⟨⟨v', σ', τ', hv, hp, hb⟩, hF⟩, st⟩ | ⟨q, st₀, t, T', L, E, ce, h0, X', hL, e1, e2, ⟨rfl, hp, hb, hF⟩, hce, hcv, hcl, st⟩
  · cases hv
    obtain ⟨k1, k2, k3⟩ := S_step e1 h0 hS hA hL hF
    obtain ⟨t2, a1, b1⟩ := kk v σ' τ' T'.heap (locs ++ L) hp (by rw [e1]; exact hb) k1 k2 k3 T' rfl X'
    exact ⟨t2, st t2 a1, b1⟩
  · obtain ⟨k1, k2, k3⟩ := S_step e1 h0 hS hA hL hF
    obtain ⟨t2, a1, b1⟩ := kx ce q T'.heap (locs ++ L) hp (by rw [e1]; exact hb) k1 k2 k3 (by rw [e1]; exact hce) hcv hcl T' rfl X'
    exact ⟨t2, st.trans a1, b1⟩
end LWA
/-! ===== the law's four static methods ===== -/
def AL (ad : Nat → Nat) (q0 : Nat) : Nat → Prop := fun q => AA 158 ad q ∨ q = q0
def oE (ca : Nat → ClassId) (f : Nat → Int64) : va_E := .inl (ca 5, 1, .inr (.inl f))
def HP (D : va_G) (ca : Nat → ClassId) (ad : Nat → Nat) (q0 : Nat) (σ : MI) (τ : ML) (f : Nat → Int64) (U : State) : Prop := PreC D (TY ca) 158 ad (cxf ca ad) σ τ U ∧ va_at D vwCl (q0, oE ca f) U.heap ∧ TX (AL ad q0) U U.heap ∧ va_Nw (.castable NSE NSE) U
def HQ (D : va_G) (ca : Nat → ClassId) (ad : Nat → Nat) (q0 : Nat) (σ : MI) (τ : ML) (ok : Bool) (val : Int64) : Array Value → State → Outcome → State → Prop := fun _ st oc t => (∃ f' : Nat → Int64, oc = .returned (some (.int (if ok = true then 0 else 1))) ∧ PW D 158 ad (cxf ca ad) σ τ t.heap ∧ va_at D vwCl (q0, oE ca f') t.heap ∧ (ok = true → f' 0 = val)) ∧ va_F (AL ad q0) st t
def HT (l : Launch) (D : va_G) (ca : Nat → ClassId) (ad : Nat → Nat) (q0 : Nat) (y : MethodName) (cc : ByteArray) (nL : Nat) (hh : List (Nat × Nat × Nat × Nat)) (fr lo : Nat) (as : List Value) (σ : MI) (τ : ML) (f : Nat → Int64) (ok : Bool) (val : Int64) : Prop :=
  Met l y (Cond.codeWith y cc nL (some .int) hh :: GG) { frames := fr, cells := 1, slots := 6, locals := lo } (va_Pc as (HP D ca ad q0 σ τ f)) (HQ D ca ad q0 σ τ ok val) 1 6 (AL ad q0)
theorem HP.blind {D : va_G} {ca : Nat → ClassId} {ad : Nat → Nat} {q0 : Nat} {σ : MI} {τ : ML} {f : Nat → Int64} {as : List Value} : FrameBlind (va_Pc as (HP D ca ad q0 σ τ f)) := fun a U g mk q => by
  obtain ⟨q0, ⟨qP, qK, qN⟩, qo, qE, qC⟩ := q
  exact ⟨q0, ⟨qP, va_K.moved (u := U) (U := U.calling g mk a) (Vm.Alike.refl U.vm) qK, NW.same (u := U) (U := U.calling g mk a) rfl qN⟩, qo, TX.same (u := U) (U := U.calling g mk a) rfl qE, va_Nw.same (u := U) (U := U.calling g mk a) rfl rfl qC⟩
theorem kw_ratio : Cond.codeWith yL_ratio cL_ratio 6 (some .int) [(0, 12, 15, 13)] ∈ GG := GG_mem 814 (by decide +kernel) (by decide +kernel)
theorem kw_price : Cond.codeWith yL_price cL_price 6 (some .int) [(0, 12, 15, 13)] ∈ GG := GG_mem 885 (by decide +kernel) (by decide +kernel)
theorem kw_amount : Cond.codeWith yL_amount cL_amount 5 (some .int) [(0, 9, 12, 13)] ∈ GG := GG_mem 895 (by decide +kernel) (by decide +kernel)
theorem kw_statement : Cond.codeWith yL_statement cL_statement 5 (some .int) [(0, 9, 12, 13)] ∈ GG := GG_mem 903 (by decide +kernel) (by decide +kernel)
section LWB
variable {l : Launch} {D : va_G} {ca : Nat → ClassId} {ad : Nat → Nat} {q0 : Nat} {σ : MI} {τ : ML} {f : Nat → Int64} {y : MethodName} {cc : ByteArray} {nL : Nat} {hh : List (Nat × Nat × Nat × Nat)} {fr lo : Nat} {As : List Value} {ok : Bool} {val : Int64}
theorem HT.of (hy : plainName y.cls = true) (hlen : (lg_sl As).length ≤ nL)
    (h : ∀ (p : Program) (e : Env) (s : State) (m : MethodId) (args : Array Value) (below : List Frame) (meth : Method) (c : Code), p.tables.exec = Jvm.exec → c.code = cc → meth.sig.returnType = some .int → (∀ w ∈ GG, w.before args s = true) → s.vm.findClass y.cls = some m.cls → meth.locks = false → c.maxLocals = nL → HP D ca ad q0 σ τ f s → c.exceptionTable.toList = tableOf hh → ∀ ls : Array Slot, lv_has ls nL (lv_args 0 As) → W p l e { frames := fr, cells := 1, slots := 6, locals := lo } s m args below meth c s.heap [] 0 0 (MQ below (HQ D ca ad q0 σ τ ok val) args s 1 6 (AL ad q0)) (F0 m 0 ls [])) :
    HT l D ca ad q0 y cc nL hh fr lo As σ τ f ok val := by
  refine va_MetW (cc := cc) (maxL := nL) (ret := some .int) (hh := hh) hy rfl ?_
  intro p e s m args below meth c s₁ B hml hv
  obtain ⟨rfl, hP⟩ := hv
  have hts := atoms_spec (ws := Cond.codeWith y cc nL (some .int) hh :: GG) B.pre
  have hl := lv_entry As (n := nL) hlen
  have htab := vx_table (x := y) B (hts _ List.mem_cons_self)
  rw [lg_entry_eq]
  exact h p e s m As.toArray below meth c B.exec B.bytes B.returns (fun w hw => hts w (List.mem_cons_of_mem _ hw)) (findClass_of_methodNamed B.named) B.notSynchronized hml hP htab _ hl
end LWB
section LWC
variable {p : Program} {l : Launch} {e : Env} {R : Room} {s : State} {m : MethodId} {args : Array Value} {below : List Frame} {meth : Method} {c : Code} {H : Heap} {locs : List Loc} {cells slots : Nat} {Q : State → Prop}
variable {cc : ByteArray} {pc : Nat} {ls : Array Slot} {rest st0 : List Value} {D : va_G} {ca : Nat → ClassId} {ad : Nat → Nat} {q0 : Nat} {σ : MI} {τ : ML} {f : Nat → Int64} {H0 : Heap} {post : Post} {thr : Prop}
variable {y : MethodName} {bytes : ByteArray} {maxL nL n index fr lo : Nat} {ret : Option FieldType} {own : String} {As : List Value}
/-- a call of the desk that may throw, from one of them -/
theorem xcall (S : CallFix p m c cc nL s args GG own) (hP : HP D ca ad q0 σ τ f s) (hq0 : ¬ AA 158 ad q0) (hM : XT l D (TY ca) 158 ad (cxf ca ad) y bytes maxL ret fr lo (.ref (ad 0) :: As) σ τ post thr) (ok : MOK RX8 y bytes maxL ret n) (h1 : Cond.methodLink own index y ∈ GG)
    (hR : fr + 1 ≤ R.frames ∧ 8 + (maxL + 11) + lo ≤ R.locals) (hn : As.length = n) (hsize : ls.size = nL) (hstack : st0 = As.reverse ++ .ref (ad 0) :: rest) (hW : (rest.map fun v => v.category).sum ≤ 8) (hf : 0 + 1 ≤ R.cells ∧ 0 + 6 ≤ R.slots) (hdg : decode cc pc = .ok (.invokevirtual index, 3))
    (kx : ∀ (ce : Cell) (q9 : Addr) (H1 : Heap) (locs1 : List Loc), thr → PW D 158 ad (cxf ca ad) σ τ H1 → va_at D vwCl (q0, oE ca f) H1 → va_S (AL ad q0) s.heap H1 locs1 → H1[q9]? = some ce → ce.vm = .none → s.vm.findClass NSE = some ce.cls → vx_W p l e R s m args below meth c H1 locs1 1 6 Q (F0 m pc ls rest) q9)
    (kk : ∀ (v : Option Value) (σ' : MI) (τ' : ML) (H1 : Heap) (locs1 : List Loc), post v σ' τ' → PW D 158 ad (cxf ca ad) σ' τ' H1 → va_at D vwCl (q0, oE ca f) H1 → va_S (AL ad q0) s.heap H1 locs1 → W p l e R s m args below meth c H1 locs1 1 6 Q (F0 m (pc + 3) ls (v.toList ++ rest))) : W p l e R s m args below meth c s.heap [] 0 0 Q (F0 m pc ls st0) := by
  obtain ⟨o1, o2, o3, o4, o5⟩ := ok
  obtain ⟨⟨hPW, hK, hN⟩, ho, hE, hC⟩ := hP
  have hlt : q0 < s.heap.size := va_at.lt ho
  refine xrun (A := AL ad q0) (vx_runV (As := As) (rest := rest) S hM (cwV n S.2.2.2.2 (GG_inV h1 o1 o2 o3 o4) rfl rfl rfl o5 hR) ⟨XT.blind, va_recv hK hPW (ci := 8) (q0 := 0) rfl (wdl_get (by decide) (sh_desk _ _)), fun U hU hW => ⟨rfl, ⟨by rw [hU]; exact hPW, va_K.moved hW.alike hK, NW.warm hW hN⟩, by rw [hU]; exact (hE.narrow (fun q h => Or.inl h)).warm hW⟩⟩ rfl hn hsize hstack (lv_room hW) hdg hf) va_S.rf (fun q h => Or.inl h) ?_ ?_
  · intro ce q9 H1 locs1 h1 h2 h3 h4 h5 h6 h7 h8
    exact kx ce q9 H1 locs1 h1 h2 (va_at.kept' ho (h4 q0 hlt hq0)) h5 h6 h7 h8
  · intro v σ' τ' H1 locs1 h1 h2 h3 h4 h5
    exact kk v σ' τ' H1 locs1 h1 h2 (va_at.kept' ho (h4 q0 hlt hq0)) h5
/-- the answer goes into 'out' -/
theorem o_put {f0 : Nat → Int64} (hexec : p.tables.exec = Jvm.exec) (hb : c.code = cc) (hK : va_K D vwCl (TY ca) s) (hq0 : ¬ AA 158 ad q0) (hPW : PW D 158 ad (cxf ca ad) σ τ H) (ho : va_at D vwCl (q0, oE ca f0) H) (hS : va_S (AL ad q0) s.heap H locs) {x : Int64} (hdg : decode cc pc = .ok (.lastore, 1))
    (kk : ∀ (H1 : Heap) (locs1 : List Loc), PW D 158 ad (cxf ca ad) σ τ H1 → va_at D vwCl (q0, oE ca (fun _ => x)) H1 → va_S (AL ad q0) s.heap H1 locs1 → W p l e R s m args below meth c H1 locs1 cells slots Q (F0 m (pc + 1) ls rest)) : W p l e R s m args below meth c H locs cells slots Q (F0 m pc ls (.long x :: .int 0 :: .ref q0 :: rest)) := by
  refine W.last hexec hb ho ((hK.2 5 _ rfl).1 1 (fun j => .long (f0 j))) (fun q => by cases q) (by show ¬ ((0 : Int32) < 0 ∨ (arrV _ _ _).slots.size ≤ _); rw [arrV_size]; show ¬ ((0 : Int32) < 0 ∨ 1 ≤ (0 : Int32).toNatClampNeg); decide) rfl rfl hdg fun H1 e z oq => ?_
  have e1 : va_at D vwCl (q0, oE ca (fun _ => x)) H1 := by
    show H1[q0]? = some (vp_cell _ _)
    rw [e, vp_cell_l, vp_cell_l, arrV_store]
    congr 1
  exact kk H1 _ (hPW.kept (fun k hk => oq _ (fun h => hq0 ⟨k, hk, h.symm⟩))) e1 (hS.put z oq (Or.inr rfl))
theorem h_ret {v : Int32} {okb : Bool} {val : Int64} {f' : Nat → Int64} (hexec : p.tables.exec = Jvm.exec) (hb : c.code = cc) (hr : meth.sig.returnType = some .int) (hlk : meth.locks = false) (hPW : PW D 158 ad (cxf ca ad) σ τ H) (ho : va_at D vwCl (q0, oE ca f') H) (hS : va_S (AL ad q0) s.heap H locs) (hv : v = if okb = true then 0 else 1) (hval : okb = true → f' 0 = val) (hdg : decode cc pc = .ok (.ireturn, 1)) : W p l e R s m args below meth c H locs 1 6 (MQ below (HQ D ca ad q0 σ τ okb val) args s 1 6 (AL ad q0)) (F0 m pc ls [.int v]) :=
  W.iret hexec hb hr (fun t ht hW => ⟨⟨f', by rw [hv], by rw [ht]; exact hPW, by rw [ht]; exact ho, hval⟩, hS.F ht⟩) hS.2.2 hdg hlk
end LWC
