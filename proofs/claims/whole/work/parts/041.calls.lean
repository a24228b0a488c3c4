/-! ===== calls and ends over the numbered cells ===== -/
section FDC
variable {p : Program} {l : Launch} {e : Env} {R : Room} {s : State} {m : MethodId} {args : Array Value} {below : List Frame} {meth : Method} {c : Code} {H : Heap} {locs : List Loc} {cells slots : Nat} {Q : State → Prop}
variable {cc : ByteArray} {pc : Nat} {ls : Array Slot} {rest st0 : List Value} {D : va_G} {tys : List (ClassId × FieldType)} {N : Nat} {ad : Nat → Nat} {cf : CF} {σ : MI} {τ : ML} {H0 : Heap} {post : Post}
theorem callg {a : Array Value} (hr : va_Run p l e R s m args below meth c H locs cells slots 0 0 (F0 m pc ls st0) rest (QD D N ad cf post a) (AA N ad)) (hS : va_S (AA N ad) H0 H locs)
    (kk : ∀ (v : Option Value) (σ' : MI) (τ' : ML) (H1 : Heap) (locs1 : List Loc), post v σ' τ' → PW D N ad cf σ' τ' H1 → va_S (AA N ad) H0 H1 locs1 → W p l e R s m args below meth c H1 locs1 cells slots Q (F0 m (pc + 3) ls (v.toList ++ rest))) : W p l e R s m args below meth c H locs cells slots Q (F0 m pc ls st0) := by
  intro T hT X
  obtain ⟨v, st₀, t, T', L, h0, X', hL, e1, e2, ⟨⟨v', σ', τ', hv, hp, hb⟩, hz, hk⟩, st⟩ := hr T hT X
  cases hv
  rw [h0] at hz hk
  obtain ⟨t2, a1, b1⟩ := kk v σ' τ' T'.heap (locs ++ L) hp (by rw [e1]; exact hb)
    ⟨Nat.le_trans hS.1 (by rw [e1]; exact hz), fun q h1 h2 => by rw [e1, hk q (Nat.lt_of_lt_of_le h1 hS.1) h2]; exact hS.2.1 q h1 h2, fun q hq => by
      rcases List.mem_append.mp hq with h | h
      · exact hS.2.2 q h
      · exact hL q h⟩ T' rfl X'
  exact ⟨t2, st t2 a1, b1⟩
/-- a method's own words: an instance method of the class C, a static one -/
def MOK (C : String) (y : MethodName) (bytes : ByteArray) (maxL : Nat) (ret : Option FieldType) (n : Nat) : Prop := Cond.instanceMethod y ∈ GG ∧ Cond.selects C y y ∈ GG ∧ Cond.initialized C ∈ GG ∧ Cond.code y bytes maxL ret ∈ GG ∧ (y.cls = C ∧ y.cls ≠ "java/lang/invoke/MethodHandle" ∧ y.cls ≠ "java/lang/invoke/VarHandle" ∧ (parseMethodDescriptor y.desc).map (fun d => d.parameters.length) = some n)
def SOK (y : MethodName) (bytes : ByteArray) (maxL : Nat) (ret : Option FieldType) (n : Nat) : Prop := Cond.static y ∈ GG ∧ Cond.initialized y.cls ∈ GG ∧ Cond.code y bytes maxL ret ∈ GG ∧ (y.cls ≠ "java/lang/invoke/MethodHandle" ∧ y.cls ≠ "java/lang/invoke/VarHandle" ∧ (parseMethodDescriptor y.desc).map (fun d => d.parameters.length) = some n)
variable {y : MethodName} {bytes : ByteArray} {maxL nL n index fr lo k ci Nf : Nat} {ret : Option FieldType} {own C host : String} {T : u_T} {As fs : List Value}
theorem callv (S : CallFix p m c cc nL s args GG own) (hK : va_K D vwCl tys s) (hN : NW s) (hP : PW D N ad cf σ τ H) (hS : va_S (AA N ad) H0 H locs) (hM : CT l D tys N ad cf y bytes maxL ret fr lo (.ref (ad k) :: As) σ τ post) (hk : k < N) (hsh : cf k (σ k) (τ k) = .inr (ci, fs)) (hc : vwCl[ci]? = some (C, T, Nf)) (ok : MOK C y bytes maxL ret n) (h1 : Cond.methodLink own index y ∈ GG)
    (hR : fr + 1 ≤ R.frames ∧ 8 + (maxL + 11) + lo ≤ R.locals) (hn : As.length = n) (hsize : ls.size = nL) (hstack : st0 = As.reverse ++ .ref (ad k) :: rest) (hW : (rest.map fun v => v.category).sum ≤ 8) (hf : cells ≤ R.cells ∧ slots ≤ R.slots) (hdg : decode cc pc = .ok (.invokevirtual index, 3))
    (kk : ∀ (v : Option Value) (σ' : MI) (τ' : ML) (H1 : Heap) (locs1 : List Loc), post v σ' τ' → PW D N ad cf σ' τ' H1 → va_S (AA N ad) H0 H1 locs1 → W p l e R s m args below meth c H1 locs1 cells slots Q (F0 m (pc + 3) ls (v.toList ++ rest))) : W p l e R s m args below meth c H locs cells slots Q (F0 m pc ls st0) := by
  obtain ⟨o1, o2, o3, o4, o5⟩ := ok
  refine callg (va_runV (As := As) (rest := rest) S hM (cwV n S.2.2.2.2 (GG_inV h1 o1 o2 o3 o4) rfl rfl rfl o5 hR) ⟨PreC.blind, va_recv hK hP hc (wdl_get hk hsh), fun U hU hW => ⟨rfl, by rw [hU]; exact hP, va_K.moved hW.alike hK, NW.warm hW hN⟩⟩ rfl hn hsize hstack (lv_room hW) hdg hf) hS kk
theorem calls (S : CallFix p m c cc nL s args GG own) (hK : va_K D vwCl tys s) (hN : NW s) (hP : PW D N ad cf σ τ H) (hS : va_S (AA N ad) H0 H locs) (hM : CT l D tys N ad cf y bytes maxL ret fr lo As σ τ post) (ok : SOK y bytes maxL ret n) (h1 : Cond.methodLink own index y ∈ GG)
    (hR : fr + 1 ≤ R.frames ∧ 8 + (maxL + 11) + lo ≤ R.locals) (hn : As.length = n) (hsize : ls.size = nL) (hstack : st0 = As.reverse ++ rest) (hW : (rest.map fun v => v.category).sum ≤ 8) (hf : cells ≤ R.cells ∧ slots ≤ R.slots) (hdg : decode cc pc = .ok (.invokestatic index, 3))
    (kk : ∀ (v : Option Value) (σ' : MI) (τ' : ML) (H1 : Heap) (locs1 : List Loc), post v σ' τ' → PW D N ad cf σ' τ' H1 → va_S (AA N ad) H0 H1 locs1 → W p l e R s m args below meth c H1 locs1 cells slots Q (F0 m (pc + 3) ls (v.toList ++ rest))) : W p l e R s m args below meth c H locs cells slots Q (F0 m pc ls st0) := by
  obtain ⟨o1, o2, o3, o4⟩ := ok
  refine callg (va_runS (As := As) (rest := rest) S hM (va_cwS n S.2.2.2.2 (GG_inS h1 o1 o2 o3) rfl rfl rfl o4 hR) ⟨PreC.blind, fun U hU hW => ⟨rfl, by rw [hU]; exact hP, va_K.moved hW.alike hK, NW.warm hW hN⟩⟩ rfl hn hsize hstack (lv_room hW) hdg hf) hS kk
theorem callsN (S : CallFix p m c cc nL s args GG own) (hK : va_K D vwCl tys s) (hN : NW s) (hP : PW D N ad cf σ τ H) (hS : va_S (AA N ad) H0 H locs) (hM : CT l D tys N ad cf y bytes maxL ret fr lo As σ τ post) (ok : SOK y bytes maxL ret n) (h1 : va_Nw (.methodLinkNest own index y host) s)
    (hR : fr + 1 ≤ R.frames ∧ 8 + (maxL + 11) + lo ≤ R.locals) (hn : As.length = n) (hsize : ls.size = nL) (hstack : st0 = As.reverse ++ rest) (hW : (rest.map fun v => v.category).sum ≤ 8) (hf : cells ≤ R.cells ∧ slots ≤ R.slots) (hdg : decode cc pc = .ok (.invokestatic index, 3))
    (kk : ∀ (v : Option Value) (σ' : MI) (τ' : ML) (H1 : Heap) (locs1 : List Loc), post v σ' τ' → PW D N ad cf σ' τ' H1 → va_S (AA N ad) H0 H1 locs1 → W p l e R s m args below meth c H1 locs1 cells slots Q (F0 m (pc + 3) ls (v.toList ++ rest))) : W p l e R s m args below meth c H locs cells slots Q (F0 m pc ls st0) := by
  obtain ⟨o1, o2, o3, o4⟩ := ok
  refine callg (va_runSN (As := As) (rest := rest) S hM ⟨va_cnB n S.2.2.2.2 (GG_in o3) rfl rfl rfl h1 (S.2.2.2.2 _ o2) o4 hR, S.2.2.2.2 _ o1, trivial⟩ ⟨PreC.blind, fun U hU hW => ⟨rfl, by rw [hU]; exact hP, va_K.moved hW.alike hK, NW.warm hW hN⟩⟩ rfl hn hsize hstack (lv_room hW) hdg hf) hS kk
/-- a method is entered -/
theorem CT.of (hy : plainName y.cls = true) (hlen : (lg_sl As).length ≤ maxL)
    (h : ∀ (p : Program) (e : Env) (s : State) (m : MethodId) (args : Array Value) (below : List Frame) (meth : Method) (c : Code), p.tables.exec = Jvm.exec → c.code = bytes → meth.sig.returnType = ret → (∀ w ∈ GG, w.before args s = true) → s.vm.findClass y.cls = some m.cls → meth.locks = false → c.maxLocals = maxL → PW D N ad cf σ τ s.heap → va_K D vwCl tys s → NW s → va_S (AA N ad) s.heap s.heap [] → ∀ ls : Array Slot, lv_has ls maxL (lv_args 0 As) → W p l e { frames := fr, cells := 0, slots := 0, locals := lo } s m args below meth c s.heap [] 0 0 (MQ below (QD D N ad cf post) args s 0 0 (AA N ad)) (F0 m 0 ls [])) :
    CT l D tys N ad cf y bytes maxL ret fr lo As σ τ post := by
  refine Met.ofW (cc := bytes) (maxL := maxL) (ret := ret) hy rfl ?_
  intro p e s m args below meth c s₁ B hml hv
  obtain ⟨rfl, hP, hK, hN⟩ := hv
  have hts := atoms_spec (ws := Cond.code y bytes maxL ret :: GG) B.pre
  have hl := lv_entry As (n := maxL) hlen
  rw [lg_entry_eq]
  exact h p e s m As.toArray below meth c B.exec B.bytes B.returns (fun w hw => hts w (List.mem_cons_of_mem _ hw)) (findClass_of_methodNamed B.named) B.notSynchronized hml hP hK hN va_S.rf _ hl
theorem ret_i {v : Int32} (hexec : p.tables.exec = Jvm.exec) (hb : c.code = cc) (hr : meth.sig.returnType = some .int) (hlk : meth.locks = false) (hP : PW D N ad cf σ τ H) (hS : va_S (AA N ad) s.heap H locs) (hdg : decode cc pc = .ok (.ireturn, 1)) (hp : post (some (.int v)) σ τ) : W p l e R s m args below meth c H locs cells slots (MQ below (QD D N ad cf post) args s cells slots (AA N ad)) (F0 m pc ls [.int v]) :=
  W.iret hexec hb hr (fun t ht hW => ⟨⟨_, _, _, rfl, hp, by rw [ht]; exact hP⟩, hS.F ht⟩) hS.2.2 hdg hlk
theorem ret_z {v : Int32} (hexec : p.tables.exec = Jvm.exec) (hb : c.code = cc) (hr : meth.sig.returnType = some .boolean) (hlk : meth.locks = false) (hP : PW D N ad cf σ τ H) (hS : va_S (AA N ad) s.heap H locs) (hdg : decode cc pc = .ok (.ireturn, 1)) {b : Bool} (hv : v = b2i b) (hp : post (some (.int (b2i b))) σ τ) : W p l e R s m args below meth c H locs cells slots (MQ below (QD D N ad cf post) args s cells slots (AA N ad)) (F0 m pc ls [.int v]) := by
  subst hv
  exact W.zret hexec hb hr (by cases b <;> rfl) (fun t ht hW => ⟨⟨_, _, _, rfl, hp, by rw [ht]; exact hP⟩, hS.F ht⟩) hS.2.2 hdg hlk
theorem ret_l {v : Int64} (hexec : p.tables.exec = Jvm.exec) (hb : c.code = cc) (hr : meth.sig.returnType = some .long) (hlk : meth.locks = false) (hP : PW D N ad cf σ τ H) (hS : va_S (AA N ad) s.heap H locs) (hdg : decode cc pc = .ok (.lreturn, 1)) (hp : post (some (.long v)) σ τ) : W p l e R s m args below meth c H locs cells slots (MQ below (QD D N ad cf post) args s cells slots (AA N ad)) (F0 m pc ls [.long v]) :=
  W.lret hexec hb hr (fun t ht hW => ⟨⟨_, _, _, rfl, hp, by rw [ht]; exact hP⟩, hS.F ht⟩) hS.2.2 hdg hlk
theorem ret_v (hexec : p.tables.exec = Jvm.exec) (hb : c.code = cc) (hr : meth.sig.returnType = none) (hlk : meth.locks = false) (hP : PW D N ad cf σ τ H) (hS : va_S (AA N ad) s.heap H locs) (hdg : decode cc pc = .ok (.return_, 1)) (hp : post none σ τ) : W p l e R s m args below meth c H locs cells slots (MQ below (QD D N ad cf post) args s cells slots (AA N ad)) (F0 m pc ls []) :=
  W.vret hexec hb hr (fun t ht hW => ⟨⟨_, _, _, rfl, hp, by rw [ht]; exact hP⟩, hS.F ht⟩) hS.2.2 hdg hlk
theorem ret_a {v : Value} {C : String} (hexec : p.tables.exec = Jvm.exec) (hb : c.code = cc) (hr : meth.sig.returnType = some (.object C)) (hlk : meth.locks = false) (hP : PW D N ad cf σ τ H) (hS : va_S (AA N ad) s.heap H locs) (hdg : decode cc pc = .ok (.areturn, 1)) (hv : v = .null ∨ ∃ a, v = .ref a) (hp : post (some v) σ τ) : W p l e R s m args below meth c H locs cells slots (MQ below (QD D N ad cf post) args s cells slots (AA N ad)) (F0 m pc ls [v]) :=
  W.aret hexec hb hr (Or.inl ⟨_, rfl⟩) hv (fun t ht hW => ⟨⟨_, _, _, rfl, hp, by rw [ht]; exact hP⟩, hS.F ht⟩) hS.2.2 hdg hlk
/-- branches on a truth value -/
theorem br_eq {b : Bool} {off : Int} {tgt : Nat} (hexec : p.tables.exec = Jvm.exec) (hb : c.code = cc) (hdg : decode cc pc = .ok (.ifCond .eq off, 3)) (ht : (pc : Int) + off = (tgt : Int))
    (kt : b = false → W p l e R s m args below meth c H locs cells slots Q (F0 m tgt ls rest)) (kf : b = true → W p l e R s m args below meth c H locs cells slots Q (F0 m (pc + 3) ls rest)) : W p l e R s m args below meth c H locs cells slots Q (F0 m pc ls (.int (b2i b) :: rest)) :=
  lv_if_eq hexec hb hdg ht (fun h => kt (by cases b <;> first | rfl | (exact absurd h (by decide)))) (fun h => kf (by cases b <;> first | rfl | (exact absurd rfl h)))
theorem br_ne {b : Bool} {off : Int} {tgt : Nat} (hexec : p.tables.exec = Jvm.exec) (hb : c.code = cc) (hdg : decode cc pc = .ok (.ifCond .ne off, 3)) (ht : (pc : Int) + off = (tgt : Int))
    (kt : b = true → W p l e R s m args below meth c H locs cells slots Q (F0 m tgt ls rest)) (kf : b = false → W p l e R s m args below meth c H locs cells slots Q (F0 m (pc + 3) ls rest)) : W p l e R s m args below meth c H locs cells slots Q (F0 m pc ls (.int (b2i b) :: rest)) :=
  lv_if_ne hexec hb hdg ht (fun h => kt (by cases b <;> first | rfl | (exact absurd rfl h))) (fun h => kf (by cases b <;> first | rfl | (exact absurd h (by decide))))
end FDC
