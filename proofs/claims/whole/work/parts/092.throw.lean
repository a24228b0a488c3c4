/-! ===== methods that throw ===== -/
def NSE : String := "java/util/NoSuchElementException"
def upN : List String := ["java/lang/RuntimeException", "java/lang/Exception"]
def isCD : Cond → Bool
  | .castable _ _ => true
  | .declares _ => true
  | _ => false
theorem tq_cd : ∀ w ∈ vx_at0 "PriceDesk" 121 NSE upN, goodWord w = true ∨ isCD w = true := by
  have h : (vx_at0 "PriceDesk" 121 NSE upN).all (fun w => goodWord w || isCD w) = true := by decide +kernel
  intro w hw
  have := List.all_eq_true.mp h w hw
  simpa using this
theorem tq_ot : ∀ w ∈ Cond.classLink "PriceDesk" 119 NSE :: Cond.initialized NSE :: vx_at0 "PriceDesk" 121 NSE upN, vx_ot w = true := by
  have h : (Cond.classLink "PriceDesk" 119 NSE :: Cond.initialized NSE :: vx_at0 "PriceDesk" 121 NSE upN).all vx_ot = true := by decide +kernel
  exact fun w hw => List.all_eq_true.mp h w hw
theorem tq_tbl : ∀ w ∈ vx_at0 "PriceDesk" 121 NSE upN, w ∈ lw_tbl := by
  have h : (vx_at0 "PriceDesk" 121 NSE upN).all (fun w => lw_tbl.any (fun z => decide (z = w))) = true := by decide +kernel
  intro w hw
  have := List.all_eq_true.mp h w hw
  obtain ⟨z, hz, e⟩ := List.any_eq_true.mp this
  exact of_decide_eq_true e ▸ hz
def TX (A : Nat → Prop) (U : State) (H : Heap) : Prop := (∀ w ∈ vx_at0 "PriceDesk" 121 NSE upN, isCD w = true → va_Nw w U) ∧ vx_Zq Bundle.tN "UNASSIGNED_STACK" Bundle.steD A U H ∧ vx_Zq Bundle.tN "SUPPRESSED_SENTINEL" Bundle.listD A U H
theorem TX.kept {A : Nat → Prop} {U : State} {H H1 : Heap} (h : TX A U H) (hq : ∀ a : Nat, a < H.size → ¬ A a → H1[a]? = H[a]?) : TX A U H1 := ⟨h.1, h.2.1.kept hq, h.2.2.kept hq⟩
theorem TX.warm {A : Nat → Prop} {s U : State} {H : Heap} (hW : s.WarmedH U.vm) (h : TX A s H) : TX A U H := ⟨fun w hw hc => by
    have h1 := h.1 w hw hc
    cases w <;> first | exact va_Nw.warmC hW h1 | exact va_Nw.warmD hW h1 | (simp [isCD] at hc), h.2.1.moved hW.alike, h.2.2.moved hW.alike⟩
theorem TX.same {A : Nat → Prop} {u U : State} {H : Heap} (hv : u.vm = U.vm) (h : TX A u H) : TX A U H := ⟨fun w hw hc => by
    have h1 := h.1 w hw hc
    cases w <;> first | exact va_Nw.same rfl hv h1 | (simp [isCD] at hc), h.2.1.moved (by rw [hv]; exact Vm.Alike.refl _), h.2.2.moved (by rw [hv]; exact Vm.Alike.refl _)⟩
theorem TX.narrow {A B : Nat → Prop} {U : State} {H : Heap} (h : TX A U H) (hAB : ∀ q, B q → A q) : TX B U H := ⟨h.1, h.2.1.narrow hAB, h.2.2.narrow hAB⟩
def XCd (D : va_G) (N : Nat) (ad : Nat → Nat) (cf : CF) (σ : MI) (τ : ML) (thr : Prop) : String → State → State → Prop := fun E st t => E = NSE ∧ thr ∧ PW D N ad cf σ τ t.heap ∧ va_F (AA N ad) st t
def XT (l : Launch) (D : va_G) (tys : List (ClassId × FieldType)) (N : Nat) (ad : Nat → Nat) (cf : CF) (y : MethodName) (cc : ByteArray) (nL : Nat) (ret : Option FieldType) (fr lo : Nat) (as : List Value) (σ : MI) (τ : ML) (post : Post) (thr : Prop) : Prop :=
  vx_Met l y (Cond.code y cc nL ret :: GG) { frames := fr, cells := 1, slots := 6, locals := lo } (va_Pc as (fun U => PreC D tys N ad cf σ τ U ∧ TX (AA N ad) U U.heap)) (QD D N ad cf post) (XCd D N ad cf σ τ thr) 1 6 (AA N ad)
theorem XT.blind {D : va_G} {tys : List (ClassId × FieldType)} {N : Nat} {ad : Nat → Nat} {cf : CF} {σ : MI} {τ : ML} {as : List Value} : FrameBlind (va_Pc as (fun U => PreC D tys N ad cf σ τ U ∧ TX (AA N ad) U U.heap)) := fun a U g mk q => by
  obtain ⟨q0, ⟨qP, qK, qN⟩, qE⟩ := q
  exact ⟨q0, ⟨qP, va_K.moved (u := U) (U := U.calling g mk a) (Vm.Alike.refl U.vm) qK, NW.same (u := U) (U := U.calling g mk a) rfl qN⟩, TX.same (u := U) (U := U.calling g mk a) rfl qE⟩
theorem PW.kept {D : va_G} {N : Nat} {ad : Nat → Nat} {cf : CF} {σ : MI} {τ : ML} {H H1 : Heap} (h : PW D N ad cf σ τ H) (hq : ∀ k, k < N → H1[ad k]? = H[ad k]?) : PW D N ad cf σ τ H1 := va_P.kept h (fun k q hk => by
  by_cases hkN : k < N
  · rw [wdl_get hkN rfl] at hk
    cases hk
    exact hq k hkN
  · simp [wdl, hkN] at hk)
theorem PW.lt {D : va_G} {N : Nat} {ad : Nat → Nat} {cf : CF} {σ : MI} {τ : ML} {H : Heap} (h : PW D N ad cf σ τ H) {k : Nat} (hk : k < N) : ad k < H.size := vx_lt h (wdl_get hk rfl)
section XTW
variable {p : Program} {l : Launch} {e : Env} {R : Room} {s : State} {m : MethodId} {args : Array Value} {below : List Frame} {meth : Method} {c : Code} {H : Heap} {locs : List Loc} {cells slots : Nat} {Q : State → Prop}
variable {cc : ByteArray} {pc : Nat} {ls : Array Slot} {rest st0 : List Value} {D : va_G} {tys : List (ClassId × FieldType)} {N : Nat} {ad : Nat → Nat} {cf : CF} {σ : MI} {τ : ML} {post : Post} {thr : Prop}
variable {y : MethodName} {bytes : ByteArray} {maxL nL n index fr lo k ci Nf : Nat} {ret : Option FieldType} {own C host : String} {T : u_T} {As fs : List Value}
theorem rx {Qc : Array Value → State → Outcome → State → Prop} {XC : String → State → State → Prop} {free : Addr → Prop} {g : JFrame} (kk : W p l e R s m args below meth c H locs 1 6 (MQ below Qc args s 1 6 free) g) : W p l e R s m args below meth c H locs 0 0 (vx_MQ below Qc XC args s 1 6 free) g :=
  vx_ret (fun T hT X => kk T hT (stand_widen X (Nat.zero_le _) (Nat.zero_le _)))
theorem XT.of (hy : plainName y.cls = true) (hlen : (lg_sl As).length ≤ maxL)
    (h : ∀ (p : Program) (e : Env) (s : State) (m : MethodId) (args : Array Value) (below : List Frame) (meth : Method) (c : Code), p.tables.exec = Jvm.exec → c.code = bytes → meth.sig.returnType = ret → (∀ w ∈ GG, w.before args s = true) → s.vm.findClass y.cls = some m.cls → meth.locks = false → c.maxLocals = maxL → PW D N ad cf σ τ s.heap → va_K D vwCl tys s → NW s → va_S (AA N ad) s.heap s.heap [] → ∀ ls : Array Slot, lv_has ls maxL (lv_args 0 As) → TX (AA N ad) s s.heap → (∀ x ∈ c.exceptionTable.toList, False) → W p l e { frames := fr, cells := 1, slots := 6, locals := lo } s m args below meth c s.heap [] 0 0 (vx_MQ below (QD D N ad cf post) (XCd D N ad cf σ τ thr) args s 1 6 (AA N ad)) (F0 m 0 ls [])) :
    XT l D tys N ad cf y bytes maxL ret fr lo As σ τ post thr := by
  refine vx_ofW (cc := bytes) (maxL := maxL) (ret := ret) hy rfl ?_
  intro p e s m args below meth c s₁ B hml hx hv
  obtain ⟨rfl, ⟨hP, hK, hN⟩, hE⟩ := hv
  have hts := atoms_spec (ws := Cond.code y bytes maxL ret :: GG) B.pre
  have hl := lv_entry As (n := maxL) hlen
  rw [lg_entry_eq]
  exact h p e s m As.toArray below meth c B.exec B.bytes B.returns (fun w hw => hts w (List.mem_cons_of_mem _ hw)) (findClass_of_methodNamed B.named) B.notSynchronized hml hP hK hN va_S.rf _ hl hE hx
theorem thrown (hexec : p.tables.exec = Jvm.exec) (hb : c.code = cc) (hl : l.stackTraces = false) (hown : s.vm.findClass "PriceDesk" = some m.cls) (ht : ∀ w ∈ GG, w.before args s = true) (hE : TX (AA N ad) s s.heap) (hS : va_S (AA N ad) s.heap H locs) (hP : PW D N ad cf σ τ H) (hsize : ls.size = nL) (hml : c.maxLocals = nL) (hkl : Cond.classLink "PriceDesk" 119 NSE ∈ GG) (hki : Cond.initialized NSE ∈ GG)
    (d0 : decode cc pc = .ok (.new 119, 3)) (d3 : decode cc (pc + 3) = .ok (.dup, 1)) (d4 : decode cc (pc + 4) = .ok (.invokespecial 121, 3)) (d7 : decode cc (pc + 7) = .ok (.athrow, 1)) (hout : ∀ x ∈ c.exceptionTable.toList, False) (hR : 5 < R.frames ∧ 81 ≤ R.locals ∧ 1 ≤ R.cells ∧ 6 ≤ R.slots) (hlk : meth.locks = false) (hthr : thr) :
    W p l e R s m args below meth c H locs 0 0 (vx_MQ below (QD D N ad cf post) (XCd D N ad cf σ τ thr) args s 1 6 (AA N ad)) (F0 m pc ls []) :=
  vx_throw0 (own := "PriceDesk") (cls := NSE) (names := upN) (ik := 119) (ic := 121) (A := AA N ad) hexec hb hl hown (by decide +kernel) (by decide +kernel) (ht _ hkl) (ht _ hki)
    (fun w hw => by
      by_cases hg : goodWord w = true
      · exact ht w (List.mem_filter.mpr ⟨tq_tbl w hw, hg⟩)
      · exact va_Nw.use (by rcases tq_cd w hw with q | q; exact absurd q hg; cases w <;> first | rfl | (simp [isCD] at q)) (hE.1 w hw (by rcases tq_cd w hw with q | q; exact absurd q hg; exact q)))
    tq_ot hE.2.1 hE.2.2 hS (hsize.trans hml.symm) d0 d3 d4 d7 (fun x hx => (hout x hx).elim) (by exact hR.1) (by simp only [List.map_nil, List.sum_nil]; exact (show 0 + 81 ≤ R.locals by omega)) hR.2.2.1 hR.2.2.2 hlk
    (fun t hA hz hq => ⟨rfl, hthr, hP.kept (fun k hk => hq _ (hP.lt hk)), ⟨Nat.le_trans hS.1 hz, fun q h1 h2 => by rw [hq q (Nat.lt_of_lt_of_le h1 hS.1)]; exact hS.2.1 q h1 h2⟩⟩) hS.2.2 (Nat.le_refl _) (Nat.le_refl _)
end XTW
