/-! ===== contracts of methods that read words ===== -/
def CY (l : Launch) (D : va_G) (tys : List (ClassId × FieldType)) (N : Nat) (ad : Nat → Nat) (cf : CF) (adK adV : Nat → Nat) (y : MethodName) (cc : ByteArray) (nL : Nat) (ret : Option FieldType) (fr lo : Nat) (as : List Value) (σ : MI) (τ : ML) (post : Post) : Prop :=
  Met l y (Cond.code y cc nL ret :: GG) { frames := fr, cells := 0, slots := 0, locals := lo } (va_Pc as (fun U => PreC D tys N ad cf σ τ U ∧ SCx adK adV (AA N ad) U U.heap)) (QD D N ad cf post) 0 0 (AA N ad)
theorem CY.blind {D : va_G} {tys : List (ClassId × FieldType)} {N : Nat} {ad : Nat → Nat} {cf : CF} {adK adV : Nat → Nat} {σ : MI} {τ : ML} {as : List Value} : FrameBlind (va_Pc as (fun U => PreC D tys N ad cf σ τ U ∧ SCx adK adV (AA N ad) U U.heap)) := fun a U g mk q => by
  obtain ⟨q0, ⟨qP, qK, qN⟩, qE⟩ := q
  exact ⟨q0, ⟨qP, va_K.moved (u := U) (U := U.calling g mk a) (Vm.Alike.refl U.vm) qK, NW.same (u := U) (U := U.calling g mk a) rfl qN⟩, SCx.same (u := U) (U := U.calling g mk a) rfl qE⟩
section CYW
variable {p : Program} {l : Launch} {e : Env} {R : Room} {s : State} {m : MethodId} {args : Array Value} {below : List Frame} {meth : Method} {c : Code} {H : Heap} {locs : List Loc} {cells slots : Nat} {Q : State → Prop}
variable {cc : ByteArray} {pc : Nat} {ls : Array Slot} {rest st0 : List Value} {D : va_G} {tys : List (ClassId × FieldType)} {N : Nat} {ad : Nat → Nat} {cf : CF} {adK adV : Nat → Nat} {σ : MI} {τ : ML} {post : Post}
variable {y : MethodName} {bytes : ByteArray} {maxL nL n index fr lo k ci Nf : Nat} {ret : Option FieldType} {own C host : String} {T : u_T} {As fs : List Value}
theorem callvY (S : CallFix p m c cc nL s args GG own) (hK : va_K D vwCl tys s) (hN : NW s) (hE : SCx adK adV (AA N ad) s s.heap) (hP : PW D N ad cf σ τ H) (hS : va_S (AA N ad) s.heap H locs) (hM : CY l D tys N ad cf adK adV y bytes maxL ret fr lo (.ref (ad k) :: As) σ τ post) (hk : k < N) (hsh : cf k (σ k) (τ k) = .inr (ci, fs)) (hc : vwCl[ci]? = some (C, T, Nf)) (ok : MOK C y bytes maxL ret n) (h1 : Cond.methodLink own index y ∈ GG)
    (hR : fr + 1 ≤ R.frames ∧ 8 + (maxL + 11) + lo ≤ R.locals) (hn : As.length = n) (hsize : ls.size = nL) (hstack : st0 = As.reverse ++ .ref (ad k) :: rest) (hW : (rest.map fun v => v.category).sum ≤ 8) (hf : cells ≤ R.cells ∧ slots ≤ R.slots) (hdg : decode cc pc = .ok (.invokevirtual index, 3))
    (kk : ∀ (v : Option Value) (σ' : MI) (τ' : ML) (H1 : Heap) (locs1 : List Loc), post v σ' τ' → PW D N ad cf σ' τ' H1 → va_S (AA N ad) s.heap H1 locs1 → W p l e R s m args below meth c H1 locs1 cells slots Q (F0 m (pc + 3) ls (v.toList ++ rest))) : W p l e R s m args below meth c H locs cells slots Q (F0 m pc ls st0) := by
  obtain ⟨o1, o2, o3, o4, o5⟩ := ok
  refine callg (va_runV (As := As) (rest := rest) S hM (cwV n S.2.2.2.2 (GG_inV h1 o1 o2 o3 o4) rfl rfl rfl o5 hR) ⟨CY.blind, va_recv hK hP hc (wdl_get hk hsh), fun U hU hW => ⟨rfl, ⟨by rw [hU]; exact hP, va_K.moved hW.alike hK, NW.warm hW hN⟩, by rw [hU]; exact (hE.kept hS.2.1).warm hW⟩⟩ rfl hn hsize hstack (lv_room hW) hdg hf) hS kk
theorem CY.of (hy : plainName y.cls = true) (hlen : (lg_sl As).length ≤ maxL)
    (h : ∀ (p : Program) (e : Env) (s : State) (m : MethodId) (args : Array Value) (below : List Frame) (meth : Method) (c : Code), p.tables.exec = Jvm.exec → c.code = bytes → meth.sig.returnType = ret → (∀ w ∈ GG, w.before args s = true) → s.vm.findClass y.cls = some m.cls → meth.locks = false → c.maxLocals = maxL → PW D N ad cf σ τ s.heap → va_K D vwCl tys s → NW s → va_S (AA N ad) s.heap s.heap [] → ∀ ls : Array Slot, lv_has ls maxL (lv_args 0 As) → SCx adK adV (AA N ad) s s.heap → W p l e { frames := fr, cells := 0, slots := 0, locals := lo } s m args below meth c s.heap [] 0 0 (MQ below (QD D N ad cf post) args s 0 0 (AA N ad)) (F0 m 0 ls [])) :
    CY l D tys N ad cf adK adV y bytes maxL ret fr lo As σ τ post := by
  refine Met.ofW (cc := bytes) (maxL := maxL) (ret := ret) hy rfl ?_
  intro p e s m args below meth c s₁ B hml hv
  obtain ⟨rfl, ⟨hP, hK, hN⟩, hE⟩ := hv
  have hts := atoms_spec (ws := Cond.code y bytes maxL ret :: GG) B.pre
  have hl := lv_entry As (n := maxL) hlen
  rw [lg_entry_eq]
  exact h p e s m As.toArray below meth c B.exec B.bytes B.returns (fun w hw => hts w (List.mem_cons_of_mem _ hw)) (findClass_of_methodNamed B.named) B.notSynchronized hml hP hK hN va_S.rf _ hl hE
end CYW
/-! ===== what the reader's methods answer and do ===== -/
def isWd (σ : MI) (w : Nat) : Bool := if σ 2 4 = 1 then (if σ 2 3 - σ 2 2 = nI (lenJ.getD w 0) then allS (fun k => decide (btS (σ 3) (σ 2 1) (σ 2 2 + nI k) = chJ w k)) (lenJ.getD w 0) else false) else false
theorem cuS_ne (σ : MI) {k : Nat} (h : k ≠ 2) : cuS σ k = σ k := by
  unfold cuS
  split
  · rw [s2_nk _ _ _ h, s2_nk _ _ _ h]
  · rw [s2_nk _ _ _ h, s2_nk _ _ _ h, s2_nk _ _ _ h, s2_nk _ _ _ h]
theorem adT_ne (σ : MI) {k : Nat} (h : k ≠ 2) : adT σ k = σ k := by rw [adT, s2_nk _ _ _ h]
theorem adS_ne (σ : MI) {k : Nat} (h : k ≠ 2) : adS σ k = σ k := by
  unfold adS
  split
  · split
    · rw [cuS_ne _ h, adT_ne _ h]
    · rw [s2_nk _ _ _ h, adT_ne _ h]
  · split
    · split
      · rw [cuS_ne _ h, adT_ne _ h]
      · rw [s2_nk _ _ _ h, adT_ne _ h]
    · rw [s2_nk _ _ _ h, s2_nk _ _ _ h, adT_ne _ h]
def rsM (σ : MI) (c : Int32) : MI := if sigS σ c = true then adS σ else s2 σ 1 5 1
def rwM (σ : MI) (w : Nat) : MI := if isWd σ w = true then adS σ else s2 σ 1 5 1
def inB (σ : MI) (a z : Int32) : Bool := if σ 2 4 = 2 then (if σ 2 5 < a then false else if σ 2 5 ≤ z then true else false) else false
def inM (σ : MI) (a z : Int32) : MI := if σ 2 4 = 2 then (if σ 2 5 < a then s2 σ 1 5 2 else if σ 2 5 ≤ z then σ else s2 σ 1 5 2) else s2 σ 1 5 1
def rnM (σ : MI) (a z : Int32) : MI := if inB σ a z = true then adS (s2 σ 1 4 (σ 2 5)) else inM σ a z
def nmB' (σ : MI) : Bool := if σ 2 4 = 1 then (if isWd σ 0 = true then false else if isWd σ 1 = true then false else if isWd σ 2 = true then false else if isWd σ 3 = true then false else if isWd σ 4 = true then false else if isWd σ 5 = true then false else if isWd σ 6 = true then false else true) else false
def kpM (σ : MI) (i : Int32) : MI := if i < 0 then σ else if 6 ≤ i then σ else s2 (s2 σ 4 i.toNatClampNeg (σ 2 2)) 5 i.toNatClampNeg (σ 2 3 - σ 2 2)
def fnd (P : Nat → Bool) : Nat → Nat → Int32
  | 0, _ => -1
  | r + 1, k => if P k = true then nI k else fnd P r (k + 1)
def ixN (σ : MI) (n : Int32) : Int32 := fnd (fun k => samS σ (σ 4 k) (σ 5 k)) (kmin n 6) 0
theorem rsM_ne (σ : MI) (c : Int32) {k : Nat} (h1 : k ≠ 1) (h2 : k ≠ 2) : rsM σ c k = σ k := by
  unfold rsM
  split
  · exact adS_ne σ h2
  · rw [s2_nk _ _ _ h1]
theorem rwM_ne (σ : MI) (w : Nat) {k : Nat} (h1 : k ≠ 1) (h2 : k ≠ 2) : rwM σ w k = σ k := by
  unfold rwM
  split
  · exact adS_ne σ h2
  · rw [s2_nk _ _ _ h1]
theorem inM_ne (σ : MI) (a z : Int32) {k : Nat} (h1 : k ≠ 1) : inM σ a z k = σ k := by
  unfold inM
  split
  · split
    · rw [s2_nk _ _ _ h1]
    · split
      · rfl
      · rw [s2_nk _ _ _ h1]
  · rw [s2_nk _ _ _ h1]
theorem rnM_ne (σ : MI) (a z : Int32) {k : Nat} (h1 : k ≠ 1) (h2 : k ≠ 2) : rnM σ a z k = σ k := by
  unfold rnM
  split
  · rw [adS_ne _ h2, s2_nk _ _ _ h1]
  · exact inM_ne σ a z h1
theorem rd3_ad (σ : MI) : adS σ 1 3 = σ 1 3 := by rw [adS_ne σ (by decide)]
theorem rd3_rs (σ : MI) (c : Int32) : rsM σ c 1 3 = σ 1 3 := by
  unfold rsM
  split
  · exact rd3_ad σ
  · rw [s2_nj _ _ _ (by decide)]
theorem rd3_rw (σ : MI) (w : Nat) : rwM σ w 1 3 = σ 1 3 := by
  unfold rwM
  split
  · exact rd3_ad σ
  · rw [s2_nj _ _ _ (by decide)]
theorem rd3_in (σ : MI) (a z : Int32) : inM σ a z 1 3 = σ 1 3 := by
  unfold inM
  split
  · split
    · rw [s2_nj _ _ _ (by decide)]
    · split
      · rfl
      · rw [s2_nj _ _ _ (by decide)]
  · rw [s2_nj _ _ _ (by decide)]
theorem rd3_rn (σ : MI) (a z : Int32) : rnM σ a z 1 3 = σ 1 3 := by
  unfold rnM
  split
  · rw [rd3_ad, s2_nj _ _ _ (by decide)]
  · exact rd3_in σ a z
theorem kpM_ne (σ : MI) (i : Int32) {k : Nat} (h4 : k ≠ 4) (h5 : k ≠ 5) : kpM σ i k = σ k := by
  unfold kpM
  split
  · rfl
  · split
    · rfl
    · rw [s2_nk _ _ _ h5, s2_nk _ _ _ h4]
theorem inM_t {σ : MI} {a z : Int32} (h : inB σ a z = true) : inM σ a z = σ := by
  unfold inB at h
  unfold inM
  by_cases h1 : σ 2 4 = 2
  · rw [if_pos h1] at h ⊢
    by_cases h2 : σ 2 5 < a
    · rw [if_pos h2] at h; cases h
    · rw [if_neg h2] at h ⊢
      by_cases h3 : σ 2 5 ≤ z
      · rw [if_pos h3]
      · rw [if_neg h3] at h; cases h
  · rw [if_neg h1] at h; cases h
