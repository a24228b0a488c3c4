/-! ===== my own layer: one world of numbered cells, a memory of ints and longs; one list of words for all methods ===== -/
def GG : List Cond := lw_tbl.filter goodWord
theorem GG_good : ∀ w ∈ GG, goodWord w = true := fun w h => (List.mem_filter.mp h).2
theorem GG_tbl : ∀ w ∈ GG, w ∈ lw_tbl := fun w h => (List.mem_filter.mp h).1
theorem GG_mem {w : Cond} (i : Nat) (h : lw_tbl[i]? = some w) (hg : goodWord w = true) : w ∈ GG := List.mem_filter.mpr ⟨List.mem_of_getElem? h, hg⟩
theorem GG_in {c : Cond} (hc : c ∈ GG) : GoodIn GG (c :: GG) := fun w h => by
  rcases List.mem_cons.mp h with rfl | h
  · exact ⟨hc, good_of_word (GG_good _ hc)⟩
  · exact ⟨h, good_of_word (GG_good _ h)⟩
theorem GG_inV {own : String} {idx : Nat} {C : String} {y : MethodName} {c : Cond} (h1 : Cond.methodLink own idx y ∈ GG) (h2 : Cond.instanceMethod y ∈ GG) (h3 : Cond.selects C y y ∈ GG) (h4 : Cond.initialized C ∈ GG) (hc : c ∈ GG) : GoodIn GG (wsV own idx C y (c :: GG)) := fun w h => by
  rcases List.mem_append.mp h with h | h
  · have hw : w ∈ GG := by
      rcases List.mem_cons.mp h with rfl | h
      · exact h1
      · rcases List.mem_cons.mp h with rfl | h
        · exact h2
        · rcases List.mem_cons.mp h with rfl | h
          · exact h3
          · rcases List.mem_cons.mp h with rfl | h
            · exact h4
            · exact absurd h List.not_mem_nil
    exact ⟨hw, good_of_word (GG_good _ hw)⟩
  · exact GG_in hc w h
theorem GG_inS {own : String} {idx : Nat} {y : MethodName} {c : Cond} (h1 : Cond.methodLink own idx y ∈ GG) (h2 : Cond.static y ∈ GG) (h3 : Cond.initialized y.cls ∈ GG) (hc : c ∈ GG) : GoodIn GG (va_wsS own idx y (c :: GG)) := fun w h => by
  rcases List.mem_append.mp h with h | h
  · have hw : w ∈ GG := by
      rcases List.mem_cons.mp h with rfl | h
      · exact h1
      · rcases List.mem_cons.mp h with rfl | h
        · exact h2
        · rcases List.mem_cons.mp h with rfl | h
          · exact h3
          · exact absurd h List.not_mem_nil
    exact ⟨hw, good_of_word (GG_good _ hw)⟩
  · exact GG_in hc w h
/-- the words of nest mates' links: they ride in the start of a contract -/
def isNest : Cond → Bool
  | .fieldLinkNest .. => true
  | .methodLinkNest .. => true
  | _ => false
def NW (U : State) : Prop := ∀ w ∈ lw_tbl, isNest w = true → va_Nw w U
theorem NW.of {args : Array Value} {s : State} (h : ∀ w ∈ lw_tbl, w.before args s = true) : NW s := fun w hw hn => by
  refine va_Nw.of (A := args) ?_ (h w hw)
  cases w <;> first | rfl | (simp [isNest] at hn)
theorem NW.warm {s U : State} (hW : s.WarmedH U.vm) (h : NW s) : NW U := fun w hw hn => by
  have h1 := h w hw hn
  cases w <;> first | exact va_Nw.warmF hW h1 | exact va_Nw.warmM hW h1 | (simp [isNest] at hn)
theorem NW.same {u U : State} (hv : u.vm = U.vm) (h : NW u) : NW U := fun w hw hn => by
  have h1 := h w hw hn
  cases w <;> first | exact va_Nw.same rfl hv h1 | (simp [isNest] at hn)
theorem NW.get {s : State} {w : Cond} (h : NW s) (i : Nat) (hi : lw_tbl[i]? = some w) (hn : isNest w = true) : va_Nw w s := h w (List.mem_of_getElem? hi) hn
/-- the cells: number k lies at ad k and holds cf k (its ints) (its longs) -/
abbrev MI : Type := Nat → Nat → Int32
abbrev ML : Type := Nat → Nat → Int64
abbrev CF : Type := Nat → (Nat → Int32) → (Nat → Int64) → va_E
def wdl (N : Nat) (ad : Nat → Nat) (cf : CF) (σ : MI) (τ : ML) : va_W := (List.range N).map (fun k => (ad k, cf k (σ k) (τ k)))
def s2 (σ : MI) (k j : Nat) (v : Int32) : MI := va_up σ k (upd (σ k) j v)
def s2L (τ : ML) (k j : Nat) (v : Int64) : ML := va_up τ k (vp_updL (τ k) j v)
theorem wdl_get {N : Nat} {ad : Nat → Nat} {cf : CF} {σ : MI} {τ : ML} {k : Nat} {e : va_E} (hk : k < N) (h : cf k (σ k) (τ k) = e) : (wdl N ad cf σ τ)[k]? = some (ad k, e) := by
  subst h
  simp [wdl, hk]
theorem va_up_same {α : Type} (f : Nat → α) (k : Nat) : va_up f k (f k) = f := by
  funext j
  by_cases h : j = k
  · subst h; exact va_up_self f j _
  · exact va_up_ne f _ h
theorem wdl_set {N : Nat} {ad : Nat → Nat} {cf : CF} {σ : MI} {τ : ML} {k : Nat} {x : Nat → Int32} {y : Nat → Int64} : (wdl N ad cf σ τ).set k (ad k, cf k x y) = wdl N ad cf (va_up σ k x) (va_up τ k y) := by
  apply List.ext_getElem?
  intro i
  by_cases hi : i = k
  · subst hi
    by_cases h : i < N
    · simp [wdl, h, va_up]
    · simp [wdl, h]
  · rw [List.getElem?_set_ne (Ne.symm hi)]
    by_cases h : i < N
    · simp [wdl, h, va_up, hi]
    · simp [wdl, h]
def PW (D : va_G) (N : Nat) (ad : Nat → Nat) (cf : CF) (σ : MI) (τ : ML) (H : Heap) : Prop := va_P D vwCl (wdl N ad cf σ τ) H
def AA (N : Nat) (ad : Nat → Nat) : Nat → Prop := fun q => ∃ k, k < N ∧ q = ad k
def Inj (N : Nat) (ad : Nat → Nat) : Prop := ∀ i j, i < N → j < N → ad i = ad j → i = j
theorem wdl_D {N : Nat} {ad : Nat → Nat} {cf : CF} (σ : MI) (τ : ML) (h : Inj N ad) : va_D (AA N ad) (wdl N ad cf σ τ) := by
  have e : ∀ (k : Nat) (q : Nat × va_E), (wdl N ad cf σ τ)[k]? = some q → k < N ∧ q.1 = ad k := by
    intro k q hq
    by_cases hk : k < N
    · rw [wdl_get hk rfl] at hq
      cases hq
      exact ⟨hk, rfl⟩
    · simp [wdl, hk] at hq
  refine ⟨fun i j p q hp hq hpq => ?_, fun k q hq => ?_⟩
  · obtain ⟨h1, h2⟩ := e i p hp
    obtain ⟨h3, h4⟩ := e j q hq
    exact h i j h1 h3 (by rw [← h2, ← h4]; exact hpq)
  · obtain ⟨h1, h2⟩ := e k q hq
    exact ⟨k, h1, h2⟩
def b2i (b : Bool) : Int32 := if b then 1 else 0
/-- a contract: from the memory σ, τ the method returns v, the memory is σ', τ', as post says -/
abbrev Post : Type := Option Value → MI → ML → Prop
def PreC (D : va_G) (tys : List (ClassId × FieldType)) (N : Nat) (ad : Nat → Nat) (cf : CF) (σ : MI) (τ : ML) (U : State) : Prop := PW D N ad cf σ τ U.heap ∧ va_K D vwCl tys U ∧ NW U
def QD (D : va_G) (N : Nat) (ad : Nat → Nat) (cf : CF) (post : Post) : Array Value → State → Outcome → State → Prop := fun _ st oc t => (∃ (v : Option Value) (σ' : MI) (τ' : ML), oc = .returned v ∧ post v σ' τ' ∧ PW D N ad cf σ' τ' t.heap) ∧ va_F (AA N ad) st t
def CT (l : Launch) (D : va_G) (tys : List (ClassId × FieldType)) (N : Nat) (ad : Nat → Nat) (cf : CF) (y : MethodName) (cc : ByteArray) (nL : Nat) (ret : Option FieldType) (fr lo : Nat) (as : List Value) (σ : MI) (τ : ML) (post : Post) : Prop :=
  Met l y (Cond.code y cc nL ret :: GG) { frames := fr, cells := 0, slots := 0, locals := lo } (va_Pc as (PreC D tys N ad cf σ τ)) (QD D N ad cf post) 0 0 (AA N ad)
theorem PreC.blind {D : va_G} {tys : List (ClassId × FieldType)} {N : Nat} {ad : Nat → Nat} {cf : CF} {σ : MI} {τ : ML} {as : List Value} : FrameBlind (va_Pc as (PreC D tys N ad cf σ τ)) := fun a U g mk q => by
  obtain ⟨q0, qP, qK, qN⟩ := q
  exact ⟨q0, qP, va_K.moved (u := U) (U := U.calling g mk a) (Vm.Alike.refl U.vm) qK, NW.same (u := U) (U := U.calling g mk a) rfl qN⟩
section FDW
variable {p : Program} {l : Launch} {e : Env} {R : Room} {s : State} {m : MethodId} {args : Array Value} {below : List Frame} {meth : Method} {c : Code} {H : Heap} {locs : List Loc} {cells slots : Nat} {Q : State → Prop}
variable {cc : ByteArray} {pc : Nat} {ls : Array Slot} {rest : List Value} {D : va_G} {tys : List (ClassId × FieldType)} {N : Nat} {ad : Nat → Nat} {cf : CF} {σ : MI} {τ : ML} {H0 : Heap}
/-- a field is read -/
theorem fget (hexec : p.tables.exec = Jvm.exec) (hb : c.code = cc) {own ref C : String} {T : u_T} {Nf ci index : Nat} (hts : ∀ w ∈ GG, w.before args s = true) (hin : ∀ w ∈ u_ws C T Nf, w ∈ GG) (hown : s.vm.findClass own = some m.cls) (hK : va_K D vwCl tys s) (hP : PW D N ad cf σ τ H) {k : Nat} (hk : k < N) {fs : List Value} (hsh : cf k (σ k) (τ k) = .inr (ci, fs)) (hc : vwCl[ci]? = some (C, T, Nf)) (j : Nat) (hj : j < Nf) (hlink : Cond.fieldLink own index (T j).1 (T j).2.1 (T j).2.2.1 ∈ GG) {v : Value} (hv : fs[j]? = some v) (hdg : decode cc pc = .ok (.getfield index, 3))
    (kk : W p l e R s m args below meth c H locs cells slots Q (F0 m (pc + 3) ls (v :: rest))) : W p l e R s m args below meth c H locs cells slots Q (F0 m pc ls (.ref (ad k) :: rest)) :=
  va_get hexec hb hts hin hown hK hP k (wdl_get hk hsh) hc j hj (hts _ hlink) (fun _ h9 => h9) hv hdg kk
theorem fgetN (hexec : p.tables.exec = Jvm.exec) (hb : c.code = cc) {own ref C host : String} {T : u_T} {Nf ci index : Nat} (hts : ∀ w ∈ GG, w.before args s = true) (hin : ∀ w ∈ u_ws C T Nf, w ∈ GG) (hown : s.vm.findClass own = some m.cls) (hK : va_K D vwCl tys s) (hP : PW D N ad cf σ τ H) {k : Nat} (hk : k < N) {fs : List Value} (hsh : cf k (σ k) (τ k) = .inr (ci, fs)) (hc : vwCl[ci]? = some (C, T, Nf)) (j : Nat) (hj : j < Nf) (hlink : va_Nw (Cond.fieldLinkNest own index (T j).1 (T j).2.1 (T j).2.2.1 host) s) {v : Value} (hv : fs[j]? = some v) (hdg : decode cc pc = .ok (.getfield index, 3))
    (kk : W p l e R s m args below meth c H locs cells slots Q (F0 m (pc + 3) ls (v :: rest))) : W p l e R s m args below meth c H locs cells slots Q (F0 m pc ls (.ref (ad k) :: rest)) :=
  va_getN hexec hb hts hin hown hK hP k (wdl_get hk hsh) hc j hj (va_Nw.use rfl hlink) (fun _ h9 => h9) hv hdg kk
/-- a field is written -/
theorem fput (hexec : p.tables.exec = Jvm.exec) (hb : c.code = cc) {own ref C : String} {T : u_T} {Nf ci index : Nat} (hts : ∀ w ∈ GG, w.before args s = true) (hin : ∀ w ∈ u_ws C T Nf, w ∈ GG) (ty0 : Nat → FieldType) (hty : ∀ k, k < Nf → parseFieldDescriptor (T k).2.2.1 = some (ty0 k)) (hnm : ∀ a, a < Nf → ∀ b, b < Nf → a ≠ b → (T a).2.1 ≠ (T b).2.1) (hown : s.vm.findClass own = some m.cls) (hK : va_K D vwCl tys s) (hP : PW D N ad cf σ τ H) (hI : Inj N ad) (hS : va_S (AA N ad) H0 H locs) {k : Nat} (hk : k < N) {fs : List Value} (hsh : cf k (σ k) (τ k) = .inr (ci, fs)) (hc : vwCl[ci]? = some (C, T, Nf)) (j : Nat) (hj : j < Nf) (hlink : Cond.fieldLink own index (T j).1 (T j).2.1 (T j).2.2.1 ∈ GG) (hfin : (T j).2.2.2 = false) {v : Value} (hn : narrow (ty0 j) v = v) (hfit : fits (ty0 j) v = true) (hl : j < fs.length) {x : Nat → Int32} {y : Nat → Int64} (hup : cf k x y = .inr (ci, fs.set j v)) (hdg : decode cc pc = .ok (.putfield index, 3))
    (kk : ∀ (H1 : Heap) (locs1 : List Loc), PW D N ad cf (va_up σ k x) (va_up τ k y) H1 → va_S (AA N ad) H0 H1 locs1 → W p l e R s m args below meth c H1 locs1 cells slots Q (F0 m (pc + 3) ls rest)) : W p l e R s m args below meth c H locs cells slots Q (F0 m pc ls (v :: .ref (ad k) :: rest)) :=
  va_put hexec hb hts hin ty0 hty hnm hown hK hP (wdl_D σ τ hI) hS k (wdl_get hk hsh) hc j hj (hts _ hlink) (fun _ h9 => h9) hfin (hty j hj) hn hfit hl hdg (fun H1 locs1 h1 _ h3 => kk H1 locs1 (by rw [← hup, wdl_set] at h1; exact h1) h3)
theorem fputN (hexec : p.tables.exec = Jvm.exec) (hb : c.code = cc) {own ref C host : String} {T : u_T} {Nf ci index : Nat} (hts : ∀ w ∈ GG, w.before args s = true) (hin : ∀ w ∈ u_ws C T Nf, w ∈ GG) (ty0 : Nat → FieldType) (hty : ∀ k, k < Nf → parseFieldDescriptor (T k).2.2.1 = some (ty0 k)) (hnm : ∀ a, a < Nf → ∀ b, b < Nf → a ≠ b → (T a).2.1 ≠ (T b).2.1) (hown : s.vm.findClass own = some m.cls) (hK : va_K D vwCl tys s) (hP : PW D N ad cf σ τ H) (hI : Inj N ad) (hS : va_S (AA N ad) H0 H locs) {k : Nat} (hk : k < N) {fs : List Value} (hsh : cf k (σ k) (τ k) = .inr (ci, fs)) (hc : vwCl[ci]? = some (C, T, Nf)) (j : Nat) (hj : j < Nf) (hlink : va_Nw (Cond.fieldLinkNest own index (T j).1 (T j).2.1 (T j).2.2.1 host) s) (hfin : (T j).2.2.2 = false) {v : Value} (hn : narrow (ty0 j) v = v) (hfit : fits (ty0 j) v = true) (hl : j < fs.length) {x : Nat → Int32} {y : Nat → Int64} (hup : cf k x y = .inr (ci, fs.set j v)) (hdg : decode cc pc = .ok (.putfield index, 3))
    (kk : ∀ (H1 : Heap) (locs1 : List Loc), PW D N ad cf (va_up σ k x) (va_up τ k y) H1 → va_S (AA N ad) H0 H1 locs1 → W p l e R s m args below meth c H1 locs1 cells slots Q (F0 m (pc + 3) ls rest)) : W p l e R s m args below meth c H locs cells slots Q (F0 m pc ls (v :: .ref (ad k) :: rest)) :=
  va_putN hexec hb hts hin ty0 hty hnm hown hK hP (wdl_D σ τ hI) hS k (wdl_get hk hsh) hc j hj (va_Nw.use rfl hlink) (fun _ h9 => h9) hfin (hty j hj) hn hfit hl hdg (fun H1 locs1 h1 _ h3 => kk H1 locs1 (by rw [← hup, wdl_set] at h1; exact h1) h3)
/-- a place of an array of ints is read, written -/
theorem ald (hexec : p.tables.exec = Jvm.exec) (hb : c.code = cc) (hK : va_K D vwCl tys s) (hP : PW D N ad cf σ τ H) {k : Nat} (hk : k < N) (t0 : Nat) {cA : ClassId} {n : Nat} {f : Nat → Int32} (hsh : cf k (σ k) (τ k) = .inl (cA, n, .inl f)) (ht : tys[t0]? = some (cA, .int)) {i : Int32} (hin : vp_in i n) (hdg : decode cc pc = .ok (.iaload, 1))
    (kk : W p l e R s m args below meth c H locs cells slots Q (F0 m (pc + 1) ls (.int (f i.toNatClampNeg) :: rest))) : W p l e R s m args below meth c H locs cells slots Q (F0 m pc ls (.int i :: .ref (ad k) :: rest)) :=
  va_iald hexec hb hK hP k t0 (wdl_get hk hsh) ht hin hdg kk
theorem bld (hexec : p.tables.exec = Jvm.exec) (hb : c.code = cc) (hK : va_K D vwCl tys s) (hP : PW D N ad cf σ τ H) {k : Nat} (hk : k < N) (t0 : Nat) {cA : ClassId} {n : Nat} {f : Nat → Int32} (hsh : cf k (σ k) (τ k) = .inl (cA, n, .inl f)) (ht : tys[t0]? = some (cA, .byte)) {i : Int32} (hin : vp_in i n) (hdg : decode cc pc = .ok (.baload, 1))
    (kk : W p l e R s m args below meth c H locs cells slots Q (F0 m (pc + 1) ls (.int (f i.toNatClampNeg) :: rest))) : W p l e R s m args below meth c H locs cells slots Q (F0 m pc ls (.int i :: .ref (ad k) :: rest)) :=
  va_bald hexec hb hK hP k t0 (wdl_get hk hsh) ht hin hdg kk
theorem lld (hexec : p.tables.exec = Jvm.exec) (hb : c.code = cc) (hK : va_K D vwCl tys s) (hP : PW D N ad cf σ τ H) {k : Nat} (hk : k < N) (t0 : Nat) {cA : ClassId} {n : Nat} {f : Nat → Int64} (hsh : cf k (σ k) (τ k) = .inl (cA, n, .inr (.inl f))) (ht : tys[t0]? = some (cA, .long)) {i : Int32} (hin : vp_in i n) (hdg : decode cc pc = .ok (.laload, 1))
    (kk : W p l e R s m args below meth c H locs cells slots Q (F0 m (pc + 1) ls (.long (f i.toNatClampNeg) :: rest))) : W p l e R s m args below meth c H locs cells slots Q (F0 m pc ls (.int i :: .ref (ad k) :: rest)) :=
  va_lald hexec hb hK hP k t0 (wdl_get hk hsh) ht hin hdg kk
theorem rld (hexec : p.tables.exec = Jvm.exec) (hb : c.code = cc) (hK : va_K D vwCl tys s) (hP : PW D N ad cf σ τ H) {k : Nat} (hk : k < N) (t0 : Nat) {cA : ClassId} {C : String} {n : Nat} {f : Nat → Option Nat} (hsh : cf k (σ k) (τ k) = .inl (cA, n, .inr (.inr (.inr (.inr f))))) (ht : tys[t0]? = some (cA, .object C)) {i : Int32} (hin : vp_in i n) {a : Nat} (hf : f i.toNatClampNeg = some a) (hdg : decode cc pc = .ok (.aaload, 1))
    (kk : W p l e R s m args below meth c H locs cells slots Q (F0 m (pc + 1) ls (.ref a :: rest))) : W p l e R s m args below meth c H locs cells slots Q (F0 m pc ls (.int i :: .ref (ad k) :: rest)) :=
  va_aldq hexec hb hK hP k t0 (wdl_get hk hsh) ht hin hdg (by rw [hf]; exact kk)
theorem ast (hexec : p.tables.exec = Jvm.exec) (hb : c.code = cc) (hK : va_K D vwCl tys s) (hP : PW D N ad cf σ τ H) (hI : Inj N ad) (hS : va_S (AA N ad) H0 H locs) {k : Nat} (hk : k < N) (t0 : Nat) {cA : ClassId} {n : Nat} (hsh : ∀ f : Nat → Int32, cf k f (τ k) = .inl (cA, n, .inl f)) (ht : tys[t0]? = some (cA, .int)) {i x : Int32} (hin : vp_in i n) (hdg : decode cc pc = .ok (.iastore, 1))
    (kk : ∀ (H1 : Heap) (locs1 : List Loc), PW D N ad cf (s2 σ k i.toNatClampNeg x) τ H1 → va_S (AA N ad) H0 H1 locs1 → W p l e R s m args below meth c H1 locs1 cells slots Q (F0 m (pc + 1) ls rest)) : W p l e R s m args below meth c H locs cells slots Q (F0 m pc ls (.int x :: .int i :: .ref (ad k) :: rest)) :=
  va_iast hexec hb hK hP (wdl_D σ τ hI) hS k t0 (wdl_get hk (hsh _)) ht hin hdg (fun H1 locs1 h1 _ h3 => kk H1 locs1 (by rw [← hsh, wdl_set, va_up_same] at h1; exact h1) h3)
theorem lst (hexec : p.tables.exec = Jvm.exec) (hb : c.code = cc) (hK : va_K D vwCl tys s) (hP : PW D N ad cf σ τ H) (hI : Inj N ad) (hS : va_S (AA N ad) H0 H locs) {k : Nat} (hk : k < N) (t0 : Nat) {cA : ClassId} {n : Nat} (hsh : ∀ f : Nat → Int64, cf k (σ k) f = .inl (cA, n, .inr (.inl f))) (ht : tys[t0]? = some (cA, .long)) {i : Int32} {x : Int64} (hin : vp_in i n) (hdg : decode cc pc = .ok (.lastore, 1))
    (kk : ∀ (H1 : Heap) (locs1 : List Loc), PW D N ad cf σ (s2L τ k i.toNatClampNeg x) H1 → va_S (AA N ad) H0 H1 locs1 → W p l e R s m args below meth c H1 locs1 cells slots Q (F0 m (pc + 1) ls rest)) : W p l e R s m args below meth c H locs cells slots Q (F0 m pc ls (.long x :: .int i :: .ref (ad k) :: rest)) :=
  va_last hexec hb hK hP (wdl_D σ τ hI) hS k t0 (wdl_get hk (hsh _)) ht hin hdg (fun H1 locs1 h1 _ h3 => kk H1 locs1 (by rw [← hsh, wdl_set, va_up_same] at h1; exact h1) h3)
theorem bst (hexec : p.tables.exec = Jvm.exec) (hb : c.code = cc) (hK : va_K D vwCl tys s) (hP : PW D N ad cf σ τ H) (hI : Inj N ad) (hS : va_S (AA N ad) H0 H locs) {k : Nat} (hk : k < N) (t0 : Nat) {cA : ClassId} {n : Nat} (hsh : ∀ f : Nat → Int32, cf k f (τ k) = .inl (cA, n, .inl f)) (ht : tys[t0]? = some (cA, .byte)) {i x : Int32} (hin : vp_in i n) (hdg : decode cc pc = .ok (.bastore, 1))
    (kk : ∀ (H1 : Heap) (locs1 : List Loc), PW D N ad cf (s2 σ k i.toNatClampNeg x.toInt8.toInt32) τ H1 → va_S (AA N ad) H0 H1 locs1 → W p l e R s m args below meth c H1 locs1 cells slots Q (F0 m (pc + 1) ls rest)) : W p l e R s m args below meth c H locs cells slots Q (F0 m pc ls (.int x :: .int i :: .ref (ad k) :: rest)) :=
  va_bast hexec hb hK hP (wdl_D σ τ hI) hS k t0 (wdl_get hk (hsh _)) ht hin hdg (fun H1 locs1 h1 _ h3 => kk H1 locs1 (by rw [← hsh, wdl_set, va_up_same, vp_nar_byte] at h1; exact h1) h3)
end FDW
