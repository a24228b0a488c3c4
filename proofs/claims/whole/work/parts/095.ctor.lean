/-! ===== constructors: the cells that come lie one behind the other ===== -/
def AO3 (U : State) : Prop := va_AO "PriceDesk$Index" U ∧ va_AO "PriceDesk$Contract" U ∧ va_AO "PriceDesk$Delivery" U
theorem AO3.moved {u U : State} (hvm : u.vm.Alike U.vm) (h : AO3 u) : AO3 U := ⟨h.1.moved hvm, h.2.1.moved hvm, h.2.2.moved hvm⟩
def CS (D : va_G) (a n : Nat) (H0 : Heap) (B : va_E) (E : Nat → va_E) (H : Heap) : Prop := H.size = a + 1 + n ∧ (∀ q, q < a → H[q]? = H0[q]?) ∧ va_at D vwCl (a, B) H ∧ ∀ k, k < n → va_at D vwCl (a + 1 + k, E k) H
theorem CS.congr {D : va_G} {a n : Nat} {H0 H : Heap} {B : va_E} {E E' : Nat → va_E} (h : CS D a n H0 B E H) (he : ∀ k, k < n → va_at D vwCl (a + 1 + k, E k) H → va_at D vwCl (a + 1 + k, E' k) H) : CS D a n H0 B E' H := ⟨h.1, h.2.1, h.2.2.1, fun k hk => he k hk (h.2.2.2 k hk)⟩
theorem CS.eqE {D : va_G} {a n : Nat} {H0 H : Heap} {B : va_E} {E E' : Nat → va_E} (h : CS D a n H0 B E H) (he : ∀ k, k < n → E k = E' k) : CS D a n H0 B E' H := h.congr (fun k hk q => he k hk ▸ q)
def Kpre (D : va_G) (tys : List (ClassId × FieldType)) (a ci : Nat) (fs : List Value) (U : State) : Prop := U.heap.size = a + 1 ∧ va_at D vwCl (a, .inr (ci, fs)) U.heap ∧ va_K D vwCl tys U ∧ NW U ∧ AO3 U
def KQ (D : va_G) (a mc : Nat) (B : va_E) (E : Nat → va_E) : Array Value → State → Outcome → State → Prop := fun _ st oc t => oc = .returned none ∧ CS D a mc st.heap B E t.heap
def KT (l : Launch) (D : va_G) (tys : List (ClassId × FieldType)) (y : MethodName) (cc : ByteArray) (nL fr lo mc ms ci : Nat) (fs : List Value) (a : Nat) (B : va_E) (E : Nat → va_E) : Prop :=
  Met l y (Cond.code y cc nL none :: GG) { frames := fr, cells := mc, slots := ms, locals := lo } (va_Pc [.ref a] (Kpre D tys a ci fs)) (KQ D a mc B E) mc ms (fun q => a ≤ q)
theorem Kpre.blind {D : va_G} {tys : List (ClassId × FieldType)} {a ci : Nat} {fs : List Value} {as : List Value} : FrameBlind (va_Pc as (Kpre D tys a ci fs)) := fun b U g mk q => by
  obtain ⟨q0, q1, q2, qK, qN, qA⟩ := q
  exact ⟨q0, q1, q2, va_K.moved (u := U) (U := U.calling g mk b) (Vm.Alike.refl U.vm) qK, NW.same (u := U) (U := U.calling g mk b) rfl qN, AO3.moved (u := U) (U := U.calling g mk b) (Vm.Alike.refl U.vm) qA⟩
def joinE (n : Nat) (E : Nat → va_E) (B' : va_E) (E' : Nat → va_E) : Nat → va_E := fun k => if k < n then E k else if k = n then B' else E' (k - (n + 1))
theorem va_at.kept' {D : va_G} {q : Nat × va_E} {H H1 : Heap} (h : va_at D vwCl q H) (he : H1[q.1]? = H[q.1]?) : va_at D vwCl q H1 := va_at.kept h he
section KTW
variable {p : Program} {l : Launch} {e : Env} {R : Room} {s : State} {m : MethodId} {args : Array Value} {below : List Frame} {meth : Method} {c : Code} {H H0 : Heap} {locs : List Loc} {cells slots : Nat} {Q : State → Prop}
variable {cc : ByteArray} {pc : Nat} {ls : Array Slot} {rest st0 : List Value} {D : va_G} {tys : List (ClassId × FieldType)} {a n : Nat} {B : va_E} {E : Nat → va_E}
theorem k_new (hexec : p.tables.exec = Jvm.exec) (hb : c.code = cc) {own C : String} {T : u_T} {N ci index : Nat} (ht : ∀ w ∈ GG, w.before args s = true) (hin : ∀ w ∈ u_ws C T N, w ∈ GG) (ty : Nat → FieldType) (hty : ∀ k, k < N → parseFieldDescriptor (T k).2.2.1 = some (ty k)) (hown : s.vm.findClass own = some m.cls) (hcl : Cond.classLink own index C ∈ GG) (hinst : Cond.instantiable C N ∈ GG) (hini : Cond.initialized C ∈ GG)
    (hK : va_K D vwCl tys s) (hC : CS D a n H0 B E H) (hc : vwCl[ci]? = some (C, T, N)) {fs : List Value} (hfs : ∀ j, j < N → defaultValue (ty j) = vp_V fs j) (hcells : cells + 1 ≤ R.cells) (hslots : slots + N ≤ R.slots) (hdg : decode cc pc = .ok (.new index, 3))
    (kk : ∀ H1 : Heap, CS D a (n + 1) H0 B (va_up E n (.inr (ci, fs))) H1 → W p l e R s m args below meth c H1 locs (cells + 1) (slots + N) Q (F0 m (pc + 3) ls (.ref (a + 1 + n) :: rest))) : W p l e R s m args below meth c H locs cells slots Q (F0 m pc ls rest) := by
  have hKn := hK.1 ci _ hc
  obtain ⟨z, o, hB, hE⟩ := hC
  refine W.newcK hexec hb hown (ht _ hcl) (ht _ hinst) (ht _ hini) rfl hdg hcells hslots hKn.2.1 z fun H1 kC hkC e1 z1 o1 => ?_
  refine kk H1 ⟨by omega, fun q hq => (o1 q (by omega)).trans (o q hq), hB.kept' (o1 a (by omega)), fun k hk => ?_⟩
  by_cases hkn : k = n
  · subst hkn
    rw [va_up_self]
    exact ⟨_, hc, (u_born ty ht hin hKn hkC e1 hty).to hfs⟩
  · rw [va_up_ne _ _ hkn]
    exact (hE k (by omega)).kept' (o1 _ (by show a + 1 + k < a + 1 + n; omega))
theorem k_arr (hexec : p.tables.exec = Jvm.exec) (hb : c.code = cc) {atype : ArrayType} (ht : ∀ w ∈ GG, w.before args s = true) (harr : Cond.arrayClass (newarray.typeOf atype) ∈ GG) (hK : va_K D vwCl tys s) (hC : CS D a n H0 B E H) (t0 : Nat) {cA : ClassId} (htt : tys[t0]? = some (cA, newarray.typeOf atype)) (hra : ∀ z : ClassId, va_RA s z (newarray.typeOf atype) → s.vm.findClass ("[" ++ (newarray.typeOf atype).toString) = some z)
    {k : Int32} {N' : Nat} {a0 : vp_A} (ha : ∀ cA : ClassId, vp_cell cA a0 = arrV cA N' (fun _ => defaultValue (newarray.typeOf atype))) (hn : ¬ k < 0) (hN : k.toNatClampNeg = N') (hbytes : N' * componentBytes (newarray.typeOf atype) ≤ 536870912) (hcells : cells + 1 ≤ R.cells) (hslots : slots + N' ≤ R.slots) (hdg : decode cc pc = .ok (.newarray atype, 2))
    (kk : ∀ H1 : Heap, CS D a (n + 1) H0 B (va_up E n (.inl (cA, a0))) H1 → W p l e R s m args below meth c H1 locs (cells + 1) (slots + N') Q (F0 m (pc + 2) ls (.ref (a + 1 + n) :: rest))) : W p l e R s m args below meth c H locs cells slots Q (F0 m pc ls (.int k :: rest)) := by
  obtain ⟨z, o, hB, hE⟩ := hC
  refine va_newaK hexec hb (ht _ harr) rfl hdg rfl hn hN hbytes hcells hslots z fun H1 cA' e1 z1 o1 hAr hNm => ?_
  have hcA : cA' = cA := Option.some.inj (hNm.symm.trans (hra cA (hK.2 t0 _ htt).2))
  subst hcA
  refine kk H1 ⟨by omega, fun q hq => (o1 q (by omega)).trans (o q hq), hB.kept' (o1 a (by omega)), fun k hk => ?_⟩
  by_cases hkn : k = n
  · subst hkn
    rw [va_up_self]
    show H1[a + 1 + k]? = some (vp_cell cA' a0)
    rw [e1, ha]
  · rw [va_up_ne _ _ hkn]
    exact (hE k (by omega)).kept' (o1 _ (by show a + 1 + k < a + 1 + n; omega))
theorem k_arq (hexec : p.tables.exec = Jvm.exec) (hb : c.code = cc) {own C : String} {index : Nat} (ht : ∀ w ∈ GG, w.before args s = true) (hown : s.vm.findClass own = some m.cls) (hclink : Cond.classLink own index C ∈ GG) (hover : va_AO C s) (hK : va_K D vwCl tys s) (hC : CS D a n H0 B E H) (t0 : Nat) {cA : ClassId} (htt : tys[t0]? = some (cA, .object C))
    {k : Int32} {N' : Nat} (hn : ¬ k < 0) (hN : k.toNatClampNeg = N') (hbytes : N' * 4 ≤ 536870912) (hcells : cells + 1 ≤ R.cells) (hslots : slots + N' ≤ R.slots) (hdg : decode cc pc = .ok (.anewarray index, 3))
    (kk : ∀ H1 : Heap, CS D a (n + 1) H0 B (va_up E n (.inl (cA, N', .inr (.inr (.inr (.inr (fun _ => none))))))) H1 → W p l e R s m args below meth c H1 locs (cells + 1) (slots + N') Q (F0 m (pc + 3) ls (.ref (a + 1 + n) :: rest))) : W p l e R s m args below meth c H locs cells slots Q (F0 m pc ls (.int k :: rest)) := by
  obtain ⟨z, o, hB, hE⟩ := hC
  subst hN
  refine W.anew hexec hb hown (ht _ hclink) (va_AO.use hover) rfl hdg rfl hn hbytes hcells hslots fun cA' kA comp f1 f2 f3 f4 => ?_
  obtain ⟨kA9, comp9, -, -, -, g4⟩ := (hK.2 t0 _ htt).2
  have hcA : cA' = cA := Option.some.inj (f1.symm.trans g4)
  subst hcA
  generalize hH1 : H.push ({ cls := cA', slots := Array.replicate k.toNatClampNeg .null, vm := .none } : Cell) = H1
  have z1 : H1.size = H.size + 1 := by rw [← hH1, Array.size_push]
  have e1 : H1[H.size]? = some (arrV cA' k.toNatClampNeg (fun _ => .null)) := by rw [← hH1, Array.getElem?_push_size, ← arrV_new]
  have o1 : ∀ q : Nat, q < H.size → H1[q]? = H[q]? := fun q hq => by rw [← hH1, Array.getElem?_push, if_neg (Nat.ne_of_lt hq)]
  refine W.eq (g2 := F0 m (pc + 3) ls (.ref (a + 1 + n) :: rest)) (by rw [← z]) ?_
  refine kk H1 ⟨by omega, fun q hq => (o1 q (by omega)).trans (o q hq), hB.kept' (o1 a (by omega)), fun j hj => ?_⟩
  by_cases hkn : j = n
  · subst hkn
    rw [va_up_self]
    show H1[a + 1 + j]? = some (vp_cell _ _)
    rw [← z, e1, vp_cell_q]
    rfl
  · rw [va_up_ne _ _ hkn]
    exact (hE j (by omega)).kept' (o1 _ (by show a + 1 + j < H.size; omega))
theorem k_put (hexec : p.tables.exec = Jvm.exec) (hb : c.code = cc) {own C : String} {T : u_T} {N ci index : Nat} (ht : ∀ w ∈ GG, w.before args s = true) (hin : ∀ w ∈ u_ws C T N, w ∈ GG) (ty0 : Nat → FieldType) (hty : ∀ k, k < N → parseFieldDescriptor (T k).2.2.1 = some (ty0 k)) (hnm : ∀ a, a < N → ∀ b, b < N → a ≠ b → (T a).2.1 ≠ (T b).2.1) (hown : s.vm.findClass own = some m.cls) (hK : va_K D vwCl tys s) {fs : List Value} (hC : CS D a n H0 (.inr (ci, fs)) E H) (hc : vwCl[ci]? = some (C, T, N)) (k : Nat) (hk : k < N) (hlink : Cond.fieldLink own index (T k).1 (T k).2.1 (T k).2.2.1 ∈ GG) (hfin : (T k).2.2.2 = false ∨ ((T k).2.2.2 = true ∧ meth.name = "<init>" ∧ (T k).1 = own)) {v : Value} (hn : narrow (ty0 k) v = v) (hfit : fits (ty0 k) v = true) (hl : k < fs.length) (hloc : ∀ z ∈ locs, a ≤ z.base) (hdg : decode cc pc = .ok (.putfield index, 3))
    (kk : ∀ (H1 : Heap) (locs1 : List Loc), CS D a n H0 (.inr (ci, fs.set k v)) E H1 → (∀ z ∈ locs1, a ≤ z.base) → W p l e R s m args below meth c H1 locs1 cells slots Q (F0 m (pc + 3) ls rest)) : W p l e R s m args below meth c H locs cells slots Q (F0 m pc ls (v :: .ref a :: rest)) := by
  obtain ⟨z, o, hB, hE⟩ := hC
  have hap := va_apart (own := own) ht hin ty0 hty hnm hK hc
  obtain ⟨r, h1, cell, q1, q2, q3, q4⟩ := hB
  have hr : r = (C, T, N) := Option.some.inj (h1.symm.trans hc)
  subst hr
  obtain ⟨hS, hfc, kC, hkC, hkind⟩ := hK.1 ci _ hc
  obtain ⟨cf, kf, fi, f, hi, hsl⟩ := hS k hk
  have hlay := ht _ (hin _ (u_in_lay hk))
  unfold u_lay at hlay
  have hst := (u_facts hfc hkC (u_lays ht hin hk) hi).1
  have done : ∀ (H' : Heap), H'[a]? = some (cell.setSlot f.slot v) → H'.size = H.size → (∀ q, q ≠ a → H'[q]? = H[q]?) → W p l e R s m args below meth c H' (locs ++ [⟨a, f.slot⟩]) cells slots Q (F0 m (pc + 3) ls rest) := fun H' e1 e2 e3 => by
    rw [hsl] at e1
    refine kk H' _ ⟨by omega, fun q hq => (e3 q (by omega)).trans (o q hq), ⟨_, hc, t_OB.to (V := updV (vp_V fs) k v) ⟨_, e1, q2, q3, t_set q4 hap hk v⟩ (fun j _ => vp_updV_set hl v j)⟩, fun j hj => (hE j hj).kept' (e3 _ (by show a + 1 + j ≠ a; omega))⟩ (fun z hz => ?_)
    rcases List.mem_append.mp hz with h | h
    · exact hloc z h
    · rw [List.mem_singleton.mp h]; exact Nat.le_refl _
  rcases hfin with hfin | ⟨hfin, hin2, hdecl⟩
  · rw [if_neg (by rw [hfin]; decide)] at hlay
    have h6 := u_store hfc hkC hkind hlay hi (hty k hk) hn hfit
    exact W.putK hexec hb (f := f) ⟨hown, ht _ hlink, ⟨_, _, _, hi⟩, hst⟩ (by rw [q2]; exact h6) q1 q3 (by rw [hsl]; exact k2_hasslot (q4 k hk)) rfl rfl hdg done
  · rw [if_pos hfin] at hlay
    have hcf : m.cls = cf := by
      obtain ⟨_, _, c', _, _, _, -, -, hf', -, -, -, hown2, -⟩ := Cond.laysFinal_spec hlay
      have e1 : c' = cf := by have := hi.symm.trans hf'; simp at this; exact this.1.symm
      rw [hdecl] at hown2
      rw [← e1]; exact Option.some.inj (hown.symm.trans hown2)
    have h6 := u_fits hfc hkC hkind (Or.inr hlay) hi (hty k hk) hn hfit
    exact W.putFinK hexec hb hown (ht _ hlink) hi hst hcf hin2 (by rw [q2]; exact h6) q1 q3 (by rw [hsl]; exact k2_hasslot (q4 k hk)) rfl rfl hdg done
theorem k_get (hexec : p.tables.exec = Jvm.exec) (hb : c.code = cc) {own C : String} {T : u_T} {N ci index : Nat} (ht : ∀ w ∈ GG, w.before args s = true) (hin : ∀ w ∈ u_ws C T N, w ∈ GG) (hown : s.vm.findClass own = some m.cls) (hK : va_K D vwCl tys s) {fs : List Value} (hC : CS D a n H0 (.inr (ci, fs)) E H) (hc : vwCl[ci]? = some (C, T, N)) (k : Nat) (hk : k < N) (hlink : Cond.fieldLink own index (T k).1 (T k).2.1 (T k).2.2.1 ∈ GG) {v : Value} (hv : fs[k]? = some v) (hdg : decode cc pc = .ok (.getfield index, 3))
    (kk : W p l e R s m args below meth c H locs cells slots Q (F0 m (pc + 3) ls (v :: rest))) : W p l e R s m args below meth c H locs cells slots Q (F0 m pc ls (.ref a :: rest)) :=
  va_get (ws := [(a, .inr (ci, fs))]) hexec hb ht hin hown hK (fun j q hq => by
    cases j with
    | zero => cases hq; exact hC.2.2.1
    | succ j => simp at hq) 0 rfl hc k hk (ht _ hlink) (fun _ h9 => h9) hv hdg kk
theorem k_aast (hexec : p.tables.exec = Jvm.exec) (hb : c.code = cc) (hK : va_K D vwCl tys s) (hC : CS D a n H0 B E H) (j jv t0 ci : Nat) {cA : ClassId} {r : vw_C} {nn : Nat} {vs : List Value} {f : Nat → Option Nat} (hj : j < n) (hjv : jv < n) (hEj : E j = .inl (cA, nn, .inr (.inr (.inr (.inr f))))) (htt : tys[t0]? = some (cA, .object r.1)) (hEv : E jv = .inr (ci, vs)) (hc : vwCl[ci]? = some r) {i : Int32} (hin : vp_in i nn) (hloc : ∀ z ∈ locs, a ≤ z.base) (hdg : decode cc pc = .ok (.aastore, 1))
    (kk : ∀ (H1 : Heap) (locs1 : List Loc), CS D a n H0 B (va_up E j (.inl (cA, nn, .inr (.inr (.inr (.inr (va_up f i.toNatClampNeg (some (a + 1 + jv))))))))) H1 → (∀ z ∈ locs1, a ≤ z.base) → W p l e R s m args below meth c H1 locs1 cells slots Q (F0 m (pc + 1) ls rest)) : W p l e R s m args below meth c H locs cells slots Q (F0 m pc ls (.ref (a + 1 + jv) :: .int i :: .ref (a + 1 + j) :: rest)) := by
  obtain ⟨z, o, hB, hE⟩ := hC
  have hlt : i.toNatClampNeg < nn := Nat.not_le.mp fun q => hin (Or.inr q)
  have h0 : ¬ i < 0 := fun q => hin (Or.inl q)
  have hv := hE jv hjv
  rw [hEv] at hv
  obtain ⟨r', hr', cellV, g1, g2, g3, -⟩ := hv
  have ha := hE j hj
  rw [hEj] at ha
  have hcls := (hK.1 ci r hc).2
  obtain ⟨kA, comp, k1, k2, k3, -⟩ := (hK.2 t0 _ htt).2
  have hcomp : comp = D.1 ci := Option.some.inj (k3.symm.trans hcls.1)
  subst hcomp
  obtain ⟨kC, hkC, -⟩ := hcls.2
  refine W.aast hexec hb ha (fun q h => by cases h) (fun h => by cases h) k1 k2 rfl hkC ⟨h0, by show _ < (arrV _ _ _).slots.size; rw [arrV_size]; exact hlt⟩ g1 (fun q h => by rw [g3] at h; cases h) (by rw [g2]; exact hkC) (by rw [g2]; exact va_assign hcls) rfl rfl hdg fun H1 e z1 oq => ?_
  refine kk H1 _ ⟨by omega, fun q hq => (oq q (by show q ≠ a + 1 + j; omega)).trans (o q hq), hB.kept' (oq a (by show a ≠ a + 1 + j; omega)), fun k hk => ?_⟩ (fun z hz => ?_)
  · by_cases hkj : k = j
    · subst hkj
      rw [va_up_self]
      show H1[a + 1 + k]? = some (vp_cell _ _)
      rw [e]
      rw [vp_cell_q, vp_cell_q, arrV_store]
      congr 2
      funext q
      by_cases hq : q = i.toNatClampNeg
      · subst hq
        simp [updV, va_up, va_rf]
      · simp [updV, va_up, hq]
    · rw [va_up_ne _ _ hkj]
      exact (hE k hk).kept' (oq _ (by show a + 1 + k ≠ a + 1 + j; omega))
  · rcases List.mem_append.mp hz with h | h
    · exact hloc z h
    · rw [List.mem_singleton.mp h]; show a ≤ a + 1 + j; omega
variable {y : MethodName} {bytes : ByteArray} {maxL nL index fr lo mc ms ci : Nat} {own host : String} {fs : List Value} {B' : va_E} {E' : Nat → va_E}
theorem k_after (hr : va_Run p l e R s m args below meth c H locs cells slots mc ms (F0 m pc ls st0) rest (KQ D (a + 1 + n) mc B' E' #[.ref (a + 1 + n)]) (fun q => a + 1 + n ≤ q)) (hC : CS D a (n + 1) H0 B (va_up E n (.inr (ci, fs))) H) (hloc : ∀ z ∈ locs, a ≤ z.base)
    (kk : ∀ (H1 : Heap) (locs1 : List Loc), CS D a (n + 1 + mc) H0 B (joinE n E B' E') H1 → (∀ z ∈ locs1, a ≤ z.base) → W p l e R s m args below meth c H1 locs1 (cells + mc) (slots + ms) Q (F0 m (pc + 3) ls rest)) : W p l e R s m args below meth c H locs cells slots Q (F0 m pc ls st0) := by
  intro T hT X
  obtain ⟨v, st₀, t, T', L, h0, X', hL, e1, e2, ⟨hv, hz, ho, hB', hE'⟩, st⟩ := hr T hT X
  cases hv
  obtain ⟨z, o, hB, hE⟩ := hC
  rw [h0] at ho
  obtain ⟨t2, a1, b1⟩ := kk T'.heap (locs ++ L) ⟨by rw [e1]; omega, fun q hq => by rw [e1, ho q (by omega)]; exact o q hq, hB.kept' (by rw [e1]; exact ho a (by omega)), fun k hk => by
      rw [e1]
      unfold joinE
      by_cases h1 : k < n
      · rw [if_pos h1]
        have := hE k (by omega)
        rw [va_up_ne _ _ (by omega)] at this
        exact this.kept' (ho _ (by show a + 1 + k < a + 1 + n; omega))
      · rw [if_neg h1]
        by_cases h2 : k = n
        · rw [if_pos h2, h2]; exact hB'
        · rw [if_neg h2]
          have := hE' (k - (n + 1)) (by omega)
          rw [show a + 1 + n + 1 + (k - (n + 1)) = a + 1 + k by omega] at this
          exact this⟩ (fun z hz => by
      rcases List.mem_append.mp hz with h | h
      · exact hloc z h
      · have : a + 1 + n ≤ z.base := hL z h
        omega) T' rfl X'
  exact ⟨t2, st t2 a1, b1⟩
theorem k_call (S : CallFix p m c cc nL s args GG own) (hK : va_K D vwCl tys s) (hN : NW s) (hA3 : AO3 s) (hC : CS D a (n + 1) H0 B (va_up E n (.inr (ci, fs))) H) (hloc : ∀ z ∈ locs, a ≤ z.base) (hM : KT l D tys y bytes maxL fr lo mc ms ci fs (a + 1 + n) B' E') (h1 : Cond.methodLink own index y ∈ GG) (h2 : Cond.instanceMethod y ∈ GG) (h3 : Cond.initialized y.cls ∈ GG) (h4 : Cond.code y bytes maxL none ∈ GG) (h5 : y.name = "<init>") (h6 : y.cls ≠ "java/lang/invoke/MethodHandle" ∧ y.cls ≠ "java/lang/invoke/VarHandle" ∧ (parseMethodDescriptor y.desc).map (fun d => d.parameters.length) = some 0)
    (hR : fr + 1 ≤ R.frames ∧ 8 + (maxL + 11) + lo ≤ R.locals) (hsize : ls.size = nL) (hW : (rest.map fun v => v.category).sum ≤ 8) (hf : cells + mc ≤ R.cells ∧ slots + ms ≤ R.slots) (hdg : decode cc pc = .ok (.invokespecial index, 3))
    (kk : ∀ (H1 : Heap) (locs1 : List Loc), CS D a (n + 1 + mc) H0 B (joinE n E B' E') H1 → (∀ z ∈ locs1, a ≤ z.base) → W p l e R s m args below meth c H1 locs1 (cells + mc) (slots + ms) Q (F0 m (pc + 3) ls rest)) : W p l e R s m args below meth c H locs cells slots Q (F0 m pc ls (.ref (a + 1 + n) :: rest)) :=
  k_after (va_runI (As := []) (rest := rest) S hM (cwI 0 S.2.2.2.2 (GG_in h4) rfl rfl rfl (S.2.2.2.2 _ h3) (S.2.2.2.2 _ h1) (S.2.2.2.2 _ h2) h5 h6 hR) ⟨Kpre.blind, fun U hU hW => ⟨rfl, by rw [hU, hC.1]; omega, by rw [hU]; have := hC.2.2.2 n (by omega); rw [va_up_self] at this; exact this, va_K.moved hW.alike hK, NW.warm hW hN, AO3.moved hW.alike hA3⟩⟩ rfl rfl hsize rfl (lv_room hW) hdg hf) hC hloc kk
theorem k_callN (S : CallFix p m c cc nL s args GG own) (hK : va_K D vwCl tys s) (hN : NW s) (hA3 : AO3 s) (hC : CS D a (n + 1) H0 B (va_up E n (.inr (ci, fs))) H) (hloc : ∀ z ∈ locs, a ≤ z.base) (hM : KT l D tys y bytes maxL fr lo mc ms ci fs (a + 1 + n) B' E') (h1 : va_Nw (.methodLinkNest own index y host) s) (h2 : Cond.instanceMethod y ∈ GG) (h3 : Cond.initialized y.cls ∈ GG) (h4 : Cond.code y bytes maxL none ∈ GG) (h5 : y.name = "<init>") (h6 : y.cls ≠ "java/lang/invoke/MethodHandle" ∧ y.cls ≠ "java/lang/invoke/VarHandle" ∧ (parseMethodDescriptor y.desc).map (fun d => d.parameters.length) = some 0)
    (hR : fr + 1 ≤ R.frames ∧ 8 + (maxL + 11) + lo ≤ R.locals) (hsize : ls.size = nL) (hW : (rest.map fun v => v.category).sum ≤ 8) (hf : cells + mc ≤ R.cells ∧ slots + ms ≤ R.slots) (hdg : decode cc pc = .ok (.invokespecial index, 3))
    (kk : ∀ (H1 : Heap) (locs1 : List Loc), CS D a (n + 1 + mc) H0 B (joinE n E B' E') H1 → (∀ z ∈ locs1, a ≤ z.base) → W p l e R s m args below meth c H1 locs1 (cells + mc) (slots + ms) Q (F0 m (pc + 3) ls rest)) : W p l e R s m args below meth c H locs cells slots Q (F0 m pc ls (.ref (a + 1 + n) :: rest)) :=
  k_after (va_runIN (As := []) (rest := rest) S hM ⟨va_cnB 0 S.2.2.2.2 (GG_in h4) rfl rfl rfl h1 (S.2.2.2.2 _ h3) h6 hR, h5, S.2.2.2.2 _ h2⟩ ⟨Kpre.blind, fun U hU hW => ⟨rfl, by rw [hU, hC.1]; omega, by rw [hU]; have := hC.2.2.2 n (by omega); rw [va_up_self] at this; exact this, va_K.moved hW.alike hK, NW.warm hW hN, AO3.moved hW.alike hA3⟩⟩ rfl rfl hsize rfl (lv_room hW) hdg hf) hC hloc kk
theorem k_ret (hexec : p.tables.exec = Jvm.exec) (hb : c.code = cc) (hr : meth.sig.returnType = none) (hlk : meth.locks = false) (hC : CS D a mc s.heap B E H) (hloc : ∀ z ∈ locs, a ≤ z.base) (hdg : decode cc pc = .ok (.return_, 1)) : W p l e R s m args below meth c H locs mc ms (MQ below (KQ D a mc B E) args s mc ms (fun q => a ≤ q)) (F0 m pc ls []) :=
  W.vret hexec hb hr (fun t ht hW => ⟨rfl, by rw [ht]; exact hC⟩) hloc hdg hlk
theorem KT.of (hy : plainName y.cls = true) (hlen : 1 ≤ maxL)
    (h : ∀ (p : Program) (e : Env) (s : State) (m : MethodId) (args : Array Value) (below : List Frame) (meth : Method) (c : Code), p.tables.exec = Jvm.exec → c.code = bytes → meth.sig.returnType = none → (∀ w ∈ GG, w.before args s = true) → s.vm.findClass y.cls = some m.cls → meth.locks = false → c.maxLocals = maxL → meth.name = y.name → CS D a 0 s.heap (.inr (ci, fs)) E s.heap → va_K D vwCl tys s → NW s → AO3 s → ∀ ls : Array Slot, lv_has ls maxL [(0, .ref a)] → W p l e { frames := fr, cells := mc, slots := ms, locals := lo } s m args below meth c s.heap [] 0 0 (MQ below (KQ D a mc B' E') args s mc ms (fun q => a ≤ q)) (F0 m 0 ls [])) :
    KT l D tys y bytes maxL fr lo mc ms ci fs a B' E' := by
  refine Met.ofW (cc := bytes) (maxL := maxL) (ret := none) hy rfl ?_
  intro p e s m args below meth c s₁ B hml hv
  obtain ⟨rfl, hz, hP, hK, hN, hA3⟩ := hv
  have hts := atoms_spec (ws := Cond.code y bytes maxL none :: GG) B.pre
  have hl := lv_entry [.ref a] (n := maxL) hlen
  rw [lg_entry_eq]
  exact h p e s m [Value.ref a].toArray below meth c B.exec B.bytes B.returns (fun w hw => hts w (List.mem_cons_of_mem _ hw)) (findClass_of_methodNamed B.named) B.notSynchronized hml (name_of_methodNamed B.named B.method).1 ⟨hz, fun _ _ => rfl, hP, fun k hk => absurd hk (Nat.not_lt_zero k)⟩ hK hN hA3 _ hl
end KTW
