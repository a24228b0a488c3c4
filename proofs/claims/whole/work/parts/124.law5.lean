/-! THE CLAIM OUT OF ONE WALK OF THE LAW'S BODY. Your part is whole_start (and what it stands on); all else here is the same for every law, but numbers. -/
def R_law : String := "PriceDeskLaw"
def lw_P (b : Addr) (xs : List Int32) (args : Array Value) (s : State) : Prop := args = #[.ref b] ∧ s.IntsAt b xs ∧ xs.length ≤ 3072 ∧ (Jvm.Cond.and given_1 narrow_1).before args s = true
def lw_Q (_ : Array Value) (s : State) (o : Outcome) (t : State) : Prop := o = .returned (some (.int 1)) ∧ Framed s o t [] 601024 7293034
def lw_Z (below : List Frame) (a : Array Value) (s : State) : State → Prop := fun t => ∃ o, t.status = .running ∧ Ended t below o ∧ lw_Q a s o t
/-- the law's own end, with 1 on the stack, nothing written that was there before, its room as the claim has it -/
theorem lw_ret {p : Program} {l : Launch} {e : Env} {s : State} {m : MethodId} {below : List Frame} {meth : Method} {c : Code} {b : Nat} (hx : p.tables.exec = Jvm.exec) (hb : c.code = code) (hr : meth.sig.returnType = ret) (hlocks : meth.locks = false) {pc : Nat} {H : Heap} {ls : Array Slot} (hdg : decode code pc = .ok (.ireturn, 1)) : W p l e room_1 s m #[Value.ref b] below meth c H [] 601024 7293034 (lw_Z below #[Value.ref b] s) (F0 m pc ls [.int 1]) := by
  intro T hT X
  obtain ⟨fs, hret, hrun, hended, hW, hframe⟩ := X.leave (v := some (.int 1)) (hlocks := hlocks) (fun h => by rw [hr] at h; cases h)
  have hmeth' : T.vm.method? m = some meth := X.method'
  refine ⟨T.setFrames fs, ?_, .returned (some (.int 1)), hrun, hended, rfl, ⟨_, rfl⟩, hW, hframe⟩
  jvm_step X.here [X.here.top, hx, hb, hdg, hmeth', hr, ret, narrow_b1]
  (try refine ⟨rfl, ?_⟩); (try refine ⟨rfl, ?_⟩)
  first | (intro acts; rw [hret _ acts rfl rfl rfl]) | rw [hret _ _ rfl rfl rfl]
  exact Steps.refl _
/-- what holds at the law's entry: the machine, the code, the tables' words (any of lw_tbl by 'hts w (by decide +kernel)'), the script of L ints xs at the cell b, what the Statement gives of the start (any of its parts by flat_of_before) -/
def lw_At (p : Program) (s : State) (m : MethodId) (meth : Method) (c : Code) (b L : Nat) (xs : Nat → Int32) : Prop :=
  p.tables.exec = Jvm.exec ∧ c.code = code ∧ meth.sig.returnType = ret ∧ c.maxLocals = 8 ∧ s.vm.findClass R_law = some m.cls ∧ (∀ w ∈ lw_tbl, w.before #[Value.ref b] s = true) ∧ va_X b L xs s s.heap ∧ b < s.heap.size ∧ meth.locks = false ∧ (Jvm.Cond.and given_1 narrow_1).before #[Value.ref b] s = true
/-! ===== the law's loop ===== -/
section LWN
variable {p : Program} {l : Launch} {e : Env} {R : Room} {s : State} {m : MethodId} {args : Array Value} {below : List Frame} {meth : Method} {c : Code} {H : Heap} {locs : List Loc} {cells slots : Nat} {Q : State → Prop}
variable {cc : ByteArray} {pc : Nat} {ls : Array Slot} {rest st0 : List Value} {D : va_G} {tys : List (ClassId × FieldType)}
variable {y : MethodName} {bytes : ByteArray} {maxL nL index fr lo mc ms ci : Nat} {own : String} {fs : List Value} {B' : va_E} {E' : Nat → va_E}
theorem l_new (hexec : p.tables.exec = Jvm.exec) (hb : c.code = cc) {own C : String} {T : u_T} {N ci index : Nat} (ht : ∀ w ∈ GG, w.before args s = true) (hin : ∀ w ∈ u_ws C T N, w ∈ GG) (ty : Nat → FieldType) (hty : ∀ k, k < N → parseFieldDescriptor (T k).2.2.1 = some (ty k)) (hown : s.vm.findClass own = some m.cls) (hcl : Cond.classLink own index C ∈ GG) (hinst : Cond.instantiable C N ∈ GG) (hini : Cond.initialized C ∈ GG)
    (hK : va_K D vwCl tys s) {a : Nat} (z : H.size = a) (hc : vwCl[ci]? = some (C, T, N)) {fs : List Value} (hfs : ∀ j, j < N → defaultValue (ty j) = vp_V fs j) (hcells : cells + 1 ≤ R.cells) (hslots : slots + N ≤ R.slots) (hdg : decode cc pc = .ok (.new index, 3))
    (kk : ∀ H1 : Heap, H1.size = a + 1 → (∀ q, q < a → H1[q]? = H[q]?) → va_at D vwCl (a, .inr (ci, fs)) H1 → W p l e R s m args below meth c H1 locs (cells + 1) (slots + N) Q (F0 m (pc + 3) ls (.ref a :: rest))) : W p l e R s m args below meth c H locs cells slots Q (F0 m pc ls rest) := by
  have hKn := hK.1 ci _ hc
  refine W.newcK hexec hb hown (ht _ hcl) (ht _ hinst) (ht _ hini) rfl hdg hcells hslots hKn.2.1 z fun H1 kC hkC e1 z1 o1 => ?_
  exact kk H1 (by omega) (fun q hq => o1 q (by omega)) ⟨_, hc, (u_born ty ht hin hKn hkC e1 hty).to hfs⟩
theorem l_init {a : Nat} (S : CallFix p m c cc nL s args GG own) (hK : va_K D vwCl tys s) (hN : NW s) (hA3 : AO3 s) (hz : H.size = a + 1) (ho : va_at D vwCl (a, .inr (ci, fs)) H) (hS : va_S (A0 s) s.heap H locs) (ha : s.heap.size ≤ a) (hM : KT l D tys y bytes maxL fr lo mc ms ci fs a B' E') (h1 : Cond.methodLink own index y ∈ GG) (h2 : Cond.instanceMethod y ∈ GG) (h3 : Cond.initialized y.cls ∈ GG) (h4 : Cond.code y bytes maxL none ∈ GG) (h5 : y.name = "<init>") (h6 : y.cls ≠ "java/lang/invoke/MethodHandle" ∧ y.cls ≠ "java/lang/invoke/VarHandle" ∧ (parseMethodDescriptor y.desc).map (fun d => d.parameters.length) = some 0)
    (hR : fr + 1 ≤ R.frames ∧ 8 + (maxL + 11) + lo ≤ R.locals) (hsize : ls.size = nL) (hW : (rest.map fun v => v.category).sum ≤ 8) (hf : cells + mc ≤ R.cells ∧ slots + ms ≤ R.slots) (hdg : decode cc pc = .ok (.invokespecial index, 3))
    (kk : ∀ (H1 : Heap) (locs1 : List Loc), CS D a mc H B' E' H1 → va_S (A0 s) s.heap H1 locs1 → W p l e R s m args below meth c H1 locs1 (cells + mc) (slots + ms) Q (F0 m (pc + 3) ls rest)) : W p l e R s m args below meth c H locs cells slots Q (F0 m pc ls (.ref a :: rest)) := by
  have hr := va_runI (p := p) (e := e) (R := R) (below := below) (meth := meth) (H := H) (locs := locs) (cells := cells) (slots := slots) (g := F0 m pc ls (.ref a :: rest)) (As := []) (rest := rest) S hM (cwI 0 S.2.2.2.2 (GG_in h4) rfl rfl rfl (S.2.2.2.2 _ h3) (S.2.2.2.2 _ h1) (S.2.2.2.2 _ h2) h5 h6 hR) ⟨Kpre.blind, fun U hU hW => ⟨rfl, by rw [hU, hz], by rw [hU]; exact ho, va_K.moved hW.alike hK, NW.warm hW hN, AO3.moved hW.alike hA3⟩⟩ rfl rfl hsize rfl (lv_room hW) hdg hf
  intro T hT X
  obtain ⟨v, st₀, t, T', L, h0, X', hL, e1, e2, ⟨hv, hC⟩, st⟩ := hr T hT X
  cases hv
  rw [h0, ← e1] at hC
  obtain ⟨t2, a1, b1⟩ := kk T'.heap (locs ++ L) hC ⟨by rw [hC.1]; omega, fun q g1 g2 => by rw [hC.2.1 q (by omega)]; exact hS.2.1 q g1 g2, fun q hq => by
      rcases List.mem_append.mp hq with h | h
      · exact hS.2.2 q h
      · exact Nat.le_trans ha (hL q h)⟩ T' rfl X'
  exact ⟨t2, st t2 a1, b1⟩
theorem and31 (x : Int32) : ∃ k : Nat, k < 32 ∧ x &&& 31 = nI k := by
  refine ⟨(x &&& 31).toBitVec.toNat, ?_, ?_⟩
  · rw [Int32.toBitVec_and, BitVec.toNat_and]
    exact Nat.lt_of_le_of_lt Nat.and_le_right (by decide)
  · have h : (x &&& 31).toBitVec.toNat < 32 := by
      rw [Int32.toBitVec_and, BitVec.toNat_and]
      exact Nat.lt_of_le_of_lt Nat.and_le_right (by decide)
    rw [i_eq, nI_toInt (by omega), ← Int32.toInt_toBitVec, BitVec.toInt_eq_toNat_cond, if_pos (by omega)]
end LWN
set_option maxHeartbeats 4000000 in
set_option maxRecDepth 100000 in
theorem lw_loop {p : Program} {l : Launch} {e : Env} {s : State} {m : MethodId} {below : List Frame} {meth : Method} {c : Code} {b L : Nat} {xs : Nat → Int32} {D : va_G} {ca : Nat → ClassId} {ad am : Nat → Nat} {q0 : Nat} {adK adV : Nat → Nat} (E : LE p l s m meth c b L xs D ca ad am q0 adK adV) (hr : meth.sig.returnType = ret) (hlk : meth.locks = false) :
    ∀ (n j : Nat) (σ : MI) (τ : ML) (μ : MI) (υ : ML) (f : Nat → Int64) (H : Heap) (locs : List Loc) (ls : Array Slot), L + 6 - 6 * j < n → 6 * j ≤ L → zA σ τ μ → LWd D ca ad am q0 σ τ μ υ f H → va_S (A0 s) s.heap H locs → lv_has ls 8 (LO b ad am q0 (6 * j)) → W p l e room_1 s m #[Value.ref b] below meth c H locs (165 + j) (11981 + 6 * j) (lw_Z below #[Value.ref b] s) (F0 m 23 ls []) := by
  intro n
  induction n with
  | zero => intro j σ τ μ υ f H locs ls hn; omega
  | succ n ih =>
    intro j σ τ μ υ f H locs ls hn hj hz hW hS hl
    obtain ⟨⟨hx, hb, hml, hown, ht⟩, ⟨hX, hbl, hL⟩, -⟩ := id E
    refine lv_iload hx hb dL_law_23 (lv_at hl 0 rfl) ?_
    refine lv_aload_n hx hb dL_law_25 rfl (lv_at hl 4 rfl) ?_
    refine va_slen hx hb hX hbl (Nat.not_le.mpr hbl) hS dL_law_26 ?_
    refine lv_bipush (v := 6) hx hb dL_law_27 (by decide) ?_
    refine lv_isub hx hb dL_law_29 ?_
    have e6 : (6 : Int32).toInt = 6 := rfl
    have eL : (nI L).toInt = (L : Int) := nI_toInt (by omega)
    have es : (nI L - 6).toInt = (L : Int) - 6 := by rw [fb_subI (by omega) (by omega)]; omega
    refine lv_icmp_gt (tgt := 1044) hx hb dL_law_30 (by decide) (fun h => ?_) (fun h => ?_)
    · refine lv_iconst (v := 1) hx hb dL_law_1044 (by decide) ?_
      refine va_forget hS.2.2 ?_
      refine W.widen (k := 601024) (n := 7293034) (by omega) (by omega) ?_
      exact lw_ret hx hb hr hlk dL_law_1045
    · have hi : 6 * j + 6 ≤ L := by
        have h2 : ¬ (nI L - 6).toInt < (nI (6 * j)).toInt := fun w => h ((i_lt _ _).mpr w)
        rw [es, nI_toInt (by omega)] at h2
        omega
      refine lv_aload_n hx hb dL_law_33 rfl (lv_at hl 4 rfl) ?_
      refine lv_iload hx hb dL_law_34 (lv_at hl 0 rfl) ?_
      refine va_sld hx hb hX hbl (Nat.not_le.mpr hbl) hS (vp_in_nI (by omega) (by omega)) dL_law_36 ?_
      refine lv_bipush (v := 31) hx hb dL_law_37 (by decide) ?_
      refine lv_iand hx hb dL_law_39 ?_
      obtain ⟨k, hk32, ek⟩ := and31 (xs (nI (6 * j)).toNatClampNeg)
      refine stk_i ek ?_
      have hcs : 165 + j + 1 ≤ 601024 ∧ 11981 + 6 * j + 6 ≤ 7293034 := ⟨by omega, by omega⟩
      have kont : KO p l e room_1 s m below meth c b D ca ad am q0 (6 * j) (165 + j) (11981 + 6 * j) (lw_Z below #[Value.ref b] s) := by
        intro σ τ μ υ f H locs ls hz hW hS hl
        refine lv_iinc (v := nI (6 * (j + 1))) (lv' := LO b ad am q0 (6 * (j + 1))) hx hb dL_law_1038 hl (k := 0) rfl (by rw [show Int32.ofInt 6 = nI 6 by decide, nI_add]; congr 1) (by decide) rfl (fun ls hl => ?_)
        refine lv_goto (tgt := 23) hx hb dL_law_1041 (by decide) ?_
        refine W.widen (k := 165 + (j + 1)) (n := 11981 + 6 * (j + 1)) (by omega) (by omega) ?_
        exact ih (j + 1) σ τ μ υ f H locs ls (by omega) (by omega) hz hW hS hl
      rcases (by omega : k = 0 ∨ k = 1 ∨ k = 2 ∨ k = 3 ∨ k = 4 ∨ k = 5 ∨ k = 6 ∨ k = 7 ∨ k = 8 ∨ k = 9 ∨ k = 10 ∨ k = 11 ∨ k = 12 ∨ k = 13 ∨ k = 14 ∨ k = 15 ∨ k = 16 ∨ k = 17 ∨ k = 18 ∨ k = 19 ∨ 20 ≤ k) with rfl | rfl | rfl | rfl | rfl | rfl | rfl | rfl | rfl | rfl | rfl | rfl | rfl | rfl | rfl | rfl | rfl | rfl | rfl | rfl | hk
      · refine lv_tableIn (tgt := 136) hx hb dL_law_40 (by decide) (by decide) (off := 96) (by decide) (by decide) ?_
        exact lw_feed E hz hW hS hi hl hcs kont
      · refine lv_tableIn (tgt := 209) hx hb dL_law_40 (by decide) (by decide) (off := 169) (by decide) (by decide) ?_
        exact lw_end E hz hW hS hi hl hcs kont
      · refine lv_tableIn (tgt := 234) hx hb dL_law_40 (by decide) (by decide) (off := 194) (by decide) (by decide) ?_
        exact lw_text E hz hW hS hi hl hcs kont
      · refine lv_tableIn (tgt := 247) hx hb dL_law_40 (by decide) (by decide) (off := 207) (by decide) (by decide) ?_
        exact lw_fault E hz hW hS hi hl hcs kont
      · refine lv_tableIn (tgt := 260) hx hb dL_law_40 (by decide) (by decide) (off := 220) (by decide) (by decide) ?_
        exact lw_now E hz hW hS hi hl hcs kont
      · refine lv_tableIn (tgt := 285) hx hb dL_law_40 (by decide) (by decide) (off := 245) (by decide) (by decide) ?_
        exact lw_value E hz hW hS hi hl hcs kont
      · refine lv_tableIn (tgt := 334) hx hb dL_law_40 (by decide) (by decide) (off := 294) (by decide) (by decide) ?_
        exact lw_rebased E hz hW hS hi hl hcs kont
      · refine lv_tableIn (tgt := 383) hx hb dL_law_40 (by decide) (by decide) (off := 343) (by decide) (by decide) ?_
        exact lw_ratio E hz hW hS hi hl hcs kont
      · refine lv_tableIn (tgt := 463) hx hb dL_law_40 (by decide) (by decide) (off := 423) (by decide) (by decide) ?_
        exact lw_contract E hz hW hS hi hl hcs kont
      · refine lv_tableIn (tgt := 500) hx hb dL_law_40 (by decide) (by decide) (off := 460) (by decide) (by decide) ?_
        exact lw_price E hz hW hS hi hl hcs kont
      · refine lv_tableIn (tgt := 580) hx hb dL_law_40 (by decide) (by decide) (off := 540) (by decide) (by decide) ?_
        exact lw_were E hz hW hS hi hl hcs kont
      · refine lv_tableIn (tgt := 629) hx hb dL_law_40 (by decide) (by decide) (off := 589) (by decide) (by decide) ?_
        exact lw_rises E hz hW hS hi hl hcs kont
      · refine lv_tableIn (tgt := 666) hx hb dL_law_40 (by decide) (by decide) (off := 626) (by decide) (by decide) ?_
        exact lw_delivery E hz hW hS hi hl hcs kont
      · refine lv_tableIn (tgt := 703) hx hb dL_law_40 (by decide) (by decide) (off := 663) (by decide) (by decide) ?_
        exact lw_amount E hz hW hS hi hl hcs kont
      · refine lv_tableIn (tgt := 770) hx hb dL_law_40 (by decide) (by decide) (off := 730) (by decide) (by decide) ?_
        exact lw_statement E hz hW hS hi hl hcs kont
      · refine lv_tableIn (tgt := 837) hx hb dL_law_40 (by decide) (by decide) (off := 797) (by decide) (by decide) ?_
        exact lw_publish E hz hW hS hi hl hcs kont
      · refine lv_tableIn (tgt := 914) hx hb dL_law_40 (by decide) (by decide) (off := 874) (by decide) (by decide) ?_
        exact lw_rebase E hz hW hS hi hl hcs kont
      · refine lv_tableIn (tgt := 963) hx hb dL_law_40 (by decide) (by decide) (off := 923) (by decide) (by decide) ?_
        exact lw_deliver E hz hW hS hi hl hcs kont
      · refine lv_tableIn (tgt := 1012) hx hb dL_law_40 (by decide) (by decide) (off := 972) (by decide) (by decide) ?_
        exact lw_close E hz hW hS hi hl hcs kont
      · refine lv_tableIn (tgt := 1025) hx hb dL_law_40 (by decide) (by decide) (off := 985) (by decide) (by decide) ?_
        exact lw_undo E hz hW hS hi hl hcs kont
      · refine lv_tableOut (tgt := 1038) hx hb dL_law_40 (Or.inr (by rw [nI_toInt (by omega)]; omega)) (by decide) ?_
        refine W.widen (k := 165 + j + 1) (n := 11981 + 6 * j + 6) (by omega) (by omega) ?_
        exact kont σ τ μ υ f H locs ls hz hW hS hl
theorem oc_lt {k : Nat} (h : k < 158) : oc k < 158 := (oc_inv h).2
theorem lay_ok (a : Nat) {s : State} (h : s.heap.size = a) : LWf (fun k => a + oc k) (fun k => a + 158 + k) (a + 164) (A0 s) := by
  refine ⟨Inj_desk a, Inj_model (a + 158), fun q h1 h2 => ?_, fun h1 => ?_, fun h1 => ?_, fun q h1 => ?_, fun q h1 => ?_, ?_⟩
  · obtain ⟨k, hk, e1⟩ := h1
    obtain ⟨k2, hk2, e2⟩ := h2
    have := oc_lt hk
    dsimp only at *
    omega
  · obtain ⟨k, hk, e1⟩ := h1
    have := oc_lt hk
    dsimp only at *
    omega
  · obtain ⟨k, hk, e1⟩ := h1
    dsimp only at *
    omega
  · obtain ⟨k, hk, e1⟩ := h1
    show s.heap.size ≤ q
    dsimp only at *
    omega
  · obtain ⟨k, hk, e1⟩ := h1
    show s.heap.size ≤ q
    dsimp only at *
    omega
  · show s.heap.size ≤ a + 164
    omega
set_option maxHeartbeats 4000000 in
set_option maxRecDepth 100000 in
theorem whole_start {p : Program} {e : Env} {s : State} {m : MethodId} {below : List Frame} {meth : Method} {c : Code} (l : Launch) (hflags : l.flags = flags0) {b L : Nat} {xs : Nat → Int32} (hL : L ≤ 3072) (C0 : lw_At p s m meth c b L xs) : W p l e room_1 s m #[Value.ref b] below meth c s.heap [] 0 0 (lw_Z below #[Value.ref b] s) (entryFrame m ([Value.ref b] : List Value).toArray 8) := by
  obtain ⟨hx, hb, hr, hml, hown, hts, hX, hbl, hlocks, hgv⟩ := C0
  have hb : c.code = cL_law := hb
  have hown : s.vm.findClass RL = some m.cls := hown
  have ht := st_G hts
  obtain ⟨D, ca, hK⟩ := st_K hts
  have hN : NW s := NW.of hts
  have hA3 := st_AO hts
  obtain ⟨adK, adV, hSC⟩ := st_SC hts hgv
  have hTX := st_TX hts hgv
  have hC := st_ca hts
  have hfl : l.stackTraces = false := by unfold Launch.stackTraces; rw [hflags]; decide
  have S : CallFix p m c cL_law 8 s #[Value.ref b] GG RL := ⟨hx, hb, hml, hown, ht⟩
  have hl := lv_entry ([.ref b]) (n := 8) (Nat.le_of_ble_eq_true rfl)
  rw [lg_entry_eq]
  generalize (lg_sl ([.ref b]) ++ List.replicate (8 - (lg_sl ([.ref b])).length) Slot.unset).toArray = ls at hl ⊢
  have hl : lv_has ls 8 [(0, .ref b)] := hl
  generalize ha : s.heap.size = a
  have F := lay_ok a ha
  have hsz0 : s.heap.size = a := ha
  refine l_new hx hb ht inG8 tyX8 tyX8_ok hown gw_77 gw_78 gw_58 hK hsz0 (ci := 8) rfl (fs := [.null, .null, .null, .null]) (fun j hj => by rcases (by omega : j = 0 ∨ j = 1 ∨ j = 2 ∨ j = 3) with rfl | rfl | rfl | rfl <;> rfl) (Nat.le_of_ble_eq_true rfl) (Nat.le_of_ble_eq_true rfl) dL_law_0 (fun H hz1 ho1 hv1 => ?_)
  have hS : va_S (A0 s) s.heap H [] := ⟨by omega, fun q g1 g2 => ho1 q (by omega), fun _ h => nomatch h⟩
  refine lv_dup hx hb dL_law_3 rfl ?_
  refine l_init (rest := [.ref a]) S hK hN hA3 hz1 hv1 hS (by omega) (k_X8 l D ca a) gw_79 gw_80 gw_58 gw_81 rfl (by decide +kernel) ⟨by decide, by decide⟩ hl.1 (Nat.le_of_ble_eq_true rfl) ⟨Nat.le_of_ble_eq_true rfl, Nat.le_of_ble_eq_true rfl⟩ dL_law_4 (fun H2 locs2 hC2 hS => ?_)
  have hP2 := PW_desk hC2
  have hz2 : H2.size = a + 158 := by rw [hC2.1]
  refine lv_astore_n (lv' := [(1, .ref a), (0, .ref b)]) hx hb dL_law_7 rfl hl (by decide) rfl (fun ls hl => ?_)
  refine l_new hx hb ht inG9 tyX9 tyX9_ok hown gw_934 gw_928 gw_67 hK hz2 (ci := 9) rfl (fs := [.int 0, .null, .int 0, .int 0, .int 0, .int 0, .int 0, .int 0, .int 0, .int 0, .int 0, .long 0, .null, .null, .null, .null, .int 0]) (fun j hj => by rcases (by omega : j = 0 ∨ j = 1 ∨ j = 2 ∨ j = 3 ∨ j = 4 ∨ j = 5 ∨ j = 6 ∨ j = 7 ∨ j = 8 ∨ j = 9 ∨ j = 10 ∨ j = 11 ∨ j = 12 ∨ j = 13 ∨ j = 14 ∨ j = 15 ∨ j = 16) with rfl | rfl | rfl | rfl | rfl | rfl | rfl | rfl | rfl | rfl | rfl | rfl | rfl | rfl | rfl | rfl | rfl <;> rfl) (Nat.le_of_ble_eq_true rfl) (Nat.le_of_ble_eq_true rfl) dL_law_8 (fun H3 hz3 ho3 hv3 => ?_)
  have hS3 : va_S (A0 s) s.heap H3 locs2 := ⟨by omega, fun q g1 g2 => by rw [ho3 q (by omega)]; exact hS.2.1 q g1 g2, hS.2.2⟩
  have hP3 : PW D 158 (fun k => a + oc k) (cxf ca (fun k => a + oc k)) s0 t0L H3 := hP2.kept (fun k hk => ho3 _ (by have := oc_lt hk; show a + oc k < a + 158; omega))
  refine lv_dup hx hb dL_law_11 rfl ?_
  refine l_init (rest := [.ref (a + 158)]) S hK hN hA3 hz3 hv3 hS3 (by omega) (k_X9 l D ca (a + 158)) gw_935 gw_936 gw_67 gw_937 rfl (by decide +kernel) ⟨by decide, by decide⟩ hl.1 (Nat.le_of_ble_eq_true rfl) ⟨Nat.le_of_ble_eq_true rfl, Nat.le_of_ble_eq_true rfl⟩ dL_law_12 (fun H4 locs4 hC4 hS4 => ?_)
  have hM4 := PW_model hC4
  have hz4 : H4.size = a + 164 := by rw [hC4.1]
  have hP4 : PW D 158 (fun k => a + oc k) (cxf ca (fun k => a + oc k)) s0 t0L H4 := hP3.kept (fun k hk => hC4.2.1 _ (by have := oc_lt hk; show a + oc k < a + 158; omega))
  refine lv_astore_n (lv' := [(2, .ref (a + 158)), (1, .ref a), (0, .ref b)]) hx hb dL_law_15 rfl hl (by decide) rfl (fun ls hl => ?_)
  refine lv_iconst (v := 1) hx hb dL_law_16 (by decide) ?_
  refine va_newaK (atype := .long) (N := 1) hx hb (ht _ gw_991) rfl dL_law_17 rfl (by decide) (by decide) (by decide) (Nat.le_of_ble_eq_true rfl) (Nat.le_of_ble_eq_true rfl) hz4 (fun H5 cA e5 z5 o5 hAr hNm => ?_)
  have hcA : cA = ca 5 := Option.some.inj (hNm.symm.trans (hK.2 5 _ rfl).2)
  subst hcA
  have hS5 : va_S (A0 s) s.heap H5 locs4 := ⟨by omega, fun q g1 g2 => by rw [o5 q (by omega)]; exact hS4.2.1 q g1 g2, hS4.2.2⟩
  have hW5 : LWd D ca (fun k => a + oc k) (fun k => a + 158 + k) (a + 164) s0 t0L (fun _ _ => 0) t0L (fun _ => 0) H5 := ⟨hP4.kept (fun k hk => o5 _ (by have := oc_lt hk; show a + oc k < a + 164; omega)), hM4.kept (fun k hk => o5 _ (by show a + 158 + k < a + 164; omega)), e5⟩
  refine W.eq (g2 := F0 m 19 ls [.ref (a + 164)]) rfl ?_
  refine lv_astore_n (lv' := [(3, .ref (a + 164)), (2, .ref (a + 158)), (1, .ref a), (0, .ref b)]) hx hb dL_law_19 rfl hl (by decide) rfl (fun ls hl => ?_)
  refine lv_iconst (v := 0) hx hb dL_law_20 (by decide) ?_
  refine lv_istore (lv' := [(4, .int 0), (3, .ref (a + 164)), (2, .ref (a + 158)), (1, .ref a), (0, .ref b)]) hx hb dL_law_21 hl (by decide) rfl (fun ls hl => ?_)
  refine W.widen (k := 165 + 0) (n := 11981 + 6 * 0) (by omega) (by omega) ?_
  exact lw_loop (adK := adK) (adV := adV) ⟨⟨hx, hb, hml, hown, ht⟩, ⟨hX, hbl, hL⟩, hK, hN, hSC, hTX, hC, hfl, F⟩ hr hlocks (L + 7) 0 s0 t0L (fun _ _ => 0) t0L (fun _ => 0) H5 locs4 ls (by omega) (by omega) z_first hW5 hS5 hl
