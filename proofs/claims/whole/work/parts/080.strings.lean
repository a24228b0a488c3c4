/-! ===== String constants: length, charAt over the claim's seven words ===== -/
def lenJ : List Nat := [5, 5, 8, 4, 3, 6, 5]
def bytJ : List (List Int32) := [[109, 111, 110, 116, 104], [105, 110, 100, 101, 120], [99, 111, 110, 116, 114, 97, 99, 116], [98, 97, 115, 101], [97, 108, 108], [98, 101, 121, 111, 110, 100], [115, 104, 97, 114, 101]]
def idxJ : List Nat := [68, 83, 49, 152, 182, 177, 187]
def txtJ : List String := ["month", "index", "contract", "base", "all", "beyond", "share"]
def SCx (adK adV : Nat → Nat) (A : Nat → Prop) (U : State) (H : Heap) : Prop := vk_S 7 lenJ bytJ adK adV A U H ∧ va_Z "java/lang/String" "COMPACT_STRINGS" "Z" (.int 1) A U H ∧ va_Zq "jdk/internal/util/Preconditions" "SIOOBE_FORMATTER" "Ljava/util/function/BiFunction;" A U H ∧ ∀ i, i < 7 → vk_R "PriceDesk$TextReader" (idxJ.getD i 0) (txtJ.getD i "") (adK i) U
theorem SCx.kept {adK adV : Nat → Nat} {A : Nat → Prop} {U : State} {H H1 : Heap} (h : SCx adK adV A U H) (hq : ∀ a : Nat, a < H.size → ¬ A a → H1[a]? = H[a]?) : SCx adK adV A U H1 := ⟨h.1.kept hq, h.2.1.kept hq, h.2.2.1.kept hq, h.2.2.2⟩
theorem SCx.warm {adK adV : Nat → Nat} {A : Nat → Prop} {s U : State} {H : Heap} (hW : s.WarmedH U.vm) (h : SCx adK adV A s H) : SCx adK adV A U H := ⟨h.1.moved hW.alike, h.2.1.moved hW.alike, h.2.2.1.moved hW.alike, fun i hi => (h.2.2.2 i hi).warm hW⟩
theorem SCx.same {adK adV : Nat → Nat} {A : Nat → Prop} {u U : State} {H : Heap} (hv : U.vm = u.vm) (h : SCx adK adV A u H) : SCx adK adV A U H := by
  have ha : u.vm.Alike U.vm := by rw [hv]; exact Vm.Alike.refl u.vm
  exact ⟨h.1.moved ha, h.2.1.moved ha, h.2.2.1.moved ha, fun i hi => (h.2.2.2 i hi).same hv⟩
/-- a method of the JDK's that only answers -/
def CX (l : Launch) (adK adV : Nat → Nat) (A : Nat → Prop) (y : MethodName) (cc : ByteArray) (nL : Nat) (ret : Option FieldType) (fr lo : Nat) (as : List Value) (v : Option Value) : Prop :=
  Met l y (Cond.code y cc nL ret :: GG) { frames := fr, cells := 0, slots := 0, locals := lo } (va_Pc as (fun U => SCx adK adV A U U.heap)) (fun _ st oc t => oc = .returned v ∧ t.heap = st.heap) 0 0 (fun _ => False)
theorem CX.blind {adK adV : Nat → Nat} {A : Nat → Prop} {as : List Value} : FrameBlind (va_Pc as (fun U => SCx adK adV A U U.heap)) := fun a U g mk q => ⟨q.1, SCx.same (u := U) (U := U.calling g mk a) rfl q.2⟩
section CXW
variable {p : Program} {l : Launch} {e : Env} {R : Room} {s : State} {m : MethodId} {args : Array Value} {below : List Frame} {meth : Method} {c : Code} {H : Heap} {locs : List Loc} {cells slots : Nat} {Q : State → Prop}
variable {cc : ByteArray} {pc : Nat} {ls : Array Slot} {rest st0 : List Value} {adK adV : Nat → Nat} {A : Nat → Prop} {v : Option Value}
theorem callx {a : Array Value} (hr : va_Run p l e R s m args below meth c H locs cells slots 0 0 (F0 m pc ls st0) rest ((fun (_ : Array Value) (st : State) (oc : Outcome) (t : State) => oc = .returned v ∧ t.heap = st.heap) a) (fun _ => False))
    (kk : W p l e R s m args below meth c H locs cells slots Q (F0 m (pc + 3) ls (v.toList ++ rest))) : W p l e R s m args below meth c H locs cells slots Q (F0 m pc ls st0) := by
  intro T hT X
  obtain ⟨v', st₀, t, T', L, h0, X', hL, e1, e2, ⟨hv, hh⟩, st⟩ := hr T hT X
  cases hv
  have hL0 : L = [] := by
    cases L with
    | nil => rfl
    | cons q L => exact (hL q List.mem_cons_self).elim
  subst hL0
  rw [List.append_nil] at X'
  obtain ⟨t2, a1, b1⟩ := kk T' (by rw [e1, hh, h0]) X'
  exact ⟨t2, st t2 a1, b1⟩
variable {y : MethodName} {bytes : ByteArray} {maxL nL n index fr lo : Nat} {ret : Option FieldType} {own C : String} {As : List Value}
theorem callxV (S : CallFix p m c cc nL s args GG own) (hE : SCx adK adV A s s.heap) (hS : va_S A s.heap H locs) {i : Nat} (hi : i < 7) (hM : CX l adK adV A y bytes maxL ret fr lo (.ref (adK i) :: As) v) (ok : MOK "java/lang/String" y bytes maxL ret n) (h1 : Cond.methodLink own index y ∈ GG)
    (hR : fr + 1 ≤ R.frames ∧ 8 + (maxL + 11) + lo ≤ R.locals) (hn : As.length = n) (hsize : ls.size = nL) (hstack : st0 = As.reverse ++ .ref (adK i) :: rest) (hW : (rest.map fun v => v.category).sum ≤ 8) (hf : cells ≤ R.cells ∧ slots ≤ R.slots) (hdg : decode cc pc = .ok (.invokevirtual index, 3))
    (kk : W p l e R s m args below meth c H locs cells slots Q (F0 m (pc + 3) ls (v.toList ++ rest))) : W p l e R s m args below meth c H locs cells slots Q (F0 m pc ls st0) := by
  obtain ⟨o1, o2, o3, o4, o5⟩ := ok
  exact callx (a := #[]) (va_runV (As := As) (rest := rest) S hM (cwV n S.2.2.2.2 (GG_inV h1 o1 o2 o3 o4) rfl rfl rfl o5 hR) ⟨CX.blind, vk_recv hE.1 hi hS, fun U hU hW => ⟨rfl, by show SCx adK adV A U U.heap; rw [hU]; exact (hE.kept hS.2.1).warm hW⟩⟩ rfl hn hsize hstack (lv_room hW) hdg hf) kk
theorem callxS (S : CallFix p m c cc nL s args GG own) (hE : SCx adK adV A s s.heap) (hS : va_S A s.heap H locs) (hM : CX l adK adV A y bytes maxL ret fr lo As v) (ok : SOK y bytes maxL ret n) (h1 : Cond.methodLink own index y ∈ GG)
    (hR : fr + 1 ≤ R.frames ∧ 8 + (maxL + 11) + lo ≤ R.locals) (hn : As.length = n) (hsize : ls.size = nL) (hstack : st0 = As.reverse ++ rest) (hW : (rest.map fun v => v.category).sum ≤ 8) (hf : cells ≤ R.cells ∧ slots ≤ R.slots) (hdg : decode cc pc = .ok (.invokestatic index, 3))
    (kk : W p l e R s m args below meth c H locs cells slots Q (F0 m (pc + 3) ls (v.toList ++ rest))) : W p l e R s m args below meth c H locs cells slots Q (F0 m pc ls st0) := by
  obtain ⟨o1, o2, o3, o4⟩ := ok
  exact callx (a := #[]) (va_runS (As := As) (rest := rest) S hM (va_cwS n S.2.2.2.2 (GG_inS h1 o1 o2 o3) rfl rfl rfl o4 hR) ⟨CX.blind, fun U hU hW => ⟨rfl, by show SCx adK adV A U U.heap; rw [hU]; exact (hE.kept hS.2.1).warm hW⟩⟩ rfl hn hsize hstack (lv_room hW) hdg hf) kk
theorem CX.of (hy : plainName y.cls = true) (hlen : (lg_sl As).length ≤ maxL)
    (h : ∀ (p : Program) (e : Env) (s : State) (m : MethodId) (args : Array Value) (below : List Frame) (meth : Method) (c : Code), p.tables.exec = Jvm.exec → c.code = bytes → meth.sig.returnType = ret → (∀ w ∈ GG, w.before args s = true) → s.vm.findClass y.cls = some m.cls → meth.locks = false → c.maxLocals = maxL → SCx adK adV A s s.heap → va_S A s.heap s.heap [] → ∀ ls : Array Slot, lv_has ls maxL (lv_args 0 As) → W p l e { frames := fr, cells := 0, slots := 0, locals := lo } s m args below meth c s.heap [] 0 0 (MQ below (fun _ st oc t => oc = .returned v ∧ t.heap = st.heap) args s 0 0 (fun _ => False)) (F0 m 0 ls [])) :
    CX l adK adV A y bytes maxL ret fr lo As v := by
  refine Met.ofW (cc := bytes) (maxL := maxL) (ret := ret) hy rfl ?_
  intro p e s m args below meth c s₁ B hml hv
  obtain ⟨rfl, hE⟩ := hv
  have hts := atoms_spec (ws := Cond.code y bytes maxL ret :: GG) B.pre
  have hl := lv_entry As (n := maxL) hlen
  rw [lg_entry_eq]
  exact h p e s m As.toArray below meth c B.exec B.bytes B.returns (fun w hw => hts w (List.mem_cons_of_mem _ hw)) (findClass_of_methodNamed B.named) B.notSynchronized hml hE va_S.rf _ hl
theorem xret_z {x : Int32} {ty : FieldType} (hexec : p.tables.exec = Jvm.exec) (hb : c.code = cc) (hr : meth.sig.returnType = some ty) (hlk : meth.locks = false) (hn : narrow ty (.int x) = .int x) (hv : v = some (.int x)) (hdg : decode cc pc = .ok (.ireturn, 1)) : W p l e R s m args below meth c s.heap [] cells slots (MQ below (fun _ st oc t => oc = .returned v ∧ t.heap = st.heap) args s cells slots (fun _ => False)) (F0 m pc ls [.int x]) := by
  subst hv
  exact W.zret hexec hb hr hn (fun t ht hW => ⟨rfl, ht⟩) (fun _ h => by cases h) hdg hlk
theorem xret_v (hexec : p.tables.exec = Jvm.exec) (hb : c.code = cc) (hr : meth.sig.returnType = none) (hlk : meth.locks = false) (hv : v = none) (hdg : decode cc pc = .ok (.return_, 1)) : W p l e R s m args below meth c s.heap [] cells slots (MQ below (fun _ st oc t => oc = .returned v ∧ t.heap = st.heap) args s cells slots (fun _ => False)) (F0 m pc ls []) := by
  subst hv
  exact W.vret hexec hb hr (fun t ht hW => ⟨rfl, ht⟩) (fun _ h => by cases h) hdg hlk
end CXW
theorem ok_J_coder : MOK "java/lang/String" yJ0_coder_7d493 cJ0_coder_7d493 1 (Option.some FieldType.byte) 0 := ⟨gw_428, gw_429, gw_69, gw_430, by decide +kernel⟩
theorem ok_J_length : MOK "java/lang/String" yJ0_length_8abf5 cJ0_length_8abf5 1 (Option.some FieldType.int) 0 := ⟨gw_424, gw_425, gw_69, gw_426, by decide +kernel⟩
theorem ok_J_isLatin1 : MOK "java/lang/String" yJ0_isLatin1_aae02 cJ0_isLatin1_aae02 1 (Option.some FieldType.boolean) 0 := ⟨gw_438, gw_439, gw_69, gw_440, by decide +kernel⟩
theorem ok_J_checkP : SOK yJ3_checkIndex_8e157 cJ3_checkIndex_8e157 3 (Option.some FieldType.int) 3 := ⟨gw_450, gw_71, gw_451, by decide +kernel⟩
theorem ok_J_checkS : SOK yJ0_checkIndex_df160 cJ0_checkIndex_df160 2 (Option.none : Option FieldType) 2 := ⟨gw_445, gw_69, gw_446, by decide +kernel⟩
theorem ok_J_charL : SOK yJ1_charAt_3b067 cJ1_charAt_3b067 2 (Option.some FieldType.char) 2 := ⟨gw_442, gw_70, gw_443, by decide +kernel⟩
theorem ok_J_charAt : MOK "java/lang/String" yJ0_charAt_5068e cJ0_charAt_5068e 2 (Option.some FieldType.char) 1 := ⟨gw_434, gw_435, gw_69, gw_436, by decide +kernel⟩
set_option maxHeartbeats 4000000 in
set_option maxRecDepth 100000 in
theorem c_J_coder (l : Launch) (adK adV : Nat → Nat) (A : Nat → Prop) {i : Nat} (hi : i < 7) : CX l adK adV A yJ0_coder_7d493 cJ0_coder_7d493 1 (Option.some FieldType.byte) 0 0 [.ref (adK i)] (some (.int 0)) := by
  refine CX.of (by decide) (Nat.le_of_ble_eq_true rfl) ?_
  intro p e s m args below meth c hx hb hr ht hown hlk hml hE hS ls hl
  have hl : lv_has ls 1 [(0, .ref (adK i))] := hl
  refine va_gets hx hb hE.2.1 hS hown (ht _ gw_431) (fun _ h9 => h9) dJ0_coder_7d493_0 ?_
  refine lv_if_eq (tgt := 13) hx hb dJ0_coder_7d493_3 (by decide) (fun c => absurd c (by decide)) (fun _ => ?_)
  refine lv_aload_n hx hb dJ0_coder_7d493_6 rfl (lv_at hl 0 rfl) ?_
  refine vk_getf hx hb (hE.1.1 i hi).2.1 hS hown (ht _ gw_1258) (fun _ h9 => h9) dJ0_coder_7d493_7 ?_
  refine lv_goto (tgt := 14) hx hb dJ0_coder_7d493_10 (by decide) ?_
  exact xret_z hx hb hr hlk rfl rfl dJ0_coder_7d493_14

theorem shr0 (x : Int32) : x >>> ((0 : Int32) &&& 31) = x := sb_shr0 x
theorem lenJ_lt : ∀ i, i < 7 → lenJ.getD i 0 < 2 ^ 31 := by decide
set_option maxHeartbeats 4000000 in
set_option maxRecDepth 100000 in
theorem c_J_length (l : Launch) (adK adV : Nat → Nat) (A : Nat → Prop) {i : Nat} (hi : i < 7) : CX l adK adV A yJ0_length_8abf5 cJ0_length_8abf5 1 (Option.some FieldType.int) 1 20 [.ref (adK i)] (some (.int (nI (lenJ.getD i 0)))) := by
  refine CX.of (by decide) (Nat.le_of_ble_eq_true rfl) ?_
  intro p e s m args below meth c hx hb hr ht hown hlk hml hE hS ls hl
  have hl : lv_has ls 1 [(0, .ref (adK i))] := hl
  refine lv_aload_n hx hb dJ0_length_8abf5_0 rfl (lv_at hl 0 rfl) ?_
  refine vk_getf hx hb (hE.1.1 i hi).2.2.1 hS hown (ht _ gw_1257) (fun _ h9 => h9) dJ0_length_8abf5_1 ?_
  refine va_tlen hx hb (hE.1.1 i hi).2.2.2 hS (v := nI (lenJ.getD i 0)) rfl dJ0_length_8abf5_4 ?_
  refine lv_aload_n hx hb dJ0_length_8abf5_5 rfl (lv_at hl 0 rfl) ?_
  refine callxV (y := yJ0_coder_7d493) ⟨hx, hb, hml, hown, ht⟩ hE hS hi (c_J_coder l adK adV A hi) ok_J_coder gw_427 ⟨by decide, by decide⟩ rfl hl.1 rfl (Nat.le_of_ble_eq_true rfl) ⟨by decide, by decide⟩ dJ0_length_8abf5_6 ?_
  refine lv_ishr hx hb dJ0_length_8abf5_9 ?_
  rw [shr0]
  exact xret_z hx hb hr hlk rfl rfl dJ0_length_8abf5_10

set_option maxHeartbeats 4000000 in
set_option maxRecDepth 100000 in
theorem c_J_isLatin1 (l : Launch) (adK adV : Nat → Nat) (A : Nat → Prop) {i : Nat} (hi : i < 7) : CX l adK adV A yJ0_isLatin1_aae02 cJ0_isLatin1_aae02 1 (Option.some FieldType.boolean) 0 0 [.ref (adK i)] (some (.int 1)) := by
  refine CX.of (by decide) (Nat.le_of_ble_eq_true rfl) ?_
  intro p e s m args below meth c hx hb hr ht hown hlk hml hE hS ls hl
  have hl : lv_has ls 1 [(0, .ref (adK i))] := hl
  refine va_gets hx hb hE.2.1 hS hown (ht _ gw_431) (fun _ h9 => h9) dJ0_isLatin1_aae02_0 ?_
  refine lv_if_eq (tgt := 17) hx hb dJ0_isLatin1_aae02_3 (by decide) (fun c => absurd c (by decide)) (fun _ => ?_)
  refine lv_aload_n hx hb dJ0_isLatin1_aae02_6 rfl (lv_at hl 0 rfl) ?_
  refine vk_getf hx hb (hE.1.1 i hi).2.1 hS hown (ht _ gw_1258) (fun _ h9 => h9) dJ0_isLatin1_aae02_7 ?_
  refine lv_if_ne (tgt := 17) hx hb dJ0_isLatin1_aae02_10 (by decide) (fun c => absurd rfl c) (fun _ => ?_)
  refine lv_iconst (v := 1) hx hb dJ0_isLatin1_aae02_13 (by decide) ?_
  refine lv_goto (tgt := 18) hx hb dJ0_isLatin1_aae02_14 (by decide) ?_
  exact xret_z hx hb hr hlk rfl rfl dJ0_isLatin1_aae02_18

set_option maxHeartbeats 4000000 in
set_option maxRecDepth 100000 in
theorem c_J_checkP (l : Launch) (adK adV : Nat → Nat) (A : Nat → Prop) {x n : Int32} {f : Value} (hf : f = .null ∨ ∃ t, f = .ref t) (h0 : ¬ x < 0) (h1 : x < n) : CX l adK adV A yJ3_checkIndex_8e157 cJ3_checkIndex_8e157 3 (Option.some FieldType.int) 0 0 [.int x, .int n, f] (some (.int x)) := by
  refine CX.of (by decide) (by rcases hf with rfl | ⟨t, rfl⟩ <;> exact Nat.le_of_ble_eq_true rfl) ?_
  intro p e s m args below meth c hx hb hr ht hown hlk hml hE hS ls hl
  have hl : lv_has ls 3 [(0, .int x), (1, .int n), (2, f)] := by rcases hf with rfl | ⟨t, rfl⟩ <;> exact hl
  refine lv_iload_n hx hb dJ3_checkIndex_8e157_0 rfl (lv_at hl 0 rfl) ?_
  refine lv_if_lt (tgt := 9) hx hb dJ3_checkIndex_8e157_1 (by decide) (fun c => absurd c h0) (fun _ => ?_)
  refine lv_iload_n hx hb dJ3_checkIndex_8e157_4 rfl (lv_at hl 0 rfl) ?_
  refine lv_iload_n hx hb dJ3_checkIndex_8e157_5 rfl (lv_at hl 1 rfl) ?_
  refine lv_icmp_lt (tgt := 16) hx hb dJ3_checkIndex_8e157_6 (by decide) (fun _ => ?_) (fun c => absurd h1 c)
  refine lv_iload_n hx hb dJ3_checkIndex_8e157_16 rfl (lv_at hl 0 rfl) ?_
  exact xret_z hx hb hr hlk rfl rfl dJ3_checkIndex_8e157_17

set_option maxHeartbeats 4000000 in
set_option maxRecDepth 100000 in
theorem c_J_checkS (l : Launch) (adK adV : Nat → Nat) (A : Nat → Prop) {x n : Int32} (h0 : ¬ x < 0) (h1 : x < n) : CX l adK adV A yJ0_checkIndex_df160 cJ0_checkIndex_df160 2 (Option.none : Option FieldType) 1 22 [.int x, .int n] (none) := by
  refine CX.of (by decide) (Nat.le_of_ble_eq_true rfl) ?_
  intro p e s m args below meth c hx hb hr ht hown hlk hml hE hS ls hl
  have hl : lv_has ls 2 [(0, .int x), (1, .int n)] := hl
  refine lv_iload_n hx hb dJ0_checkIndex_df160_0 rfl (lv_at hl 0 rfl) ?_
  refine lv_iload_n hx hb dJ0_checkIndex_df160_1 rfl (lv_at hl 1 rfl) ?_
  rcases hE.2.2.1 with hZ | ⟨t, hZ⟩
  · refine va_gets hx hb hZ hS hown (ht _ gw_447) (fun _ h9 => h9) dJ0_checkIndex_df160_2 ?_
    refine callxS (y := yJ3_checkIndex_8e157) ⟨hx, hb, hml, hown, ht⟩ hE hS (c_J_checkP l adK adV A (f := .null) (Or.inl rfl) h0 h1) ok_J_checkP gw_449 ⟨by decide, by decide⟩ rfl hl.1 rfl (Nat.le_of_ble_eq_true rfl) ⟨by decide, by decide⟩ dJ0_checkIndex_df160_5 ?_
    refine lv_pop hx hb dJ0_checkIndex_df160_8 rfl ?_
    exact xret_v hx hb hr hlk rfl dJ0_checkIndex_df160_9
  · refine va_gets hx hb hZ hS hown (ht _ gw_447) (fun _ h9 => h9) dJ0_checkIndex_df160_2 ?_
    refine callxS (y := yJ3_checkIndex_8e157) ⟨hx, hb, hml, hown, ht⟩ hE hS (c_J_checkP l adK adV A (f := .ref t) (Or.inr ⟨_, rfl⟩) h0 h1) ok_J_checkP gw_449 ⟨by decide, by decide⟩ rfl hl.1 rfl (Nat.le_of_ble_eq_true rfl) ⟨by decide, by decide⟩ dJ0_checkIndex_df160_5 ?_
    refine lv_pop hx hb dJ0_checkIndex_df160_8 rfl ?_
    exact xret_v hx hb hr hlk rfl dJ0_checkIndex_df160_9

def chJ (i k : Nat) : Int32 := (bytJ.getD i []).getD k 0
theorem chJ_ok : ∀ i, i < 7 → ∀ k, k < lenJ.getD i 0 → ((chJ i k &&& 255).toUInt32 % 65536).toInt32 = chJ i k ∧ narrow .char (.int (chJ i k)) = .int (chJ i k) := by decide
set_option maxHeartbeats 4000000 in
set_option maxRecDepth 100000 in
theorem c_J_charL (l : Launch) (adK adV : Nat → Nat) (A : Nat → Prop) {i k : Nat} (hi : i < 7) (hk : k < lenJ.getD i 0) : CX l adK adV A yJ1_charAt_3b067 cJ1_charAt_3b067 2 (Option.some FieldType.char) 2 43 [.ref (adV i), .int (nI k)] (some (.int (chJ i k))) := by
  refine CX.of (by decide) (Nat.le_of_ble_eq_true rfl) ?_
  intro p e s m args below meth c hx hb hr ht hown hlk hml hE hS ls hl
  have hl : lv_has ls 2 [(0, .ref (adV i)), (1, .int (nI k))] := hl
  obtain ⟨hc1, hc2⟩ := chJ_ok i hi k hk
  have hl31 := lenJ_lt i hi
  refine lv_iload_n hx hb dJ1_charAt_3b067_0 rfl (lv_at hl 1 rfl) ?_
  refine lv_aload_n hx hb dJ1_charAt_3b067_1 rfl (lv_at hl 0 rfl) ?_
  refine va_tlen hx hb (hE.1.1 i hi).2.2.2 hS (v := nI (lenJ.getD i 0)) rfl dJ1_charAt_3b067_2 ?_
  refine callxS (y := yJ0_checkIndex_df160) ⟨hx, hb, hml, hown, ht⟩ hE hS (c_J_checkS l adK adV A (x := nI k) (n := nI (lenJ.getD i 0)) (nI_pos (by omega)) (nI_lt hk (by omega))) ok_J_checkS gw_444 ⟨by decide, by decide⟩ rfl hl.1 rfl (Nat.le_of_ble_eq_true rfl) ⟨by decide, by decide⟩ dJ1_charAt_3b067_3 ?_
  refine lv_aload_n hx hb dJ1_charAt_3b067_6 rfl (lv_at hl 0 rfl) ?_
  refine lv_iload_n hx hb dJ1_charAt_3b067_7 rfl (lv_at hl 1 rfl) ?_
  refine va_tb hx hb (hE.1.1 i hi).2.2.2 hS (vp_in_nI hk (by omega)) (v := .int (chJ i k)) (by rw [nI_clamp (by omega)]; rfl) dJ1_charAt_3b067_8 ?_
  refine lv_sipush (v := 255) hx hb dJ1_charAt_3b067_9 (by decide) ?_
  refine lv_iand hx hb dJ1_charAt_3b067_12 ?_
  refine lv_i2c (v := chJ i k) hx hb dJ1_charAt_3b067_13 hc1 ?_
  exact xret_z hx hb hr hlk hc2 rfl dJ1_charAt_3b067_14

set_option maxHeartbeats 4000000 in
set_option maxRecDepth 100000 in
theorem c_J_charAt (l : Launch) (adK adV : Nat → Nat) (A : Nat → Prop) {i k : Nat} (hi : i < 7) (hk : k < lenJ.getD i 0) : CX l adK adV A yJ0_charAt_5068e cJ0_charAt_5068e 2 (Option.some FieldType.char) 3 64 [.ref (adK i), .int (nI k)] (some (.int (chJ i k))) := by
  refine CX.of (by decide) (Nat.le_of_ble_eq_true rfl) ?_
  intro p e s m args below meth c hx hb hr ht hown hlk hml hE hS ls hl
  have hl : lv_has ls 2 [(0, .ref (adK i)), (1, .int (nI k))] := hl
  obtain ⟨hc1, hc2⟩ := chJ_ok i hi k hk
  refine lv_aload_n hx hb dJ0_charAt_5068e_0 rfl (lv_at hl 0 rfl) ?_
  refine callxV (y := yJ0_isLatin1_aae02) ⟨hx, hb, hml, hown, ht⟩ hE hS hi (c_J_isLatin1 l adK adV A hi) ok_J_isLatin1 gw_437 ⟨by decide, by decide⟩ rfl hl.1 rfl (Nat.le_of_ble_eq_true rfl) ⟨by decide, by decide⟩ dJ0_charAt_5068e_1 ?_
  refine lv_if_eq (tgt := 16) hx hb dJ0_charAt_5068e_4 (by decide) (fun c => absurd c (by decide)) (fun _ => ?_)
  refine lv_aload_n hx hb dJ0_charAt_5068e_7 rfl (lv_at hl 0 rfl) ?_
  refine vk_getf hx hb (hE.1.1 i hi).2.2.1 hS hown (ht _ gw_1257) (fun _ h9 => h9) dJ0_charAt_5068e_8 ?_
  refine lv_iload_n hx hb dJ0_charAt_5068e_11 rfl (lv_at hl 1 rfl) ?_
  refine callxS (y := yJ1_charAt_3b067) ⟨hx, hb, hml, hown, ht⟩ hE hS (c_J_charL l adK adV A hi hk) ok_J_charL gw_441 ⟨by decide, by decide⟩ rfl hl.1 rfl (Nat.le_of_ble_eq_true rfl) ⟨by decide, by decide⟩ dJ0_charAt_5068e_12 ?_
  exact xret_z hx hb hr hlk hc2 rfl dJ0_charAt_5068e_15
