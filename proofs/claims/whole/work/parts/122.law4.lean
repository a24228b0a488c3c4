/-! ===== the law's cases ===== -/
theorem cmp_self (x : Int64) : lg_cmp x x = 0 := by
  unfold lg_cmp
  simp
theorem o_get {p : Program} {l : Launch} {e : Env} {R : Room} {s : State} {m : MethodId} {args : Array Value} {below : List Frame} {meth : Method} {c : Code} {H : Heap} {locs : List Loc} {cells slots : Nat} {Q : State → Prop} {cc : ByteArray} {pc : Nat} {ls : Array Slot} {rest : List Value} {D : va_G} {ca : Nat → ClassId} {q0 : Nat} {f : Nat → Int64} (hexec : p.tables.exec = Jvm.exec) (hb : c.code = cc) (hK : va_K D vwCl (TY ca) s) (ho : va_at D vwCl (q0, oE ca f) H) (hdg : decode cc pc = .ok (.laload, 1))
    (kk : W p l e R s m args below meth c H locs cells slots Q (F0 m (pc + 1) ls (.long (f 0) :: rest))) : W p l e R s m args below meth c H locs cells slots Q (F0 m pc ls (.int 0 :: .ref q0 :: rest)) := by
  have h1 : va_P D vwCl [(q0, oE ca f)] H := fun k q hk => by
    have hz : k < 1 := (List.getElem?_eq_some_iff.mp hk).1
    rw [show k = 0 by omega] at hk
    cases hk
    exact ho
  exact va_lald (i := 0) hexec hb hK h1 0 5 rfl rfl (vp_in_nI (n := 0) (by decide) (by decide)) hdg kk
set_option maxHeartbeats 4000000 in
set_option maxRecDepth 100000 in
theorem lw_feed {p : Program} {l : Launch} {e : Env} {s : State} {m : MethodId} {below : List Frame} {meth : Method} {c : Code} {b L : Nat} {xs : Nat → Int32} {D : va_G} {ca : Nat → ClassId} {ad am : Nat → Nat} {q0 : Nat} {adK adV : Nat → Nat} {H : Heap} {locs : List Loc} {cells slots : Nat} {Q : State → Prop} {ls : Array Slot} {σ : MI} {τ : ML} {μ : MI} {υ : ML} {f : Nat → Int64} {i : Nat} (E : LE p l s m meth c b L xs D ca ad am q0 adK adV) (hz : zA σ τ μ) (hW : LWd D ca ad am q0 σ τ μ υ f H) (hS : va_S (A0 s) s.heap H locs) (hi : i + 6 ≤ L) (hl : lv_has ls 8 (LO b ad am q0 i)) (hc : cells + 1 ≤ 601024 ∧ slots + 6 ≤ 7293034) (kont : KO p l e room_1 s m below meth c b D ca ad am q0 i cells slots Q) : W p l e room_1 s m #[Value.ref b] below meth c H locs cells slots Q (F0 m 136 ls []) := by
  have hx := E.1.1
  have hb := E.1.2.1
  have F := E.lay
  obtain ⟨t, et, ht7⟩ := zA_t hz
  refine W.widen (k := cells + 1) (n := slots + 6) (by omega) (by omega) ?_
  refine lv_aload_n hx hb dL_law_136 rfl (lv_at hl 3 rfl) ?_
  refine l_arg (n := 1) (pc := 137) (pc' := 143) E hS hi hl (by decide) (by decide) rfl dL_law_137 dL_law_138 dL_law_140 dL_law_141 dL_law_142 ?_
  refine l_arg (n := 2) (pc := 143) (pc' := 149) E hS hi hl (by decide) (by decide) rfl dL_law_143 dL_law_144 dL_law_146 dL_law_147 dL_law_148 ?_
  refine l_arg (n := 3) (pc := 149) (pc' := 155) E hS hi hl (by decide) (by decide) rfl dL_law_149 dL_law_150 dL_law_152 dL_law_153 dL_law_154 ?_
  refine l_arg (n := 4) (pc := 155) (pc' := 161) E hS hi hl (by decide) (by decide) rfl dL_law_155 dL_law_156 dL_law_158 dL_law_159 dL_law_160 ?_
  refine l_arg (n := 5) (pc := 161) (pc' := 167) E hS hi hl (by decide) (by decide) rfl dL_law_161 dL_law_162 dL_law_164 dL_law_165 dL_law_166 ?_
  refine lcC (y := yX8_feed) (rest := []) E hW hS (c_X8_feed l D ca ad F.1 σ τ (xs (i + 1)) (xs (i + 2)) (xs (i + 3)) (xs (i + 4)) (xs (i + 5))) ok_X8_feed gw_364 ⟨by decide, by decide⟩ rfl hl.1 rfl (Nat.le_of_ble_eq_true rfl) ⟨hc.1, hc.2⟩ dL_law_167 (fun v_ S_ T_ H locs hp hW hS => ?_)
  obtain ⟨rfl, rfl, rfl⟩ := hp
  try dsimp only [Option.toList, List.cons_append, List.nil_append]
  refine lv_aload_n hx hb dL_law_170 rfl (lv_at hl 2 rfl) ?_
  refine l_arg (n := 1) (pc := 171) (pc' := 177) E hS hi hl (by decide) (by decide) rfl dL_law_171 dL_law_172 dL_law_174 dL_law_175 dL_law_176 ?_
  refine l_arg (n := 2) (pc := 177) (pc' := 183) E hS hi hl (by decide) (by decide) rfl dL_law_177 dL_law_178 dL_law_180 dL_law_181 dL_law_182 ?_
  refine l_arg (n := 3) (pc := 183) (pc' := 189) E hS hi hl (by decide) (by decide) rfl dL_law_183 dL_law_184 dL_law_186 dL_law_187 dL_law_188 ?_
  refine l_arg (n := 4) (pc := 189) (pc' := 195) E hS hi hl (by decide) (by decide) rfl dL_law_189 dL_law_190 dL_law_192 dL_law_193 dL_law_194 ?_
  refine l_arg (n := 5) (pc := 195) (pc' := 201) E hS hi hl (by decide) (by decide) rfl dL_law_195 dL_law_196 dL_law_198 dL_law_199 dL_law_200 ?_
  refine lcM (y := yX9_feed) (rest := [.int (feR σ (xs (i + 1)) (xs (i + 2)) (xs (i + 3)) (xs (i + 4)) (xs (i + 5)))]) E hW hS (c_X9_feed l D ca am F.2.1 μ υ (xs (i + 1)) (xs (i + 2)) (xs (i + 3)) (xs (i + 4)) (xs (i + 5)) et ht7) ok_X9_feed gw_921 ⟨by decide, by decide⟩ rfl hl.1 rfl (Nat.le_of_ble_eq_true rfl) ⟨hc.1, hc.2⟩ dL_law_201 (fun v_ S_ T_ H locs hp hW hS => ?_)
  obtain ⟨rfl, rfl, rfl⟩ := hp
  try dsimp only [Option.toList, List.cons_append, List.nil_append]
  refine lv_icmp_eq (tgt := 1038) hx hb dL_law_204 (by decide) (fun _ => ?_) (fun q => absurd (zc_feed hz _ _ _ _ _).1 q)
  exact kont _ _ _ _ _ _ _ _ ((zc_feed hz _ _ _ _ _).2) hW hS hl
set_option maxHeartbeats 4000000 in
set_option maxRecDepth 100000 in
theorem lw_end {p : Program} {l : Launch} {e : Env} {s : State} {m : MethodId} {below : List Frame} {meth : Method} {c : Code} {b L : Nat} {xs : Nat → Int32} {D : va_G} {ca : Nat → ClassId} {ad am : Nat → Nat} {q0 : Nat} {adK adV : Nat → Nat} {H : Heap} {locs : List Loc} {cells slots : Nat} {Q : State → Prop} {ls : Array Slot} {σ : MI} {τ : ML} {μ : MI} {υ : ML} {f : Nat → Int64} {i : Nat} (E : LE p l s m meth c b L xs D ca ad am q0 adK adV) (hz : zA σ τ μ) (hW : LWd D ca ad am q0 σ τ μ υ f H) (hS : va_S (A0 s) s.heap H locs) (hi : i + 6 ≤ L) (hl : lv_has ls 8 (LO b ad am q0 i)) (hc : cells + 1 ≤ 601024 ∧ slots + 6 ≤ 7293034) (kont : KO p l e room_1 s m below meth c b D ca ad am q0 i cells slots Q) : W p l e room_1 s m #[Value.ref b] below meth c H locs cells slots Q (F0 m 209 ls []) := by
  have hx := E.1.1
  have hb := E.1.2.1
  have F := E.lay
  refine W.widen (k := cells + 1) (n := slots + 6) (by omega) (by omega) ?_
  refine lv_aload_n hx hb dL_law_209 rfl (lv_at hl 3 rfl) ?_
  refine l_arg (n := 1) (pc := 210) (pc' := 216) E hS hi hl (by decide) (by decide) rfl dL_law_210 dL_law_211 dL_law_213 dL_law_214 dL_law_215 ?_
  refine lcC (y := yX8_end) (rest := []) E hW hS (c_X8_end l D ca ad F.1 σ τ (xs (i + 1))) ok_X8_end gw_372 ⟨by decide, by decide⟩ rfl hl.1 rfl (Nat.le_of_ble_eq_true rfl) ⟨hc.1, hc.2⟩ dL_law_216 (fun v_ S_ T_ H locs hp hW hS => ?_)
  obtain ⟨rfl, rfl, rfl⟩ := hp
  try dsimp only [Option.toList, List.cons_append, List.nil_append]
  refine lv_aload_n hx hb dL_law_219 rfl (lv_at hl 2 rfl) ?_
  refine l_arg (n := 1) (pc := 220) (pc' := 226) E hS hi hl (by decide) (by decide) rfl dL_law_220 dL_law_221 dL_law_223 dL_law_224 dL_law_225 ?_
  refine lcM (y := yX9_end) (rest := [.int (b2i (if (xs (i + 1)) < 0 then false else if (xs (i + 1)) ≤ σ 2 1 then true else false))]) E hW hS (c_X9_end l D ca am F.2.1 μ υ (xs (i + 1))) ok_X9_end gw_930 ⟨by decide, by decide⟩ rfl hl.1 rfl (Nat.le_of_ble_eq_true rfl) ⟨hc.1, hc.2⟩ dL_law_226 (fun v_ S_ T_ H locs hp hW hS => ?_)
  obtain ⟨rfl, rfl, rfl⟩ := hp
  try dsimp only [Option.toList, List.cons_append, List.nil_append]
  refine lv_icmp_eq (tgt := 1038) hx hb dL_law_229 (by decide) (fun _ => ?_) (fun q => absurd (congrArg b2i (zc_end hz _).1) q)
  exact kont _ _ _ _ _ _ _ _ ((zc_end hz _).2) hW hS hl
set_option maxHeartbeats 4000000 in
set_option maxRecDepth 100000 in
theorem lw_text {p : Program} {l : Launch} {e : Env} {s : State} {m : MethodId} {below : List Frame} {meth : Method} {c : Code} {b L : Nat} {xs : Nat → Int32} {D : va_G} {ca : Nat → ClassId} {ad am : Nat → Nat} {q0 : Nat} {adK adV : Nat → Nat} {H : Heap} {locs : List Loc} {cells slots : Nat} {Q : State → Prop} {ls : Array Slot} {σ : MI} {τ : ML} {μ : MI} {υ : ML} {f : Nat → Int64} {i : Nat} (E : LE p l s m meth c b L xs D ca ad am q0 adK adV) (hz : zA σ τ μ) (hW : LWd D ca ad am q0 σ τ μ υ f H) (hS : va_S (A0 s) s.heap H locs) (hi : i + 6 ≤ L) (hl : lv_has ls 8 (LO b ad am q0 i)) (hc : cells + 1 ≤ 601024 ∧ slots + 6 ≤ 7293034) (kont : KO p l e room_1 s m below meth c b D ca ad am q0 i cells slots Q) : W p l e room_1 s m #[Value.ref b] below meth c H locs cells slots Q (F0 m 234 ls []) := by
  have hx := E.1.1
  have hb := E.1.2.1
  have F := E.lay
  obtain ⟨t, et, ht7⟩ := zA_t hz
  refine W.widen (k := cells + 1) (n := slots + 6) (by omega) (by omega) ?_
  refine lv_aload_n hx hb dL_law_234 rfl (lv_at hl 3 rfl) ?_
  refine lcY (y := yX8_text) (rest := []) E hW hS (c_X8_text l D ca ad F.1 adK adV σ τ) ok_X8_text gw_376 ⟨by decide, by decide⟩ rfl hl.1 rfl (Nat.le_of_ble_eq_true rfl) ⟨hc.1, hc.2⟩ dL_law_235 (fun v_ S_ T_ H locs hp hW hS => ?_)
  obtain ⟨rfl, rfl, rfl⟩ := hp
  try dsimp only [Option.toList, List.cons_append, List.nil_append]
  refine lv_aload_n hx hb dL_law_238 rfl (lv_at hl 2 rfl) ?_
  refine lcM (y := yX9_text) (rest := [.int ((txP σ).1)]) E hW hS (c_X9_text l D ca am F.2.1 μ υ et ht7 (zA_67 hz)) ok_X9_text gw_992 ⟨by decide, by decide⟩ rfl hl.1 rfl (Nat.le_of_ble_eq_true rfl) ⟨hc.1, hc.2⟩ dL_law_239 (fun v_ S_ T_ H locs hp hW hS => ?_)
  obtain ⟨rfl, rfl, rfl⟩ := hp
  try dsimp only [Option.toList, List.cons_append, List.nil_append]
  refine lv_icmp_eq (tgt := 1038) hx hb dL_law_242 (by decide) (fun _ => ?_) (fun q => absurd (z_text υ hz).1 q)
  exact kont _ _ _ _ _ _ _ _ ((z_text υ hz).2) hW hS hl
set_option maxHeartbeats 4000000 in
set_option maxRecDepth 100000 in
theorem lw_fault {p : Program} {l : Launch} {e : Env} {s : State} {m : MethodId} {below : List Frame} {meth : Method} {c : Code} {b L : Nat} {xs : Nat → Int32} {D : va_G} {ca : Nat → ClassId} {ad am : Nat → Nat} {q0 : Nat} {adK adV : Nat → Nat} {H : Heap} {locs : List Loc} {cells slots : Nat} {Q : State → Prop} {ls : Array Slot} {σ : MI} {τ : ML} {μ : MI} {υ : ML} {f : Nat → Int64} {i : Nat} (E : LE p l s m meth c b L xs D ca ad am q0 adK adV) (hz : zA σ τ μ) (hW : LWd D ca ad am q0 σ τ μ υ f H) (hS : va_S (A0 s) s.heap H locs) (hi : i + 6 ≤ L) (hl : lv_has ls 8 (LO b ad am q0 i)) (hc : cells + 1 ≤ 601024 ∧ slots + 6 ≤ 7293034) (kont : KO p l e room_1 s m below meth c b D ca ad am q0 i cells slots Q) : W p l e room_1 s m #[Value.ref b] below meth c H locs cells slots Q (F0 m 247 ls []) := by
  have hx := E.1.1
  have hb := E.1.2.1
  have F := E.lay
  refine W.widen (k := cells + 1) (n := slots + 6) (by omega) (by omega) ?_
  refine lv_aload_n hx hb dL_law_247 rfl (lv_at hl 3 rfl) ?_
  refine lcC (y := yX8_fault) (rest := []) E hW hS (c_X8_fault l D ca ad F.1 σ τ ) ok_X8_fault gw_589 ⟨by decide, by decide⟩ rfl hl.1 rfl (Nat.le_of_ble_eq_true rfl) ⟨hc.1, hc.2⟩ dL_law_248 (fun v_ S_ T_ H locs hp hW hS => ?_)
  obtain ⟨rfl, rfl, rfl⟩ := hp
  try dsimp only [Option.toList, List.cons_append, List.nil_append]
  refine lv_aload_n hx hb dL_law_251 rfl (lv_at hl 2 rfl) ?_
  refine lcM (y := yX9_fault) (rest := [.int (σ 1 5)]) E hW hS (c_X9_fault l D ca am F.2.1 μ υ) ok_X9_fault gw_1081 ⟨by decide, by decide⟩ rfl hl.1 rfl (Nat.le_of_ble_eq_true rfl) ⟨hc.1, hc.2⟩ dL_law_252 (fun v_ S_ T_ H locs hp hW hS => ?_)
  obtain ⟨rfl, rfl, rfl⟩ := hp
  try dsimp only [Option.toList, List.cons_append, List.nil_append]
  refine lv_icmp_eq (tgt := 1038) hx hb dL_law_255 (by decide) (fun _ => ?_) (fun q => absurd (zc_fault hz) q)
  exact kont _ _ _ _ _ _ _ _ (zA_0 hz 0) hW hS hl
set_option maxHeartbeats 4000000 in
set_option maxRecDepth 100000 in
theorem lw_now {p : Program} {l : Launch} {e : Env} {s : State} {m : MethodId} {below : List Frame} {meth : Method} {c : Code} {b L : Nat} {xs : Nat → Int32} {D : va_G} {ca : Nat → ClassId} {ad am : Nat → Nat} {q0 : Nat} {adK adV : Nat → Nat} {H : Heap} {locs : List Loc} {cells slots : Nat} {Q : State → Prop} {ls : Array Slot} {σ : MI} {τ : ML} {μ : MI} {υ : ML} {f : Nat → Int64} {i : Nat} (E : LE p l s m meth c b L xs D ca ad am q0 adK adV) (hz : zA σ τ μ) (hW : LWd D ca ad am q0 σ τ μ υ f H) (hS : va_S (A0 s) s.heap H locs) (hi : i + 6 ≤ L) (hl : lv_has ls 8 (LO b ad am q0 i)) (hc : cells + 1 ≤ 601024 ∧ slots + 6 ≤ 7293034) (kont : KO p l e room_1 s m below meth c b D ca ad am q0 i cells slots Q) : W p l e room_1 s m #[Value.ref b] below meth c H locs cells slots Q (F0 m 260 ls []) := by
  have hx := E.1.1
  have hb := E.1.2.1
  have F := E.lay
  refine W.widen (k := cells + 1) (n := slots + 6) (by omega) (by omega) ?_
  refine lv_aload_n hx hb dL_law_260 rfl (lv_at hl 3 rfl) ?_
  refine l_arg (n := 1) (pc := 261) (pc' := 267) E hS hi hl (by decide) (by decide) rfl dL_law_261 dL_law_262 dL_law_264 dL_law_265 dL_law_266 ?_
  refine lcC (y := yX8_now) (rest := []) E hW hS (c_X8_now l D ca ad F.1 σ τ (xs (i + 1))) ok_X8_now gw_593 ⟨by decide, by decide⟩ rfl hl.1 rfl (Nat.le_of_ble_eq_true rfl) ⟨hc.1, hc.2⟩ dL_law_267 (fun v_ S_ T_ H locs hp hW hS => ?_)
  obtain ⟨rfl, rfl, rfl⟩ := hp
  try dsimp only [Option.toList, List.cons_append, List.nil_append]
  refine lv_aload_n hx hb dL_law_270 rfl (lv_at hl 2 rfl) ?_
  refine l_arg (n := 1) (pc := 271) (pc' := 277) E hS hi hl (by decide) (by decide) rfl dL_law_271 dL_law_272 dL_law_274 dL_law_275 dL_law_276 ?_
  refine lcM (y := yX9_now) (rest := [.int (nowS σ (xs (i + 1)))]) E hW hS (c_X9_now l D ca am F.2.1 μ υ (zA_RI hz) (xs (i + 1))) ok_X9_now gw_1085 ⟨by decide, by decide⟩ rfl hl.1 rfl (Nat.le_of_ble_eq_true rfl) ⟨hc.1, hc.2⟩ dL_law_277 (fun v_ S_ T_ H locs hp hW hS => ?_)
  obtain ⟨rfl, rfl, rfl⟩ := hp
  try dsimp only [Option.toList, List.cons_append, List.nil_append]
  refine lv_icmp_eq (tgt := 1038) hx hb dL_law_280 (by decide) (fun _ => ?_) (fun q => absurd (zc_now hz _) q)
  exact kont _ _ _ _ _ _ _ _ (zA_0 hz 0) hW hS hl
set_option maxHeartbeats 4000000 in
set_option maxRecDepth 100000 in
theorem lw_value {p : Program} {l : Launch} {e : Env} {s : State} {m : MethodId} {below : List Frame} {meth : Method} {c : Code} {b L : Nat} {xs : Nat → Int32} {D : va_G} {ca : Nat → ClassId} {ad am : Nat → Nat} {q0 : Nat} {adK adV : Nat → Nat} {H : Heap} {locs : List Loc} {cells slots : Nat} {Q : State → Prop} {ls : Array Slot} {σ : MI} {τ : ML} {μ : MI} {υ : ML} {f : Nat → Int64} {i : Nat} (E : LE p l s m meth c b L xs D ca ad am q0 adK adV) (hz : zA σ τ μ) (hW : LWd D ca ad am q0 σ τ μ υ f H) (hS : va_S (A0 s) s.heap H locs) (hi : i + 6 ≤ L) (hl : lv_has ls 8 (LO b ad am q0 i)) (hc : cells + 1 ≤ 601024 ∧ slots + 6 ≤ 7293034) (kont : KO p l e room_1 s m below meth c b D ca ad am q0 i cells slots Q) : W p l e room_1 s m #[Value.ref b] below meth c H locs cells slots Q (F0 m 285 ls []) := by
  have hx := E.1.1
  have hb := E.1.2.1
  have F := E.lay
  refine W.widen (k := cells + 1) (n := slots + 6) (by omega) (by omega) ?_
  refine lv_aload_n hx hb dL_law_285 rfl (lv_at hl 3 rfl) ?_
  refine l_arg (n := 1) (pc := 286) (pc' := 292) E hS hi hl (by decide) (by decide) rfl dL_law_286 dL_law_287 dL_law_289 dL_law_290 dL_law_291 ?_
  refine l_arg (n := 2) (pc := 292) (pc' := 298) E hS hi hl (by decide) (by decide) rfl dL_law_292 dL_law_293 dL_law_295 dL_law_296 dL_law_297 ?_
  refine l_arg (n := 3) (pc := 298) (pc' := 304) E hS hi hl (by decide) (by decide) rfl dL_law_298 dL_law_299 dL_law_301 dL_law_302 dL_law_303 ?_
  refine lcC (y := yX8_value) (rest := []) E hW hS (c_X8_value l D ca ad F.1 σ τ (xs (i + 1)) (xs (i + 2)) (xs (i + 3))) ok_X8_value gw_605 ⟨by decide, by decide⟩ rfl hl.1 rfl (Nat.le_of_ble_eq_true rfl) ⟨hc.1, hc.2⟩ dL_law_304 (fun v_ S_ T_ H locs hp hW hS => ?_)
  obtain ⟨rfl, rfl, rfl⟩ := hp
  try dsimp only [Option.toList, List.cons_append, List.nil_append]
  refine lv_aload_n hx hb dL_law_307 rfl (lv_at hl 2 rfl) ?_
  refine l_arg (n := 1) (pc := 308) (pc' := 314) E hS hi hl (by decide) (by decide) rfl dL_law_308 dL_law_309 dL_law_311 dL_law_312 dL_law_313 ?_
  refine l_arg (n := 2) (pc := 314) (pc' := 320) E hS hi hl (by decide) (by decide) rfl dL_law_314 dL_law_315 dL_law_317 dL_law_318 dL_law_319 ?_
  refine l_arg (n := 3) (pc := 320) (pc' := 326) E hS hi hl (by decide) (by decide) rfl dL_law_320 dL_law_321 dL_law_323 dL_law_324 dL_law_325 ?_
  refine lcM (y := yX9_value) (rest := [.int (valuS σ (xs (i + 1)) (xs (i + 2)) (xs (i + 3)))]) E hW hS (c_X9_value l D ca am F.2.1 μ υ (zA_RI hz) (xs (i + 1)) (xs (i + 2)) (xs (i + 3))) ok_X9_value gw_1101 ⟨by decide, by decide⟩ rfl hl.1 rfl (Nat.le_of_ble_eq_true rfl) ⟨hc.1, hc.2⟩ dL_law_326 (fun v_ S_ T_ H locs hp hW hS => ?_)
  obtain ⟨rfl, rfl, rfl⟩ := hp
  try dsimp only [Option.toList, List.cons_append, List.nil_append]
  refine lv_icmp_eq (tgt := 1038) hx hb dL_law_329 (by decide) (fun _ => ?_) (fun q => absurd (zc_value hz _ _ _) q)
  exact kont _ _ _ _ _ _ _ _ (zA_0 hz 0) hW hS hl
set_option maxHeartbeats 4000000 in
set_option maxRecDepth 100000 in
theorem lw_rebased {p : Program} {l : Launch} {e : Env} {s : State} {m : MethodId} {below : List Frame} {meth : Method} {c : Code} {b L : Nat} {xs : Nat → Int32} {D : va_G} {ca : Nat → ClassId} {ad am : Nat → Nat} {q0 : Nat} {adK adV : Nat → Nat} {H : Heap} {locs : List Loc} {cells slots : Nat} {Q : State → Prop} {ls : Array Slot} {σ : MI} {τ : ML} {μ : MI} {υ : ML} {f : Nat → Int64} {i : Nat} (E : LE p l s m meth c b L xs D ca ad am q0 adK adV) (hz : zA σ τ μ) (hW : LWd D ca ad am q0 σ τ μ υ f H) (hS : va_S (A0 s) s.heap H locs) (hi : i + 6 ≤ L) (hl : lv_has ls 8 (LO b ad am q0 i)) (hc : cells + 1 ≤ 601024 ∧ slots + 6 ≤ 7293034) (kont : KO p l e room_1 s m below meth c b D ca ad am q0 i cells slots Q) : W p l e room_1 s m #[Value.ref b] below meth c H locs cells slots Q (F0 m 334 ls []) := by
  have hx := E.1.1
  have hb := E.1.2.1
  have F := E.lay
  refine W.widen (k := cells + 1) (n := slots + 6) (by omega) (by omega) ?_
  refine lv_aload_n hx hb dL_law_334 rfl (lv_at hl 3 rfl) ?_
  refine l_arg (n := 1) (pc := 335) (pc' := 341) E hS hi hl (by decide) (by decide) rfl dL_law_335 dL_law_336 dL_law_338 dL_law_339 dL_law_340 ?_
  refine l_arg (n := 2) (pc := 341) (pc' := 347) E hS hi hl (by decide) (by decide) rfl dL_law_341 dL_law_342 dL_law_344 dL_law_345 dL_law_346 ?_
  refine l_arg (n := 3) (pc := 347) (pc' := 353) E hS hi hl (by decide) (by decide) rfl dL_law_347 dL_law_348 dL_law_350 dL_law_351 dL_law_352 ?_
  refine lcC (y := yX8_rebased) (rest := []) E hW hS (c_X8_rebased l D ca ad F.1 σ τ (xs (i + 1)) (xs (i + 2)) (xs (i + 3))) ok_X8_rebased gw_623 ⟨by decide, by decide⟩ rfl hl.1 rfl (Nat.le_of_ble_eq_true rfl) ⟨hc.1, hc.2⟩ dL_law_353 (fun v_ S_ T_ H locs hp hW hS => ?_)
  obtain ⟨rfl, rfl, rfl⟩ := hp
  try dsimp only [Option.toList, List.cons_append, List.nil_append]
  refine lv_aload_n hx hb dL_law_356 rfl (lv_at hl 2 rfl) ?_
  refine l_arg (n := 1) (pc := 357) (pc' := 363) E hS hi hl (by decide) (by decide) rfl dL_law_357 dL_law_358 dL_law_360 dL_law_361 dL_law_362 ?_
  refine l_arg (n := 2) (pc := 363) (pc' := 369) E hS hi hl (by decide) (by decide) rfl dL_law_363 dL_law_364 dL_law_366 dL_law_367 dL_law_368 ?_
  refine l_arg (n := 3) (pc := 369) (pc' := 375) E hS hi hl (by decide) (by decide) rfl dL_law_369 dL_law_370 dL_law_372 dL_law_373 dL_law_374 ?_
  refine lcM (y := yX9_rebased) (rest := [.int (rebdS σ (xs (i + 1)) (xs (i + 2)) (xs (i + 3)))]) E hW hS (c_X9_rebased l D ca am F.2.1 μ υ (zA_RI hz) (xs (i + 1)) (xs (i + 2)) (xs (i + 3))) ok_X9_rebased gw_1124 ⟨by decide, by decide⟩ rfl hl.1 rfl (Nat.le_of_ble_eq_true rfl) ⟨hc.1, hc.2⟩ dL_law_375 (fun v_ S_ T_ H locs hp hW hS => ?_)
  obtain ⟨rfl, rfl, rfl⟩ := hp
  try dsimp only [Option.toList, List.cons_append, List.nil_append]
  refine lv_icmp_eq (tgt := 1038) hx hb dL_law_378 (by decide) (fun _ => ?_) (fun q => absurd (zc_rebased hz _ _ _) q)
  exact kont _ _ _ _ _ _ _ _ (zA_0 hz 0) hW hS hl
set_option maxHeartbeats 4000000 in
set_option maxRecDepth 100000 in
theorem lw_contract {p : Program} {l : Launch} {e : Env} {s : State} {m : MethodId} {below : List Frame} {meth : Method} {c : Code} {b L : Nat} {xs : Nat → Int32} {D : va_G} {ca : Nat → ClassId} {ad am : Nat → Nat} {q0 : Nat} {adK adV : Nat → Nat} {H : Heap} {locs : List Loc} {cells slots : Nat} {Q : State → Prop} {ls : Array Slot} {σ : MI} {τ : ML} {μ : MI} {υ : ML} {f : Nat → Int64} {i : Nat} (E : LE p l s m meth c b L xs D ca ad am q0 adK adV) (hz : zA σ τ μ) (hW : LWd D ca ad am q0 σ τ μ υ f H) (hS : va_S (A0 s) s.heap H locs) (hi : i + 6 ≤ L) (hl : lv_has ls 8 (LO b ad am q0 i)) (hc : cells + 1 ≤ 601024 ∧ slots + 6 ≤ 7293034) (kont : KO p l e room_1 s m below meth c b D ca ad am q0 i cells slots Q) : W p l e room_1 s m #[Value.ref b] below meth c H locs cells slots Q (F0 m 463 ls []) := by
  have hx := E.1.1
  have hb := E.1.2.1
  have F := E.lay
  refine W.widen (k := cells + 1) (n := slots + 6) (by omega) (by omega) ?_
  refine lv_aload_n hx hb dL_law_463 rfl (lv_at hl 3 rfl) ?_
  refine l_arg (n := 1) (pc := 464) (pc' := 470) E hS hi hl (by decide) (by decide) rfl dL_law_464 dL_law_465 dL_law_467 dL_law_468 dL_law_469 ?_
  refine l_arg (n := 2) (pc := 470) (pc' := 476) E hS hi hl (by decide) (by decide) rfl dL_law_470 dL_law_471 dL_law_473 dL_law_474 dL_law_475 ?_
  refine lcC (y := yX8_contract) (rest := []) E hW hS (c_X8_contract l D ca ad F.1 σ τ (xs (i + 1)) (xs (i + 2))) ok_X8_contract gw_631 ⟨by decide, by decide⟩ rfl hl.1 rfl (Nat.le_of_ble_eq_true rfl) ⟨hc.1, hc.2⟩ dL_law_476 (fun v_ S_ T_ H locs hp hW hS => ?_)
  obtain ⟨rfl, rfl, rfl⟩ := hp
  try dsimp only [Option.toList, List.cons_append, List.nil_append]
  refine lv_aload_n hx hb dL_law_479 rfl (lv_at hl 2 rfl) ?_
  refine l_arg (n := 1) (pc := 480) (pc' := 486) E hS hi hl (by decide) (by decide) rfl dL_law_480 dL_law_481 dL_law_483 dL_law_484 dL_law_485 ?_
  refine l_arg (n := 2) (pc := 486) (pc' := 492) E hS hi hl (by decide) (by decide) rfl dL_law_486 dL_law_487 dL_law_489 dL_law_490 dL_law_491 ?_
  refine lcM (y := yX9_contract) (rest := [.int (contS σ (xs (i + 1)) (xs (i + 2)))]) E hW hS (c_X9_contract l D ca am F.2.1 μ υ (zA_RI hz) (xs (i + 1)) (xs (i + 2))) ok_X9_contract gw_1147 ⟨by decide, by decide⟩ rfl hl.1 rfl (Nat.le_of_ble_eq_true rfl) ⟨hc.1, hc.2⟩ dL_law_492 (fun v_ S_ T_ H locs hp hW hS => ?_)
  obtain ⟨rfl, rfl, rfl⟩ := hp
  try dsimp only [Option.toList, List.cons_append, List.nil_append]
  refine lv_icmp_eq (tgt := 1038) hx hb dL_law_495 (by decide) (fun _ => ?_) (fun q => absurd (zc_contract hz _ _) q)
  exact kont _ _ _ _ _ _ _ _ (zA_0 hz 0) hW hS hl
set_option maxHeartbeats 4000000 in
set_option maxRecDepth 100000 in
theorem lw_were {p : Program} {l : Launch} {e : Env} {s : State} {m : MethodId} {below : List Frame} {meth : Method} {c : Code} {b L : Nat} {xs : Nat → Int32} {D : va_G} {ca : Nat → ClassId} {ad am : Nat → Nat} {q0 : Nat} {adK adV : Nat → Nat} {H : Heap} {locs : List Loc} {cells slots : Nat} {Q : State → Prop} {ls : Array Slot} {σ : MI} {τ : ML} {μ : MI} {υ : ML} {f : Nat → Int64} {i : Nat} (E : LE p l s m meth c b L xs D ca ad am q0 adK adV) (hz : zA σ τ μ) (hW : LWd D ca ad am q0 σ τ μ υ f H) (hS : va_S (A0 s) s.heap H locs) (hi : i + 6 ≤ L) (hl : lv_has ls 8 (LO b ad am q0 i)) (hc : cells + 1 ≤ 601024 ∧ slots + 6 ≤ 7293034) (kont : KO p l e room_1 s m below meth c b D ca ad am q0 i cells slots Q) : W p l e room_1 s m #[Value.ref b] below meth c H locs cells slots Q (F0 m 580 ls []) := by
  have hx := E.1.1
  have hb := E.1.2.1
  have F := E.lay
  refine W.widen (k := cells + 1) (n := slots + 6) (by omega) (by omega) ?_
  refine lv_aload_n hx hb dL_law_580 rfl (lv_at hl 3 rfl) ?_
  refine l_arg (n := 1) (pc := 581) (pc' := 587) E hS hi hl (by decide) (by decide) rfl dL_law_581 dL_law_582 dL_law_584 dL_law_585 dL_law_586 ?_
  refine l_arg (n := 2) (pc := 587) (pc' := 593) E hS hi hl (by decide) (by decide) rfl dL_law_587 dL_law_588 dL_law_590 dL_law_591 dL_law_592 ?_
  refine l_arg (n := 3) (pc := 593) (pc' := 599) E hS hi hl (by decide) (by decide) rfl dL_law_593 dL_law_594 dL_law_596 dL_law_597 dL_law_598 ?_
  refine lcC (y := yX8_were) (rest := []) E hW hS (c_X8_were l D ca ad F.1 σ τ (xs (i + 1)) (xs (i + 2)) (xs (i + 3))) ok_X8_were gw_643 ⟨by decide, by decide⟩ rfl hl.1 rfl (Nat.le_of_ble_eq_true rfl) ⟨hc.1, hc.2⟩ dL_law_599 (fun v_ S_ T_ H locs hp hW hS => ?_)
  obtain ⟨rfl, rfl, rfl⟩ := hp
  try dsimp only [Option.toList, List.cons_append, List.nil_append]
  refine lv_aload_n hx hb dL_law_602 rfl (lv_at hl 2 rfl) ?_
  refine l_arg (n := 1) (pc := 603) (pc' := 609) E hS hi hl (by decide) (by decide) rfl dL_law_603 dL_law_604 dL_law_606 dL_law_607 dL_law_608 ?_
  refine l_arg (n := 2) (pc := 609) (pc' := 615) E hS hi hl (by decide) (by decide) rfl dL_law_609 dL_law_610 dL_law_612 dL_law_613 dL_law_614 ?_
  refine l_arg (n := 3) (pc := 615) (pc' := 621) E hS hi hl (by decide) (by decide) rfl dL_law_615 dL_law_616 dL_law_618 dL_law_619 dL_law_620 ?_
  refine lcM (y := yX9_were) (rest := [.int (wereR σ (xs (i + 1)) (xs (i + 2)) (xs (i + 3)))]) E hW hS (c_X9_were l D ca am F.2.1 μ υ (zA_RI hz) (xs (i + 1)) (xs (i + 2)) (xs (i + 3))) ok_X9_were gw_1179 ⟨by decide, by decide⟩ rfl hl.1 rfl (Nat.le_of_ble_eq_true rfl) ⟨hc.1, hc.2⟩ dL_law_621 (fun v_ S_ T_ H locs hp hW hS => ?_)
  obtain ⟨rfl, rfl, rfl⟩ := hp
  try dsimp only [Option.toList, List.cons_append, List.nil_append]
  refine lv_icmp_eq (tgt := 1038) hx hb dL_law_624 (by decide) (fun _ => ?_) (fun q => absurd (zc_were hz _ _ _).1 q)
  exact kont _ _ _ _ _ _ _ _ ((zc_were hz _ _ _).2) hW hS hl
set_option maxHeartbeats 4000000 in
set_option maxRecDepth 100000 in
theorem lw_rises {p : Program} {l : Launch} {e : Env} {s : State} {m : MethodId} {below : List Frame} {meth : Method} {c : Code} {b L : Nat} {xs : Nat → Int32} {D : va_G} {ca : Nat → ClassId} {ad am : Nat → Nat} {q0 : Nat} {adK adV : Nat → Nat} {H : Heap} {locs : List Loc} {cells slots : Nat} {Q : State → Prop} {ls : Array Slot} {σ : MI} {τ : ML} {μ : MI} {υ : ML} {f : Nat → Int64} {i : Nat} (E : LE p l s m meth c b L xs D ca ad am q0 adK adV) (hz : zA σ τ μ) (hW : LWd D ca ad am q0 σ τ μ υ f H) (hS : va_S (A0 s) s.heap H locs) (hi : i + 6 ≤ L) (hl : lv_has ls 8 (LO b ad am q0 i)) (hc : cells + 1 ≤ 601024 ∧ slots + 6 ≤ 7293034) (kont : KO p l e room_1 s m below meth c b D ca ad am q0 i cells slots Q) : W p l e room_1 s m #[Value.ref b] below meth c H locs cells slots Q (F0 m 629 ls []) := by
  have hx := E.1.1
  have hb := E.1.2.1
  have F := E.lay
  refine W.widen (k := cells + 1) (n := slots + 6) (by omega) (by omega) ?_
  refine lv_aload_n hx hb dL_law_629 rfl (lv_at hl 3 rfl) ?_
  refine l_arg (n := 1) (pc := 630) (pc' := 636) E hS hi hl (by decide) (by decide) rfl dL_law_630 dL_law_631 dL_law_633 dL_law_634 dL_law_635 ?_
  refine l_arg (n := 2) (pc := 636) (pc' := 642) E hS hi hl (by decide) (by decide) rfl dL_law_636 dL_law_637 dL_law_639 dL_law_640 dL_law_641 ?_
  refine lcC (y := yX8_rises) (rest := []) E hW hS (c_X8_rises l D ca ad F.1 σ τ (xs (i + 1)) (xs (i + 2))) ok_X8_rises gw_694 ⟨by decide, by decide⟩ rfl hl.1 rfl (Nat.le_of_ble_eq_true rfl) ⟨hc.1, hc.2⟩ dL_law_642 (fun v_ S_ T_ H locs hp hW hS => ?_)
  obtain ⟨rfl, rfl, rfl⟩ := hp
  try dsimp only [Option.toList, List.cons_append, List.nil_append]
  refine lv_aload_n hx hb dL_law_645 rfl (lv_at hl 2 rfl) ?_
  refine l_arg (n := 1) (pc := 646) (pc' := 652) E hS hi hl (by decide) (by decide) rfl dL_law_646 dL_law_647 dL_law_649 dL_law_650 dL_law_651 ?_
  refine l_arg (n := 2) (pc := 652) (pc' := 658) E hS hi hl (by decide) (by decide) rfl dL_law_652 dL_law_653 dL_law_655 dL_law_656 dL_law_657 ?_
  refine lcM (y := yX9_rises) (rest := [.int (risR σ (xs (i + 1)) (xs (i + 2)))]) E hW hS (c_X9_rises l D ca am F.2.1 μ υ (zA_RI hz) (xs (i + 1)) (xs (i + 2))) ok_X9_rises gw_1187 ⟨by decide, by decide⟩ rfl hl.1 rfl (Nat.le_of_ble_eq_true rfl) ⟨hc.1, hc.2⟩ dL_law_658 (fun v_ S_ T_ H locs hp hW hS => ?_)
  obtain ⟨rfl, rfl, rfl⟩ := hp
  try dsimp only [Option.toList, List.cons_append, List.nil_append]
  refine lv_icmp_eq (tgt := 1038) hx hb dL_law_661 (by decide) (fun _ => ?_) (fun q => absurd (zc_rises hz _ _).1 q)
  exact kont _ _ _ _ _ _ _ _ ((zc_rises hz _ _).2) hW hS hl
set_option maxHeartbeats 4000000 in
set_option maxRecDepth 100000 in
theorem lw_delivery {p : Program} {l : Launch} {e : Env} {s : State} {m : MethodId} {below : List Frame} {meth : Method} {c : Code} {b L : Nat} {xs : Nat → Int32} {D : va_G} {ca : Nat → ClassId} {ad am : Nat → Nat} {q0 : Nat} {adK adV : Nat → Nat} {H : Heap} {locs : List Loc} {cells slots : Nat} {Q : State → Prop} {ls : Array Slot} {σ : MI} {τ : ML} {μ : MI} {υ : ML} {f : Nat → Int64} {i : Nat} (E : LE p l s m meth c b L xs D ca ad am q0 adK adV) (hz : zA σ τ μ) (hW : LWd D ca ad am q0 σ τ μ υ f H) (hS : va_S (A0 s) s.heap H locs) (hi : i + 6 ≤ L) (hl : lv_has ls 8 (LO b ad am q0 i)) (hc : cells + 1 ≤ 601024 ∧ slots + 6 ≤ 7293034) (kont : KO p l e room_1 s m below meth c b D ca ad am q0 i cells slots Q) : W p l e room_1 s m #[Value.ref b] below meth c H locs cells slots Q (F0 m 666 ls []) := by
  have hx := E.1.1
  have hb := E.1.2.1
  have F := E.lay
  refine W.widen (k := cells + 1) (n := slots + 6) (by omega) (by omega) ?_
  refine lv_aload_n hx hb dL_law_666 rfl (lv_at hl 3 rfl) ?_
  refine l_arg (n := 1) (pc := 667) (pc' := 673) E hS hi hl (by decide) (by decide) rfl dL_law_667 dL_law_668 dL_law_670 dL_law_671 dL_law_672 ?_
  refine l_arg (n := 2) (pc := 673) (pc' := 679) E hS hi hl (by decide) (by decide) rfl dL_law_673 dL_law_674 dL_law_676 dL_law_677 dL_law_678 ?_
  refine lcC (y := yX8_delivery) (rest := []) E hW hS (c_X8_delivery l D ca ad F.1 σ τ (xs (i + 1)) (xs (i + 2))) ok_X8_delivery gw_698 ⟨by decide, by decide⟩ rfl hl.1 rfl (Nat.le_of_ble_eq_true rfl) ⟨hc.1, hc.2⟩ dL_law_679 (fun v_ S_ T_ H locs hp hW hS => ?_)
  obtain ⟨rfl, rfl, rfl⟩ := hp
  try dsimp only [Option.toList, List.cons_append, List.nil_append]
  refine lv_aload_n hx hb dL_law_682 rfl (lv_at hl 2 rfl) ?_
  refine l_arg (n := 1) (pc := 683) (pc' := 689) E hS hi hl (by decide) (by decide) rfl dL_law_683 dL_law_684 dL_law_686 dL_law_687 dL_law_688 ?_
  refine l_arg (n := 2) (pc := 689) (pc' := 695) E hS hi hl (by decide) (by decide) rfl dL_law_689 dL_law_690 dL_law_692 dL_law_693 dL_law_694 ?_
  refine lcM (y := yX9_delivery) (rest := [.int (deliS σ (xs (i + 1)) (xs (i + 2)))]) E hW hS (c_X9_delivery l D ca am F.2.1 μ υ (zA_RI hz) (xs (i + 1)) (xs (i + 2))) ok_X9_delivery gw_1191 ⟨by decide, by decide⟩ rfl hl.1 rfl (Nat.le_of_ble_eq_true rfl) ⟨hc.1, hc.2⟩ dL_law_695 (fun v_ S_ T_ H locs hp hW hS => ?_)
  obtain ⟨rfl, rfl, rfl⟩ := hp
  try dsimp only [Option.toList, List.cons_append, List.nil_append]
  refine lv_icmp_eq (tgt := 1038) hx hb dL_law_698 (by decide) (fun _ => ?_) (fun q => absurd (zc_delivery hz _ _) q)
  exact kont _ _ _ _ _ _ _ _ (zA_0 hz 0) hW hS hl
set_option maxHeartbeats 4000000 in
set_option maxRecDepth 100000 in
theorem lw_rebase {p : Program} {l : Launch} {e : Env} {s : State} {m : MethodId} {below : List Frame} {meth : Method} {c : Code} {b L : Nat} {xs : Nat → Int32} {D : va_G} {ca : Nat → ClassId} {ad am : Nat → Nat} {q0 : Nat} {adK adV : Nat → Nat} {H : Heap} {locs : List Loc} {cells slots : Nat} {Q : State → Prop} {ls : Array Slot} {σ : MI} {τ : ML} {μ : MI} {υ : ML} {f : Nat → Int64} {i : Nat} (E : LE p l s m meth c b L xs D ca ad am q0 adK adV) (hz : zA σ τ μ) (hW : LWd D ca ad am q0 σ τ μ υ f H) (hS : va_S (A0 s) s.heap H locs) (hi : i + 6 ≤ L) (hl : lv_has ls 8 (LO b ad am q0 i)) (hc : cells + 1 ≤ 601024 ∧ slots + 6 ≤ 7293034) (kont : KO p l e room_1 s m below meth c b D ca ad am q0 i cells slots Q) : W p l e room_1 s m #[Value.ref b] below meth c H locs cells slots Q (F0 m 914 ls []) := by
  have hx := E.1.1
  have hb := E.1.2.1
  have F := E.lay
  refine W.widen (k := cells + 1) (n := slots + 6) (by omega) (by omega) ?_
  refine lv_aload_n hx hb dL_law_914 rfl (lv_at hl 3 rfl) ?_
  refine l_arg (n := 1) (pc := 915) (pc' := 921) E hS hi hl (by decide) (by decide) rfl dL_law_915 dL_law_916 dL_law_918 dL_law_919 dL_law_920 ?_
  refine l_arg (n := 2) (pc := 921) (pc' := 927) E hS hi hl (by decide) (by decide) rfl dL_law_921 dL_law_922 dL_law_924 dL_law_925 dL_law_926 ?_
  refine l_arg (n := 3) (pc := 927) (pc' := 933) E hS hi hl (by decide) (by decide) rfl dL_law_927 dL_law_928 dL_law_930 dL_law_931 dL_law_932 ?_
  refine lcC (y := yX8_rebase) (rest := []) E hW hS (c_X8_rebase l D ca ad F.1 σ τ (xs (i + 1)) (xs (i + 2)) (xs (i + 3))) ok_X8_rebase gw_731 ⟨by decide, by decide⟩ rfl hl.1 rfl (Nat.le_of_ble_eq_true rfl) ⟨hc.1, hc.2⟩ dL_law_933 (fun v_ S_ T_ H locs hp hW hS => ?_)
  obtain ⟨rfl, rfl, rfl⟩ := hp
  try dsimp only [Option.toList, List.cons_append, List.nil_append]
  refine lv_aload_n hx hb dL_law_936 rfl (lv_at hl 2 rfl) ?_
  refine l_arg (n := 1) (pc := 937) (pc' := 943) E hS hi hl (by decide) (by decide) rfl dL_law_937 dL_law_938 dL_law_940 dL_law_941 dL_law_942 ?_
  refine l_arg (n := 2) (pc := 943) (pc' := 949) E hS hi hl (by decide) (by decide) rfl dL_law_943 dL_law_944 dL_law_946 dL_law_947 dL_law_948 ?_
  refine l_arg (n := 3) (pc := 949) (pc' := 955) E hS hi hl (by decide) (by decide) rfl dL_law_949 dL_law_950 dL_law_952 dL_law_953 dL_law_954 ?_
  refine lcM (y := yX9_rebase) (rest := [.int (rebR σ (xs (i + 1)) (xs (i + 2)) (xs (i + 3)))]) E hW hS (c_X9_rebase l D ca am F.2.1 μ υ (zA_RI hz) (zA_8 hz) (xs (i + 1)) (xs (i + 2)) (xs (i + 3))) ok_X9_rebase gw_1227 ⟨by decide, by decide⟩ rfl hl.1 rfl (Nat.le_of_ble_eq_true rfl) ⟨hc.1, hc.2⟩ dL_law_955 (fun v_ S_ T_ H locs hp hW hS => ?_)
  obtain ⟨rfl, rfl, rfl⟩ := hp
  try dsimp only [Option.toList, List.cons_append, List.nil_append]
  refine lv_icmp_eq (tgt := 1038) hx hb dL_law_958 (by decide) (fun _ => ?_) (fun q => absurd (zc_rebase hz _ _ _).1 q)
  exact kont _ _ _ _ _ _ _ _ ((zc_rebase hz _ _ _).2) hW hS hl
set_option maxHeartbeats 4000000 in
set_option maxRecDepth 100000 in
theorem lw_deliver {p : Program} {l : Launch} {e : Env} {s : State} {m : MethodId} {below : List Frame} {meth : Method} {c : Code} {b L : Nat} {xs : Nat → Int32} {D : va_G} {ca : Nat → ClassId} {ad am : Nat → Nat} {q0 : Nat} {adK adV : Nat → Nat} {H : Heap} {locs : List Loc} {cells slots : Nat} {Q : State → Prop} {ls : Array Slot} {σ : MI} {τ : ML} {μ : MI} {υ : ML} {f : Nat → Int64} {i : Nat} (E : LE p l s m meth c b L xs D ca ad am q0 adK adV) (hz : zA σ τ μ) (hW : LWd D ca ad am q0 σ τ μ υ f H) (hS : va_S (A0 s) s.heap H locs) (hi : i + 6 ≤ L) (hl : lv_has ls 8 (LO b ad am q0 i)) (hc : cells + 1 ≤ 601024 ∧ slots + 6 ≤ 7293034) (kont : KO p l e room_1 s m below meth c b D ca ad am q0 i cells slots Q) : W p l e room_1 s m #[Value.ref b] below meth c H locs cells slots Q (F0 m 963 ls []) := by
  have hx := E.1.1
  have hb := E.1.2.1
  have F := E.lay
  refine W.widen (k := cells + 1) (n := slots + 6) (by omega) (by omega) ?_
  refine lv_aload_n hx hb dL_law_963 rfl (lv_at hl 3 rfl) ?_
  refine l_arg (n := 1) (pc := 964) (pc' := 970) E hS hi hl (by decide) (by decide) rfl dL_law_964 dL_law_965 dL_law_967 dL_law_968 dL_law_969 ?_
  refine l_arg (n := 2) (pc := 970) (pc' := 976) E hS hi hl (by decide) (by decide) rfl dL_law_970 dL_law_971 dL_law_973 dL_law_974 dL_law_975 ?_
  refine l_arg (n := 3) (pc := 976) (pc' := 982) E hS hi hl (by decide) (by decide) rfl dL_law_976 dL_law_977 dL_law_979 dL_law_980 dL_law_981 ?_
  refine lcC (y := yX8_deliver) (rest := []) E hW hS (c_X8_deliver l D ca ad F.1 σ τ (xs (i + 1)) (xs (i + 2)) (xs (i + 3))) ok_X8_deliver gw_739 ⟨by decide, by decide⟩ rfl hl.1 rfl (Nat.le_of_ble_eq_true rfl) ⟨hc.1, hc.2⟩ dL_law_982 (fun v_ S_ T_ H locs hp hW hS => ?_)
  obtain ⟨rfl, rfl, rfl⟩ := hp
  try dsimp only [Option.toList, List.cons_append, List.nil_append]
  refine lv_aload_n hx hb dL_law_985 rfl (lv_at hl 2 rfl) ?_
  refine l_arg (n := 1) (pc := 986) (pc' := 992) E hS hi hl (by decide) (by decide) rfl dL_law_986 dL_law_987 dL_law_989 dL_law_990 dL_law_991 ?_
  refine l_arg (n := 2) (pc := 992) (pc' := 998) E hS hi hl (by decide) (by decide) rfl dL_law_992 dL_law_993 dL_law_995 dL_law_996 dL_law_997 ?_
  refine l_arg (n := 3) (pc := 998) (pc' := 1004) E hS hi hl (by decide) (by decide) rfl dL_law_998 dL_law_999 dL_law_1001 dL_law_1002 dL_law_1003 ?_
  refine lcM (y := yX9_deliver) (rest := [.int (dvR σ (xs (i + 1)) (xs (i + 2)) (xs (i + 3)))]) E hW hS (c_X9_deliver l D ca am F.2.1 μ υ (zA_RI hz) (zA_8 hz) (xs (i + 1)) (xs (i + 2)) (xs (i + 3))) ok_X9_deliver gw_1231 ⟨by decide, by decide⟩ rfl hl.1 rfl (Nat.le_of_ble_eq_true rfl) ⟨hc.1, hc.2⟩ dL_law_1004 (fun v_ S_ T_ H locs hp hW hS => ?_)
  obtain ⟨rfl, rfl, rfl⟩ := hp
  try dsimp only [Option.toList, List.cons_append, List.nil_append]
  refine lv_icmp_eq (tgt := 1038) hx hb dL_law_1007 (by decide) (fun _ => ?_) (fun q => absurd (zc_deliver hz _ _ _).1 q)
  exact kont _ _ _ _ _ _ _ _ ((zc_deliver hz _ _ _).2) hW hS hl
set_option maxHeartbeats 4000000 in
set_option maxRecDepth 100000 in
theorem lw_close {p : Program} {l : Launch} {e : Env} {s : State} {m : MethodId} {below : List Frame} {meth : Method} {c : Code} {b L : Nat} {xs : Nat → Int32} {D : va_G} {ca : Nat → ClassId} {ad am : Nat → Nat} {q0 : Nat} {adK adV : Nat → Nat} {H : Heap} {locs : List Loc} {cells slots : Nat} {Q : State → Prop} {ls : Array Slot} {σ : MI} {τ : ML} {μ : MI} {υ : ML} {f : Nat → Int64} {i : Nat} (E : LE p l s m meth c b L xs D ca ad am q0 adK adV) (hz : zA σ τ μ) (hW : LWd D ca ad am q0 σ τ μ υ f H) (hS : va_S (A0 s) s.heap H locs) (hi : i + 6 ≤ L) (hl : lv_has ls 8 (LO b ad am q0 i)) (hc : cells + 1 ≤ 601024 ∧ slots + 6 ≤ 7293034) (kont : KO p l e room_1 s m below meth c b D ca ad am q0 i cells slots Q) : W p l e room_1 s m #[Value.ref b] below meth c H locs cells slots Q (F0 m 1012 ls []) := by
  have hx := E.1.1
  have hb := E.1.2.1
  have F := E.lay
  refine W.widen (k := cells + 1) (n := slots + 6) (by omega) (by omega) ?_
  refine lv_aload_n hx hb dL_law_1012 rfl (lv_at hl 3 rfl) ?_
  refine lcC (y := yX8_close) (rest := []) E hW hS (c_X8_close l D ca ad F.1 σ τ ) ok_X8_close gw_764 ⟨by decide, by decide⟩ rfl hl.1 rfl (Nat.le_of_ble_eq_true rfl) ⟨hc.1, hc.2⟩ dL_law_1013 (fun v_ S_ T_ H locs hp hW hS => ?_)
  obtain ⟨rfl, rfl, rfl⟩ := hp
  try dsimp only [Option.toList, List.cons_append, List.nil_append]
  refine lv_aload_n hx hb dL_law_1016 rfl (lv_at hl 2 rfl) ?_
  refine lcM (y := yX9_close) (rest := [.int (clR σ)]) E hW hS (c_X9_close l D ca am F.2.1 μ υ (zA_RI hz) (zA_8 hz)) ok_X9_close gw_1235 ⟨by decide, by decide⟩ rfl hl.1 rfl (Nat.le_of_ble_eq_true rfl) ⟨hc.1, hc.2⟩ dL_law_1017 (fun v_ S_ T_ H locs hp hW hS => ?_)
  obtain ⟨rfl, rfl, rfl⟩ := hp
  try dsimp only [Option.toList, List.cons_append, List.nil_append]
  refine lv_icmp_eq (tgt := 1038) hx hb dL_law_1020 (by decide) (fun _ => ?_) (fun q => absurd (zc_close hz).1 q)
  exact kont _ _ _ _ _ _ _ _ ((zc_close hz).2) hW hS hl
set_option maxHeartbeats 4000000 in
set_option maxRecDepth 100000 in
theorem lw_undo {p : Program} {l : Launch} {e : Env} {s : State} {m : MethodId} {below : List Frame} {meth : Method} {c : Code} {b L : Nat} {xs : Nat → Int32} {D : va_G} {ca : Nat → ClassId} {ad am : Nat → Nat} {q0 : Nat} {adK adV : Nat → Nat} {H : Heap} {locs : List Loc} {cells slots : Nat} {Q : State → Prop} {ls : Array Slot} {σ : MI} {τ : ML} {μ : MI} {υ : ML} {f : Nat → Int64} {i : Nat} (E : LE p l s m meth c b L xs D ca ad am q0 adK adV) (hz : zA σ τ μ) (hW : LWd D ca ad am q0 σ τ μ υ f H) (hS : va_S (A0 s) s.heap H locs) (hi : i + 6 ≤ L) (hl : lv_has ls 8 (LO b ad am q0 i)) (hc : cells + 1 ≤ 601024 ∧ slots + 6 ≤ 7293034) (kont : KO p l e room_1 s m below meth c b D ca ad am q0 i cells slots Q) : W p l e room_1 s m #[Value.ref b] below meth c H locs cells slots Q (F0 m 1025 ls []) := by
  have hx := E.1.1
  have hb := E.1.2.1
  have F := E.lay
  refine W.widen (k := cells + 1) (n := slots + 6) (by omega) (by omega) ?_
  refine lv_aload_n hx hb dL_law_1025 rfl (lv_at hl 3 rfl) ?_
  refine lcC (y := yX8_undo) (rest := []) E hW hS (c_X8_undo l D ca ad F.1 σ τ ) ok_X8_undo gw_783 ⟨by decide, by decide⟩ rfl hl.1 rfl (Nat.le_of_ble_eq_true rfl) ⟨hc.1, hc.2⟩ dL_law_1026 (fun v_ S_ T_ H locs hp hW hS => ?_)
  obtain ⟨rfl, rfl, rfl⟩ := hp
  try dsimp only [Option.toList, List.cons_append, List.nil_append]
  refine lv_aload_n hx hb dL_law_1029 rfl (lv_at hl 2 rfl) ?_
  refine lcM (y := yX9_undo) (rest := [.int (unR σ τ)]) E hW hS (c_X9_undo l D ca am F.2.1 μ υ (zA_8 hz)) ok_X9_undo gw_1239 ⟨by decide, by decide⟩ rfl hl.1 rfl (Nat.le_of_ble_eq_true rfl) ⟨hc.1, hc.2⟩ dL_law_1030 (fun v_ S_ T_ H locs hp hW hS => ?_)
  obtain ⟨rfl, rfl, rfl⟩ := hp
  try dsimp only [Option.toList, List.cons_append, List.nil_append]
  refine lv_icmp_eq (tgt := 1038) hx hb dL_law_1033 (by decide) (fun _ => ?_) (fun q => absurd (zc_undo hz).1 q)
  exact kont _ _ _ _ _ _ _ _ ((zc_undo hz).2) hW hS hl
set_option maxHeartbeats 4000000 in
set_option maxRecDepth 100000 in
theorem lw_publish {p : Program} {l : Launch} {e : Env} {s : State} {m : MethodId} {below : List Frame} {meth : Method} {c : Code} {b L : Nat} {xs : Nat → Int32} {D : va_G} {ca : Nat → ClassId} {ad am : Nat → Nat} {q0 : Nat} {adK adV : Nat → Nat} {H : Heap} {locs : List Loc} {cells slots : Nat} {Q : State → Prop} {ls : Array Slot} {σ : MI} {τ : ML} {μ : MI} {υ : ML} {f : Nat → Int64} {i : Nat} (E : LE p l s m meth c b L xs D ca ad am q0 adK adV) (hz : zA σ τ μ) (hW : LWd D ca ad am q0 σ τ μ υ f H) (hS : va_S (A0 s) s.heap H locs) (hi : i + 6 ≤ L) (hl : lv_has ls 8 (LO b ad am q0 i)) (hc : cells + 1 ≤ 601024 ∧ slots + 6 ≤ 7293034) (kont : KO p l e room_1 s m below meth c b D ca ad am q0 i cells slots Q) : W p l e room_1 s m #[Value.ref b] below meth c H locs cells slots Q (F0 m 837 ls []) := by
  have hx := E.1.1
  have hb := E.1.2.1
  have F := E.lay
  refine W.widen (k := cells + 1) (n := slots + 6) (by omega) (by omega) ?_
  refine lv_aload_n hx hb dL_law_837 rfl (lv_at hl 3 rfl) ?_
  refine l_arg (n := 1) (pc := 838) (pc' := 844) E hS hi hl (by decide) (by decide) rfl dL_law_838 dL_law_839 dL_law_841 dL_law_842 dL_law_843 ?_
  refine l_arg (n := 2) (pc := 844) (pc' := 850) E hS hi hl (by decide) (by decide) rfl dL_law_844 dL_law_845 dL_law_847 dL_law_848 dL_law_849 ?_
  refine l_arg (n := 3) (pc := 850) (pc' := 856) E hS hi hl (by decide) (by decide) rfl dL_law_850 dL_law_851 dL_law_853 dL_law_854 dL_law_855 ?_
  refine l_arg (n := 4) (pc := 856) (pc' := 862) E hS hi hl (by decide) (by decide) rfl dL_law_856 dL_law_857 dL_law_859 dL_law_860 dL_law_861 ?_
  refine lv_if_eq (tgt := 869) hx hb dL_law_862 (by decide) (fun h0 => ?_) (fun h0 => ?_)
  · refine lv_iconst (v := 0) hx hb dL_law_869 (by decide) ?_
    refine lcC (y := yX8_publish) (rest := []) E hW hS (c_X8_publish l D ca ad F.1 σ τ (xs (i + 1)) (xs (i + 2)) (xs (i + 3)) false) ok_X8_publish gw_712 ⟨by decide, by decide⟩ rfl hl.1 rfl (Nat.le_of_ble_eq_true rfl) ⟨hc.1, hc.2⟩ dL_law_870 (fun v_ S_ T_ H locs hp hW hS => ?_)
    obtain ⟨rfl, rfl, rfl⟩ := hp
    try dsimp only [Option.toList, List.cons_append, List.nil_append]
    refine lv_aload_n hx hb dL_law_873 rfl (lv_at hl 2 rfl) ?_
    refine l_arg (n := 1) (pc := 874) (pc' := 880) E hS hi hl (by decide) (by decide) rfl dL_law_874 dL_law_875 dL_law_877 dL_law_878 dL_law_879 ?_
    refine l_arg (n := 2) (pc := 880) (pc' := 886) E hS hi hl (by decide) (by decide) rfl dL_law_880 dL_law_881 dL_law_883 dL_law_884 dL_law_885 ?_
    refine l_arg (n := 3) (pc := 886) (pc' := 892) E hS hi hl (by decide) (by decide) rfl dL_law_886 dL_law_887 dL_law_889 dL_law_890 dL_law_891 ?_
    refine l_arg (n := 4) (pc := 892) (pc' := 898) E hS hi hl (by decide) (by decide) rfl dL_law_892 dL_law_893 dL_law_895 dL_law_896 dL_law_897 ?_
    refine lv_if_eq (tgt := 905) hx hb dL_law_898 (by decide) (fun _ => ?_) (fun h1 => absurd h0 h1)
    refine lv_iconst (v := 0) hx hb dL_law_905 (by decide) ?_
    refine lcM (y := yX9_publish) (rest := [.int (pubR σ (xs (i + 1)) (xs (i + 2)) (xs (i + 3)))]) E hW hS (c_X9_publish l D ca am F.2.1 μ υ (zA_RI hz) (zA_8 hz) (xs (i + 1)) (xs (i + 2)) (xs (i + 3)) false) ok_X9_publish gw_1215 ⟨by decide, by decide⟩ rfl hl.1 rfl (Nat.le_of_ble_eq_true rfl) ⟨hc.1, hc.2⟩ dL_law_906 (fun v_ S_ T_ H locs hp hW hS => ?_)
    obtain ⟨rfl, rfl, rfl⟩ := hp
    try dsimp only [Option.toList, List.cons_append, List.nil_append]
    refine lv_icmp_eq (tgt := 1038) hx hb dL_law_909 (by decide) (fun _ => ?_) (fun q => absurd (zc_publish hz _ _ _ false).1 q)
    exact kont _ _ _ _ _ _ _ _ ((zc_publish hz _ _ _ _).2) hW hS hl
  · refine lv_iconst (v := 1) hx hb dL_law_865 (by decide) ?_
    refine lv_goto (tgt := 870) hx hb dL_law_866 (by decide) ?_
    refine lcC (y := yX8_publish) (rest := []) E hW hS (c_X8_publish l D ca ad F.1 σ τ (xs (i + 1)) (xs (i + 2)) (xs (i + 3)) true) ok_X8_publish gw_712 ⟨by decide, by decide⟩ rfl hl.1 rfl (Nat.le_of_ble_eq_true rfl) ⟨hc.1, hc.2⟩ dL_law_870 (fun v_ S_ T_ H locs hp hW hS => ?_)
    obtain ⟨rfl, rfl, rfl⟩ := hp
    try dsimp only [Option.toList, List.cons_append, List.nil_append]
    refine lv_aload_n hx hb dL_law_873 rfl (lv_at hl 2 rfl) ?_
    refine l_arg (n := 1) (pc := 874) (pc' := 880) E hS hi hl (by decide) (by decide) rfl dL_law_874 dL_law_875 dL_law_877 dL_law_878 dL_law_879 ?_
    refine l_arg (n := 2) (pc := 880) (pc' := 886) E hS hi hl (by decide) (by decide) rfl dL_law_880 dL_law_881 dL_law_883 dL_law_884 dL_law_885 ?_
    refine l_arg (n := 3) (pc := 886) (pc' := 892) E hS hi hl (by decide) (by decide) rfl dL_law_886 dL_law_887 dL_law_889 dL_law_890 dL_law_891 ?_
    refine l_arg (n := 4) (pc := 892) (pc' := 898) E hS hi hl (by decide) (by decide) rfl dL_law_892 dL_law_893 dL_law_895 dL_law_896 dL_law_897 ?_
    refine lv_if_eq (tgt := 905) hx hb dL_law_898 (by decide) (fun h1 => absurd h1 h0) (fun _ => ?_)
    refine lv_iconst (v := 1) hx hb dL_law_901 (by decide) ?_
    refine lv_goto (tgt := 906) hx hb dL_law_902 (by decide) ?_
    refine lcM (y := yX9_publish) (rest := [.int (pubR σ (xs (i + 1)) (xs (i + 2)) (xs (i + 3)))]) E hW hS (c_X9_publish l D ca am F.2.1 μ υ (zA_RI hz) (zA_8 hz) (xs (i + 1)) (xs (i + 2)) (xs (i + 3)) true) ok_X9_publish gw_1215 ⟨by decide, by decide⟩ rfl hl.1 rfl (Nat.le_of_ble_eq_true rfl) ⟨hc.1, hc.2⟩ dL_law_906 (fun v_ S_ T_ H locs hp hW hS => ?_)
    obtain ⟨rfl, rfl, rfl⟩ := hp
    try dsimp only [Option.toList, List.cons_append, List.nil_append]
    refine lv_icmp_eq (tgt := 1038) hx hb dL_law_909 (by decide) (fun _ => ?_) (fun q => absurd (zc_publish hz _ _ _ true).1 q)
    exact kont _ _ _ _ _ _ _ _ ((zc_publish hz _ _ _ _).2) hW hS hl
set_option maxHeartbeats 4000000 in
set_option maxRecDepth 100000 in
theorem lw_ratio {p : Program} {l : Launch} {e : Env} {s : State} {m : MethodId} {below : List Frame} {meth : Method} {c : Code} {b L : Nat} {xs : Nat → Int32} {D : va_G} {ca : Nat → ClassId} {ad am : Nat → Nat} {q0 : Nat} {adK adV : Nat → Nat} {H : Heap} {locs : List Loc} {cells slots : Nat} {Q : State → Prop} {ls : Array Slot} {σ : MI} {τ : ML} {μ : MI} {υ : ML} {f : Nat → Int64} {i : Nat} (E : LE p l s m meth c b L xs D ca ad am q0 adK adV) (hz : zA σ τ μ) (hW : LWd D ca ad am q0 σ τ μ υ f H) (hS : va_S (A0 s) s.heap H locs) (hi : i + 6 ≤ L) (hl : lv_has ls 8 (LO b ad am q0 i)) (hc : cells + 1 ≤ 601024 ∧ slots + 6 ≤ 7293034) (kont : KO p l e room_1 s m below meth c b D ca ad am q0 i cells slots Q) : W p l e room_1 s m #[Value.ref b] below meth c H locs cells slots Q (F0 m 383 ls []) := by
  have hx := E.1.1
  have hb := E.1.2.1
  have F := E.lay
  refine lv_aload_n hx hb dL_law_383 rfl (lv_at hl 3 rfl) ?_
  refine l_arg (n := 1) (pc := 384) (pc' := 390) E hS hi hl (by decide) (by decide) rfl dL_law_384 dL_law_385 dL_law_387 dL_law_388 dL_law_389 ?_
  refine l_arg (n := 2) (pc := 390) (pc' := 396) E hS hi hl (by decide) (by decide) rfl dL_law_390 dL_law_391 dL_law_393 dL_law_394 dL_law_395 ?_
  refine l_arg (n := 3) (pc := 396) (pc' := 402) E hS hi hl (by decide) (by decide) rfl dL_law_396 dL_law_397 dL_law_399 dL_law_400 dL_law_401 ?_
  refine lv_aload_n hx hb dL_law_402 rfl (lv_at hl 1 rfl) ?_
  have hcc := zc_ratC hz (xs (i + 1)) (xs (i + 2)) (xs (i + 3))
  refine lcH (y := yL_ratio) (n := 5) (rest := []) E hW hS (h_ratio l E.2.2.2.2.2.2.2.1 D ca ad F.1 q0 F.2.2.2.1 σ τ f (xs (i + 1)) (xs (i + 2)) (xs (i + 3))) kw_ratio gw_812 gw_813 gw_57 (by decide +kernel) ⟨by decide, by decide⟩ rfl hl.1 rfl (Nat.le_of_ble_eq_true rfl) ⟨hc.1, hc.2⟩ dL_law_403 (fun f' H locs hval hW hS => ?_)
  rcases Bool.eq_false_or_eq_true (mRtC (μ 2) (xs (i + 1)) (xs (i + 2)) (xs (i + 3))) with hq | hq
  · refine stk_i (v := 0) (by rw [hcc, hq]; rfl) ?_
    refine lv_istore (lv' := (5, .int 0) :: LO b ad am q0 i) hx hb dL_law_406 hl (by decide) rfl (fun ls hl => ?_)
    have hL := lv_sub (l' := LO b ad am q0 i) hl [1, 2, 3, 4, 5] rfl
    refine lv_aload_n hx hb dL_law_408 rfl (lv_at hL 2 rfl) ?_
    refine l_arg (n := 1) (pc := 409) (pc' := 415) E hS hi hL (by decide) (by decide) rfl dL_law_409 dL_law_410 dL_law_412 dL_law_413 dL_law_414 ?_
    refine l_arg (n := 2) (pc := 415) (pc' := 421) E hS hi hL (by decide) (by decide) rfl dL_law_415 dL_law_416 dL_law_418 dL_law_419 dL_law_420 ?_
    refine l_arg (n := 3) (pc := 421) (pc' := 427) E hS hi hL (by decide) (by decide) rfl dL_law_421 dL_law_422 dL_law_424 dL_law_425 dL_law_426 ?_
    refine lcM (y := yX9_ratio) (rest := []) E hW hS (c_X9_ratio l D ca am F.2.1 μ υ (zA_RI hz) (xs (i + 1)) (xs (i + 2)) (xs (i + 3))) ok_X9_ratio gw_1132 ⟨by decide, by decide⟩ rfl hl.1 rfl (Nat.le_of_ble_eq_true rfl) ⟨hc.1, hc.2⟩ dL_law_427 (fun v_ S_ T_ H locs hp hW hS => ?_)
    obtain ⟨rfl, rfl, rfl⟩ := hp
    try dsimp only [Option.toList, List.cons_append, List.nil_append]
    refine lv_istore (lv' := (6, .int (if mRtC (μ 2) (xs (i + 1)) (xs (i + 2)) (xs (i + 3)) = true then mRat (μ 2) (xs (i + 1)).toNatClampNeg (xs (i + 2)) (xs (i + 3)) else 0)) :: (5, .int 0) :: LO b ad am q0 i) hx hb dL_law_430 hl (by decide) rfl (fun ls hl => ?_)
    have hL := lv_sub (l' := LO b ad am q0 i) hl [2, 3, 4, 5, 6] rfl
    refine lv_aload_n hx hb dL_law_432 rfl (lv_at hL 2 rfl) ?_
    refine lcM (y := yX9_thrown) (rest := []) E hW hS (c_X9_thrown l D ca am F.2.1 _ υ) ok_X9_thrown gw_917 ⟨by decide, by decide⟩ rfl hl.1 rfl (Nat.le_of_ble_eq_true rfl) ⟨hc.1, hc.2⟩ dL_law_433 (fun v_ S_ T_ H locs hp hW hS => ?_)
    obtain ⟨rfl, rfl, rfl⟩ := hp
    try dsimp only [Option.toList, List.cons_append, List.nil_append]
    refine stk_i (v := 0) (by rw [if_pos hq, s2_eq]) ?_
    refine lv_iload hx hb dL_law_436 (lv_at hl 1 rfl) ?_
    refine lv_icmp_eq (tgt := 443) hx hb dL_law_438 (by decide) (fun _ => ?_) (fun q => absurd rfl q)
    refine lv_iload hx hb dL_law_443 (lv_at hl 1 rfl) ?_
    refine lv_if_ne (tgt := 460) hx hb dL_law_445 (by decide) (fun q => absurd rfl q) (fun _ => ?_)
    refine lv_aload_n hx hb dL_law_448 rfl (lv_at hL 1 rfl) ?_
    refine lv_iconst (v := 0) hx hb dL_law_449 (by decide) ?_
    refine o_get hx hb E.2.2.1 hW.2.2 dL_law_450 ?_
    refine lv_iload hx hb dL_law_451 (lv_at hl 0 rfl) ?_
    refine lv_i2l hx hb dL_law_453 rfl ?_
    refine W.lcmp hx hb dL_law_454 ?_
    have hv := hval (by rw [hcc, hq])
    have he : f' 0 = (if mRtC (μ 2) (xs (i + 1)) (xs (i + 2)) (xs (i + 3)) = true then mRat (μ 2) (xs (i + 1)).toNatClampNeg (xs (i + 2)) (xs (i + 3)) else 0).toInt64 := by rw [hv, zc_ratV hz hq, if_pos hq]
    refine lv_if_eq (tgt := 460) hx hb dL_law_455 (by decide) (fun _ => ?_) (fun q => absurd (by rw [he]; exact cmp_self _) q)
    refine lv_goto (tgt := 1038) hx hb dL_law_460 (by decide) ?_
    exact kont _ _ _ _ _ _ _ _ (by rw [if_pos hq]; exact zA_0 hz 0) hW hS hL
  · refine stk_i (v := 1) (by rw [hcc, hq]; rfl) ?_
    refine lv_istore (lv' := (5, .int 1) :: LO b ad am q0 i) hx hb dL_law_406 hl (by decide) rfl (fun ls hl => ?_)
    have hL := lv_sub (l' := LO b ad am q0 i) hl [1, 2, 3, 4, 5] rfl
    refine lv_aload_n hx hb dL_law_408 rfl (lv_at hL 2 rfl) ?_
    refine l_arg (n := 1) (pc := 409) (pc' := 415) E hS hi hL (by decide) (by decide) rfl dL_law_409 dL_law_410 dL_law_412 dL_law_413 dL_law_414 ?_
    refine l_arg (n := 2) (pc := 415) (pc' := 421) E hS hi hL (by decide) (by decide) rfl dL_law_415 dL_law_416 dL_law_418 dL_law_419 dL_law_420 ?_
    refine l_arg (n := 3) (pc := 421) (pc' := 427) E hS hi hL (by decide) (by decide) rfl dL_law_421 dL_law_422 dL_law_424 dL_law_425 dL_law_426 ?_
    refine lcM (y := yX9_ratio) (rest := []) E hW hS (c_X9_ratio l D ca am F.2.1 μ υ (zA_RI hz) (xs (i + 1)) (xs (i + 2)) (xs (i + 3))) ok_X9_ratio gw_1132 ⟨by decide, by decide⟩ rfl hl.1 rfl (Nat.le_of_ble_eq_true rfl) ⟨hc.1, hc.2⟩ dL_law_427 (fun v_ S_ T_ H locs hp hW hS => ?_)
    obtain ⟨rfl, rfl, rfl⟩ := hp
    try dsimp only [Option.toList, List.cons_append, List.nil_append]
    refine lv_istore (lv' := (6, .int (if mRtC (μ 2) (xs (i + 1)) (xs (i + 2)) (xs (i + 3)) = true then mRat (μ 2) (xs (i + 1)).toNatClampNeg (xs (i + 2)) (xs (i + 3)) else 0)) :: (5, .int 1) :: LO b ad am q0 i) hx hb dL_law_430 hl (by decide) rfl (fun ls hl => ?_)
    have hL := lv_sub (l' := LO b ad am q0 i) hl [2, 3, 4, 5, 6] rfl
    refine lv_aload_n hx hb dL_law_432 rfl (lv_at hL 2 rfl) ?_
    refine lcM (y := yX9_thrown) (rest := []) E hW hS (c_X9_thrown l D ca am F.2.1 _ υ) ok_X9_thrown gw_917 ⟨by decide, by decide⟩ rfl hl.1 rfl (Nat.le_of_ble_eq_true rfl) ⟨hc.1, hc.2⟩ dL_law_433 (fun v_ S_ T_ H locs hp hW hS => ?_)
    obtain ⟨rfl, rfl, rfl⟩ := hp
    try dsimp only [Option.toList, List.cons_append, List.nil_append]
    refine stk_i (v := 1) (by rw [if_neg (by rw [hq]; exact Bool.false_ne_true), s2_eq]) ?_
    refine lv_iload hx hb dL_law_436 (lv_at hl 1 rfl) ?_
    refine lv_icmp_eq (tgt := 443) hx hb dL_law_438 (by decide) (fun _ => ?_) (fun q => absurd rfl q)
    refine lv_iload hx hb dL_law_443 (lv_at hl 1 rfl) ?_
    refine lv_if_ne (tgt := 460) hx hb dL_law_445 (by decide) (fun _ => ?_) (fun q => absurd q (by decide))
    refine lv_goto (tgt := 1038) hx hb dL_law_460 (by decide) ?_
    exact kont _ _ _ _ _ _ _ _ (by rw [if_neg (by rw [hq]; exact Bool.false_ne_true)]; exact zA_0 (zA_0 hz 0) 1) hW hS hL
set_option maxHeartbeats 4000000 in
set_option maxRecDepth 100000 in
theorem lw_price {p : Program} {l : Launch} {e : Env} {s : State} {m : MethodId} {below : List Frame} {meth : Method} {c : Code} {b L : Nat} {xs : Nat → Int32} {D : va_G} {ca : Nat → ClassId} {ad am : Nat → Nat} {q0 : Nat} {adK adV : Nat → Nat} {H : Heap} {locs : List Loc} {cells slots : Nat} {Q : State → Prop} {ls : Array Slot} {σ : MI} {τ : ML} {μ : MI} {υ : ML} {f : Nat → Int64} {i : Nat} (E : LE p l s m meth c b L xs D ca ad am q0 adK adV) (hz : zA σ τ μ) (hW : LWd D ca ad am q0 σ τ μ υ f H) (hS : va_S (A0 s) s.heap H locs) (hi : i + 6 ≤ L) (hl : lv_has ls 8 (LO b ad am q0 i)) (hc : cells + 1 ≤ 601024 ∧ slots + 6 ≤ 7293034) (kont : KO p l e room_1 s m below meth c b D ca ad am q0 i cells slots Q) : W p l e room_1 s m #[Value.ref b] below meth c H locs cells slots Q (F0 m 500 ls []) := by
  have hx := E.1.1
  have hb := E.1.2.1
  have F := E.lay
  refine lv_aload_n hx hb dL_law_500 rfl (lv_at hl 3 rfl) ?_
  refine l_arg (n := 1) (pc := 501) (pc' := 507) E hS hi hl (by decide) (by decide) rfl dL_law_501 dL_law_502 dL_law_504 dL_law_505 dL_law_506 ?_
  refine l_arg (n := 2) (pc := 507) (pc' := 513) E hS hi hl (by decide) (by decide) rfl dL_law_507 dL_law_508 dL_law_510 dL_law_511 dL_law_512 ?_
  refine l_arg (n := 3) (pc := 513) (pc' := 519) E hS hi hl (by decide) (by decide) rfl dL_law_513 dL_law_514 dL_law_516 dL_law_517 dL_law_518 ?_
  refine lv_aload_n hx hb dL_law_519 rfl (lv_at hl 1 rfl) ?_
  have hcc := zc_priC hz (xs (i + 1)) (xs (i + 2)) (xs (i + 3))
  refine lcH (y := yL_price) (n := 5) (rest := []) E hW hS (h_price l E.2.2.2.2.2.2.2.1 D ca ad F.1 q0 F.2.2.2.1 σ τ f (xs (i + 1)) (xs (i + 2)) (xs (i + 3))) kw_price gw_883 gw_884 gw_57 (by decide +kernel) ⟨by decide, by decide⟩ rfl hl.1 rfl (Nat.le_of_ble_eq_true rfl) ⟨hc.1, hc.2⟩ dL_law_520 (fun f' H locs hval hW hS => ?_)
  rcases Bool.eq_false_or_eq_true (mPrC (μ 2) (xs (i + 1)) (xs (i + 2)) (xs (i + 3))) with hq | hq
  · refine stk_i (v := 0) (by rw [hcc, hq]; rfl) ?_
    refine lv_istore (lv' := (5, .int 0) :: LO b ad am q0 i) hx hb dL_law_523 hl (by decide) rfl (fun ls hl => ?_)
    have hL := lv_sub (l' := LO b ad am q0 i) hl [1, 2, 3, 4, 5] rfl
    refine lv_aload_n hx hb dL_law_525 rfl (lv_at hL 2 rfl) ?_
    refine l_arg (n := 1) (pc := 526) (pc' := 532) E hS hi hL (by decide) (by decide) rfl dL_law_526 dL_law_527 dL_law_529 dL_law_530 dL_law_531 ?_
    refine l_arg (n := 2) (pc := 532) (pc' := 538) E hS hi hL (by decide) (by decide) rfl dL_law_532 dL_law_533 dL_law_535 dL_law_536 dL_law_537 ?_
    refine l_arg (n := 3) (pc := 538) (pc' := 544) E hS hi hL (by decide) (by decide) rfl dL_law_538 dL_law_539 dL_law_541 dL_law_542 dL_law_543 ?_
    refine lcM (y := yX9_price) (rest := []) E hW hS (c_X9_price l D ca am F.2.1 μ υ (zA_RI hz) (xs (i + 1)) (xs (i + 2)) (xs (i + 3))) ok_X9_price gw_1159 ⟨by decide, by decide⟩ rfl hl.1 rfl (Nat.le_of_ble_eq_true rfl) ⟨hc.1, hc.2⟩ dL_law_544 (fun v_ S_ T_ H locs hp hW hS => ?_)
    obtain ⟨rfl, rfl, rfl⟩ := hp
    try dsimp only [Option.toList, List.cons_append, List.nil_append]
    refine lv_istore (lv' := (6, .int (mPrR (μ 2) (xs (i + 1)) (xs (i + 2)) (xs (i + 3)))) :: (5, .int 0) :: LO b ad am q0 i) hx hb dL_law_547 hl (by decide) rfl (fun ls hl => ?_)
    have hL := lv_sub (l' := LO b ad am q0 i) hl [2, 3, 4, 5, 6] rfl
    refine lv_aload_n hx hb dL_law_549 rfl (lv_at hL 2 rfl) ?_
    refine lcM (y := yX9_thrown) (rest := []) E hW hS (c_X9_thrown l D ca am F.2.1 _ υ) ok_X9_thrown gw_917 ⟨by decide, by decide⟩ rfl hl.1 rfl (Nat.le_of_ble_eq_true rfl) ⟨hc.1, hc.2⟩ dL_law_550 (fun v_ S_ T_ H locs hp hW hS => ?_)
    obtain ⟨rfl, rfl, rfl⟩ := hp
    try dsimp only [Option.toList, List.cons_append, List.nil_append]
    refine stk_i (v := 0) (by rw [if_pos hq, s2_eq]) ?_
    refine lv_iload hx hb dL_law_553 (lv_at hl 1 rfl) ?_
    refine lv_icmp_eq (tgt := 560) hx hb dL_law_555 (by decide) (fun _ => ?_) (fun q => absurd rfl q)
    refine lv_iload hx hb dL_law_560 (lv_at hl 1 rfl) ?_
    refine lv_if_ne (tgt := 577) hx hb dL_law_562 (by decide) (fun q => absurd rfl q) (fun _ => ?_)
    refine lv_aload_n hx hb dL_law_565 rfl (lv_at hL 1 rfl) ?_
    refine lv_iconst (v := 0) hx hb dL_law_566 (by decide) ?_
    refine o_get hx hb E.2.2.1 hW.2.2 dL_law_567 ?_
    refine lv_iload hx hb dL_law_568 (lv_at hl 0 rfl) ?_
    refine lv_i2l hx hb dL_law_570 rfl ?_
    refine W.lcmp hx hb dL_law_571 ?_
    have hv := hval (by rw [hcc, hq])
    have he : f' 0 = (mPrR (μ 2) (xs (i + 1)) (xs (i + 2)) (xs (i + 3))).toInt64 := by rw [hv, zc_priV hz hq]
    refine lv_if_eq (tgt := 577) hx hb dL_law_572 (by decide) (fun _ => ?_) (fun q => absurd (by rw [he]; exact cmp_self _) q)
    refine lv_goto (tgt := 1038) hx hb dL_law_577 (by decide) ?_
    exact kont _ _ _ _ _ _ _ _ (by rw [if_pos hq]; exact zA_0 hz 0) hW hS hL
  · refine stk_i (v := 1) (by rw [hcc, hq]; rfl) ?_
    refine lv_istore (lv' := (5, .int 1) :: LO b ad am q0 i) hx hb dL_law_523 hl (by decide) rfl (fun ls hl => ?_)
    have hL := lv_sub (l' := LO b ad am q0 i) hl [1, 2, 3, 4, 5] rfl
    refine lv_aload_n hx hb dL_law_525 rfl (lv_at hL 2 rfl) ?_
    refine l_arg (n := 1) (pc := 526) (pc' := 532) E hS hi hL (by decide) (by decide) rfl dL_law_526 dL_law_527 dL_law_529 dL_law_530 dL_law_531 ?_
    refine l_arg (n := 2) (pc := 532) (pc' := 538) E hS hi hL (by decide) (by decide) rfl dL_law_532 dL_law_533 dL_law_535 dL_law_536 dL_law_537 ?_
    refine l_arg (n := 3) (pc := 538) (pc' := 544) E hS hi hL (by decide) (by decide) rfl dL_law_538 dL_law_539 dL_law_541 dL_law_542 dL_law_543 ?_
    refine lcM (y := yX9_price) (rest := []) E hW hS (c_X9_price l D ca am F.2.1 μ υ (zA_RI hz) (xs (i + 1)) (xs (i + 2)) (xs (i + 3))) ok_X9_price gw_1159 ⟨by decide, by decide⟩ rfl hl.1 rfl (Nat.le_of_ble_eq_true rfl) ⟨hc.1, hc.2⟩ dL_law_544 (fun v_ S_ T_ H locs hp hW hS => ?_)
    obtain ⟨rfl, rfl, rfl⟩ := hp
    try dsimp only [Option.toList, List.cons_append, List.nil_append]
    refine lv_istore (lv' := (6, .int (mPrR (μ 2) (xs (i + 1)) (xs (i + 2)) (xs (i + 3)))) :: (5, .int 1) :: LO b ad am q0 i) hx hb dL_law_547 hl (by decide) rfl (fun ls hl => ?_)
    have hL := lv_sub (l' := LO b ad am q0 i) hl [2, 3, 4, 5, 6] rfl
    refine lv_aload_n hx hb dL_law_549 rfl (lv_at hL 2 rfl) ?_
    refine lcM (y := yX9_thrown) (rest := []) E hW hS (c_X9_thrown l D ca am F.2.1 _ υ) ok_X9_thrown gw_917 ⟨by decide, by decide⟩ rfl hl.1 rfl (Nat.le_of_ble_eq_true rfl) ⟨hc.1, hc.2⟩ dL_law_550 (fun v_ S_ T_ H locs hp hW hS => ?_)
    obtain ⟨rfl, rfl, rfl⟩ := hp
    try dsimp only [Option.toList, List.cons_append, List.nil_append]
    refine stk_i (v := 1) (by rw [if_neg (by rw [hq]; exact Bool.false_ne_true), s2_eq]) ?_
    refine lv_iload hx hb dL_law_553 (lv_at hl 1 rfl) ?_
    refine lv_icmp_eq (tgt := 560) hx hb dL_law_555 (by decide) (fun _ => ?_) (fun q => absurd rfl q)
    refine lv_iload hx hb dL_law_560 (lv_at hl 1 rfl) ?_
    refine lv_if_ne (tgt := 577) hx hb dL_law_562 (by decide) (fun _ => ?_) (fun q => absurd q (by decide))
    refine lv_goto (tgt := 1038) hx hb dL_law_577 (by decide) ?_
    exact kont _ _ _ _ _ _ _ _ (by rw [if_neg (by rw [hq]; exact Bool.false_ne_true)]; exact zA_0 (zA_0 hz 0) 1) hW hS hL
set_option maxHeartbeats 4000000 in
set_option maxRecDepth 100000 in
theorem lw_amount {p : Program} {l : Launch} {e : Env} {s : State} {m : MethodId} {below : List Frame} {meth : Method} {c : Code} {b L : Nat} {xs : Nat → Int32} {D : va_G} {ca : Nat → ClassId} {ad am : Nat → Nat} {q0 : Nat} {adK adV : Nat → Nat} {H : Heap} {locs : List Loc} {cells slots : Nat} {Q : State → Prop} {ls : Array Slot} {σ : MI} {τ : ML} {μ : MI} {υ : ML} {f : Nat → Int64} {i : Nat} (E : LE p l s m meth c b L xs D ca ad am q0 adK adV) (hz : zA σ τ μ) (hW : LWd D ca ad am q0 σ τ μ υ f H) (hS : va_S (A0 s) s.heap H locs) (hi : i + 6 ≤ L) (hl : lv_has ls 8 (LO b ad am q0 i)) (hc : cells + 1 ≤ 601024 ∧ slots + 6 ≤ 7293034) (kont : KO p l e room_1 s m below meth c b D ca ad am q0 i cells slots Q) : W p l e room_1 s m #[Value.ref b] below meth c H locs cells slots Q (F0 m 703 ls []) := by
  have hx := E.1.1
  have hb := E.1.2.1
  have F := E.lay
  refine lv_aload_n hx hb dL_law_703 rfl (lv_at hl 3 rfl) ?_
  refine l_arg (n := 1) (pc := 704) (pc' := 710) E hS hi hl (by decide) (by decide) rfl dL_law_704 dL_law_705 dL_law_707 dL_law_708 dL_law_709 ?_
  refine l_arg (n := 2) (pc := 710) (pc' := 716) E hS hi hl (by decide) (by decide) rfl dL_law_710 dL_law_711 dL_law_713 dL_law_714 dL_law_715 ?_
  refine lv_aload_n hx hb dL_law_716 rfl (lv_at hl 1 rfl) ?_
  have hcc := zc_amoC hz (xs (i + 1)) (xs (i + 2))
  refine lcH (y := yL_amount) (n := 4) (rest := []) E hW hS (h_amount l E.2.2.2.2.2.2.2.1 D ca ad F.1 q0 F.2.2.2.1 σ τ f (xs (i + 1)) (xs (i + 2))) kw_amount gw_893 gw_894 gw_57 (by decide +kernel) ⟨by decide, by decide⟩ rfl hl.1 rfl (Nat.le_of_ble_eq_true rfl) ⟨hc.1, hc.2⟩ dL_law_717 (fun f' H locs hval hW hS => ?_)
  rcases Bool.eq_false_or_eq_true (mAmC (μ 2) (xs (i + 1)) (xs (i + 2))) with hq | hq
  · refine stk_i (v := 0) (by rw [hcc, hq]; rfl) ?_
    refine lv_istore (lv' := (5, .int 0) :: LO b ad am q0 i) hx hb dL_law_720 hl (by decide) rfl (fun ls hl => ?_)
    have hL := lv_sub (l' := LO b ad am q0 i) hl [1, 2, 3, 4, 5] rfl
    refine lv_aload_n hx hb dL_law_722 rfl (lv_at hL 2 rfl) ?_
    refine l_arg (n := 1) (pc := 723) (pc' := 729) E hS hi hL (by decide) (by decide) rfl dL_law_723 dL_law_724 dL_law_726 dL_law_727 dL_law_728 ?_
    refine l_arg (n := 2) (pc := 729) (pc' := 735) E hS hi hL (by decide) (by decide) rfl dL_law_729 dL_law_730 dL_law_732 dL_law_733 dL_law_734 ?_
    refine lcM (y := yX9_amount) (rest := []) E hW hS (c_X9_amount l D ca am F.2.1 μ υ (zA_RI hz) (xs (i + 1)) (xs (i + 2))) ok_X9_amount gw_1203 ⟨by decide, by decide⟩ rfl hl.1 rfl (Nat.le_of_ble_eq_true rfl) ⟨hc.1, hc.2⟩ dL_law_735 (fun v_ S_ T_ H locs hp hW hS => ?_)
    obtain ⟨rfl, rfl, rfl⟩ := hp
    try dsimp only [Option.toList, List.cons_append, List.nil_append]
    refine lv_lstore (lv' := (6, .long (mAmR (μ 2) (xs (i + 1)) (xs (i + 2)))) :: (5, .int 0) :: LO b ad am q0 i) hx hb dL_law_738 hl (by decide) rfl (fun ls hl => ?_)
    have hL := lv_sub (l' := LO b ad am q0 i) hl [2, 3, 4, 5, 6] rfl
    refine lv_aload_n hx hb dL_law_740 rfl (lv_at hL 2 rfl) ?_
    refine lcM (y := yX9_thrown) (rest := []) E hW hS (c_X9_thrown l D ca am F.2.1 _ υ) ok_X9_thrown gw_917 ⟨by decide, by decide⟩ rfl hl.1 rfl (Nat.le_of_ble_eq_true rfl) ⟨hc.1, hc.2⟩ dL_law_741 (fun v_ S_ T_ H locs hp hW hS => ?_)
    obtain ⟨rfl, rfl, rfl⟩ := hp
    try dsimp only [Option.toList, List.cons_append, List.nil_append]
    refine stk_i (v := 0) (by rw [if_pos hq, s2_eq]) ?_
    refine lv_iload hx hb dL_law_744 (lv_at hl 1 rfl) ?_
    refine lv_icmp_eq (tgt := 751) hx hb dL_law_746 (by decide) (fun _ => ?_) (fun q => absurd rfl q)
    refine lv_iload hx hb dL_law_751 (lv_at hl 1 rfl) ?_
    refine lv_if_ne (tgt := 767) hx hb dL_law_753 (by decide) (fun q => absurd rfl q) (fun _ => ?_)
    refine lv_aload_n hx hb dL_law_756 rfl (lv_at hL 1 rfl) ?_
    refine lv_iconst (v := 0) hx hb dL_law_757 (by decide) ?_
    refine o_get hx hb E.2.2.1 hW.2.2 dL_law_758 ?_
    refine lv_lload hx hb dL_law_759 (lv_at hl 0 rfl) ?_
    refine W.lcmp hx hb dL_law_761 ?_
    have hv := hval (by rw [hcc, hq])
    have he : f' 0 = mAmR (μ 2) (xs (i + 1)) (xs (i + 2)) := by rw [hv, zc_amoV hz hq]
    refine lv_if_eq (tgt := 767) hx hb dL_law_762 (by decide) (fun _ => ?_) (fun q => absurd (by rw [he]; exact cmp_self _) q)
    refine lv_goto (tgt := 1038) hx hb dL_law_767 (by decide) ?_
    exact kont _ _ _ _ _ _ _ _ (by rw [if_pos hq]; exact zA_0 hz 0) hW hS hL
  · refine stk_i (v := 1) (by rw [hcc, hq]; rfl) ?_
    refine lv_istore (lv' := (5, .int 1) :: LO b ad am q0 i) hx hb dL_law_720 hl (by decide) rfl (fun ls hl => ?_)
    have hL := lv_sub (l' := LO b ad am q0 i) hl [1, 2, 3, 4, 5] rfl
    refine lv_aload_n hx hb dL_law_722 rfl (lv_at hL 2 rfl) ?_
    refine l_arg (n := 1) (pc := 723) (pc' := 729) E hS hi hL (by decide) (by decide) rfl dL_law_723 dL_law_724 dL_law_726 dL_law_727 dL_law_728 ?_
    refine l_arg (n := 2) (pc := 729) (pc' := 735) E hS hi hL (by decide) (by decide) rfl dL_law_729 dL_law_730 dL_law_732 dL_law_733 dL_law_734 ?_
    refine lcM (y := yX9_amount) (rest := []) E hW hS (c_X9_amount l D ca am F.2.1 μ υ (zA_RI hz) (xs (i + 1)) (xs (i + 2))) ok_X9_amount gw_1203 ⟨by decide, by decide⟩ rfl hl.1 rfl (Nat.le_of_ble_eq_true rfl) ⟨hc.1, hc.2⟩ dL_law_735 (fun v_ S_ T_ H locs hp hW hS => ?_)
    obtain ⟨rfl, rfl, rfl⟩ := hp
    try dsimp only [Option.toList, List.cons_append, List.nil_append]
    refine lv_lstore (lv' := (6, .long (mAmR (μ 2) (xs (i + 1)) (xs (i + 2)))) :: (5, .int 1) :: LO b ad am q0 i) hx hb dL_law_738 hl (by decide) rfl (fun ls hl => ?_)
    have hL := lv_sub (l' := LO b ad am q0 i) hl [2, 3, 4, 5, 6] rfl
    refine lv_aload_n hx hb dL_law_740 rfl (lv_at hL 2 rfl) ?_
    refine lcM (y := yX9_thrown) (rest := []) E hW hS (c_X9_thrown l D ca am F.2.1 _ υ) ok_X9_thrown gw_917 ⟨by decide, by decide⟩ rfl hl.1 rfl (Nat.le_of_ble_eq_true rfl) ⟨hc.1, hc.2⟩ dL_law_741 (fun v_ S_ T_ H locs hp hW hS => ?_)
    obtain ⟨rfl, rfl, rfl⟩ := hp
    try dsimp only [Option.toList, List.cons_append, List.nil_append]
    refine stk_i (v := 1) (by rw [if_neg (by rw [hq]; exact Bool.false_ne_true), s2_eq]) ?_
    refine lv_iload hx hb dL_law_744 (lv_at hl 1 rfl) ?_
    refine lv_icmp_eq (tgt := 751) hx hb dL_law_746 (by decide) (fun _ => ?_) (fun q => absurd rfl q)
    refine lv_iload hx hb dL_law_751 (lv_at hl 1 rfl) ?_
    refine lv_if_ne (tgt := 767) hx hb dL_law_753 (by decide) (fun _ => ?_) (fun q => absurd q (by decide))
    refine lv_goto (tgt := 1038) hx hb dL_law_767 (by decide) ?_
    exact kont _ _ _ _ _ _ _ _ (by rw [if_neg (by rw [hq]; exact Bool.false_ne_true)]; exact zA_0 (zA_0 hz 0) 1) hW hS hL
set_option maxHeartbeats 4000000 in
set_option maxRecDepth 100000 in
theorem lw_statement {p : Program} {l : Launch} {e : Env} {s : State} {m : MethodId} {below : List Frame} {meth : Method} {c : Code} {b L : Nat} {xs : Nat → Int32} {D : va_G} {ca : Nat → ClassId} {ad am : Nat → Nat} {q0 : Nat} {adK adV : Nat → Nat} {H : Heap} {locs : List Loc} {cells slots : Nat} {Q : State → Prop} {ls : Array Slot} {σ : MI} {τ : ML} {μ : MI} {υ : ML} {f : Nat → Int64} {i : Nat} (E : LE p l s m meth c b L xs D ca ad am q0 adK adV) (hz : zA σ τ μ) (hW : LWd D ca ad am q0 σ τ μ υ f H) (hS : va_S (A0 s) s.heap H locs) (hi : i + 6 ≤ L) (hl : lv_has ls 8 (LO b ad am q0 i)) (hc : cells + 1 ≤ 601024 ∧ slots + 6 ≤ 7293034) (kont : KO p l e room_1 s m below meth c b D ca ad am q0 i cells slots Q) : W p l e room_1 s m #[Value.ref b] below meth c H locs cells slots Q (F0 m 770 ls []) := by
  have hx := E.1.1
  have hb := E.1.2.1
  have F := E.lay
  refine lv_aload_n hx hb dL_law_770 rfl (lv_at hl 3 rfl) ?_
  refine l_arg (n := 1) (pc := 771) (pc' := 777) E hS hi hl (by decide) (by decide) rfl dL_law_771 dL_law_772 dL_law_774 dL_law_775 dL_law_776 ?_
  refine l_arg (n := 2) (pc := 777) (pc' := 783) E hS hi hl (by decide) (by decide) rfl dL_law_777 dL_law_778 dL_law_780 dL_law_781 dL_law_782 ?_
  refine lv_aload_n hx hb dL_law_783 rfl (lv_at hl 1 rfl) ?_
  have hcc := z_stC σ (xs (i + 1)) (xs (i + 2))
  refine lcH (y := yL_statement) (n := 4) (rest := []) E hW hS (h_statement l E.2.2.2.2.2.2.2.1 D ca ad F.1 q0 F.2.2.2.1 σ τ f (xs (i + 1)) (xs (i + 2))) kw_statement gw_901 gw_902 gw_57 (by decide +kernel) ⟨by decide, by decide⟩ rfl hl.1 rfl (Nat.le_of_ble_eq_true rfl) ⟨hc.1, hc.2⟩ dL_law_784 (fun f' H locs hval hW hS => ?_)
  rcases Bool.eq_false_or_eq_true (mStC (xs (i + 1)) (xs (i + 2))) with hq | hq
  · refine stk_i (v := 0) (by rw [hcc, hq]; rfl) ?_
    refine lv_istore (lv' := (5, .int 0) :: LO b ad am q0 i) hx hb dL_law_787 hl (by decide) rfl (fun ls hl => ?_)
    have hL := lv_sub (l' := LO b ad am q0 i) hl [1, 2, 3, 4, 5] rfl
    refine lv_aload_n hx hb dL_law_789 rfl (lv_at hL 2 rfl) ?_
    refine l_arg (n := 1) (pc := 790) (pc' := 796) E hS hi hL (by decide) (by decide) rfl dL_law_790 dL_law_791 dL_law_793 dL_law_794 dL_law_795 ?_
    refine l_arg (n := 2) (pc := 796) (pc' := 802) E hS hi hL (by decide) (by decide) rfl dL_law_796 dL_law_797 dL_law_799 dL_law_800 dL_law_801 ?_
    refine lcM (y := yX9_statement) (rest := []) E hW hS (c_X9_statement l D ca am F.2.1 μ υ (zA_RI hz) (xs (i + 1)) (xs (i + 2))) ok_X9_statement gw_1211 ⟨by decide, by decide⟩ rfl hl.1 rfl (Nat.le_of_ble_eq_true rfl) ⟨hc.1, hc.2⟩ dL_law_802 (fun v_ S_ T_ H locs hp hW hS => ?_)
    obtain ⟨rfl, rfl, rfl⟩ := hp
    try dsimp only [Option.toList, List.cons_append, List.nil_append]
    refine lv_lstore (lv' := (6, .long (mStR (μ 2) (xs (i + 1)) (xs (i + 2)))) :: (5, .int 0) :: LO b ad am q0 i) hx hb dL_law_805 hl (by decide) rfl (fun ls hl => ?_)
    have hL := lv_sub (l' := LO b ad am q0 i) hl [2, 3, 4, 5, 6] rfl
    refine lv_aload_n hx hb dL_law_807 rfl (lv_at hL 2 rfl) ?_
    refine lcM (y := yX9_thrown) (rest := []) E hW hS (c_X9_thrown l D ca am F.2.1 _ υ) ok_X9_thrown gw_917 ⟨by decide, by decide⟩ rfl hl.1 rfl (Nat.le_of_ble_eq_true rfl) ⟨hc.1, hc.2⟩ dL_law_808 (fun v_ S_ T_ H locs hp hW hS => ?_)
    obtain ⟨rfl, rfl, rfl⟩ := hp
    try dsimp only [Option.toList, List.cons_append, List.nil_append]
    refine stk_i (v := 0) (by rw [if_pos hq, s2_eq]) ?_
    refine lv_iload hx hb dL_law_811 (lv_at hl 1 rfl) ?_
    refine lv_icmp_eq (tgt := 818) hx hb dL_law_813 (by decide) (fun _ => ?_) (fun q => absurd rfl q)
    refine lv_iload hx hb dL_law_818 (lv_at hl 1 rfl) ?_
    refine lv_if_ne (tgt := 834) hx hb dL_law_820 (by decide) (fun q => absurd rfl q) (fun _ => ?_)
    refine lv_aload_n hx hb dL_law_823 rfl (lv_at hL 1 rfl) ?_
    refine lv_iconst (v := 0) hx hb dL_law_824 (by decide) ?_
    refine o_get hx hb E.2.2.1 hW.2.2 dL_law_825 ?_
    refine lv_lload hx hb dL_law_826 (lv_at hl 0 rfl) ?_
    refine W.lcmp hx hb dL_law_828 ?_
    have hv := hval (by rw [hcc, hq])
    have he : f' 0 = mStR (μ 2) (xs (i + 1)) (xs (i + 2)) := by rw [hv, zc_staV hz hq]
    refine lv_if_eq (tgt := 834) hx hb dL_law_829 (by decide) (fun _ => ?_) (fun q => absurd (by rw [he]; exact cmp_self _) q)
    refine lv_goto (tgt := 1038) hx hb dL_law_834 (by decide) ?_
    exact kont _ _ _ _ _ _ _ _ (by rw [if_pos hq]; exact zA_0 hz 0) hW hS hL
  · refine stk_i (v := 1) (by rw [hcc, hq]; rfl) ?_
    refine lv_istore (lv' := (5, .int 1) :: LO b ad am q0 i) hx hb dL_law_787 hl (by decide) rfl (fun ls hl => ?_)
    have hL := lv_sub (l' := LO b ad am q0 i) hl [1, 2, 3, 4, 5] rfl
    refine lv_aload_n hx hb dL_law_789 rfl (lv_at hL 2 rfl) ?_
    refine l_arg (n := 1) (pc := 790) (pc' := 796) E hS hi hL (by decide) (by decide) rfl dL_law_790 dL_law_791 dL_law_793 dL_law_794 dL_law_795 ?_
    refine l_arg (n := 2) (pc := 796) (pc' := 802) E hS hi hL (by decide) (by decide) rfl dL_law_796 dL_law_797 dL_law_799 dL_law_800 dL_law_801 ?_
    refine lcM (y := yX9_statement) (rest := []) E hW hS (c_X9_statement l D ca am F.2.1 μ υ (zA_RI hz) (xs (i + 1)) (xs (i + 2))) ok_X9_statement gw_1211 ⟨by decide, by decide⟩ rfl hl.1 rfl (Nat.le_of_ble_eq_true rfl) ⟨hc.1, hc.2⟩ dL_law_802 (fun v_ S_ T_ H locs hp hW hS => ?_)
    obtain ⟨rfl, rfl, rfl⟩ := hp
    try dsimp only [Option.toList, List.cons_append, List.nil_append]
    refine lv_lstore (lv' := (6, .long (mStR (μ 2) (xs (i + 1)) (xs (i + 2)))) :: (5, .int 1) :: LO b ad am q0 i) hx hb dL_law_805 hl (by decide) rfl (fun ls hl => ?_)
    have hL := lv_sub (l' := LO b ad am q0 i) hl [2, 3, 4, 5, 6] rfl
    refine lv_aload_n hx hb dL_law_807 rfl (lv_at hL 2 rfl) ?_
    refine lcM (y := yX9_thrown) (rest := []) E hW hS (c_X9_thrown l D ca am F.2.1 _ υ) ok_X9_thrown gw_917 ⟨by decide, by decide⟩ rfl hl.1 rfl (Nat.le_of_ble_eq_true rfl) ⟨hc.1, hc.2⟩ dL_law_808 (fun v_ S_ T_ H locs hp hW hS => ?_)
    obtain ⟨rfl, rfl, rfl⟩ := hp
    try dsimp only [Option.toList, List.cons_append, List.nil_append]
    refine stk_i (v := 1) (by rw [if_neg (by rw [hq]; exact Bool.false_ne_true), s2_eq]) ?_
    refine lv_iload hx hb dL_law_811 (lv_at hl 1 rfl) ?_
    refine lv_icmp_eq (tgt := 818) hx hb dL_law_813 (by decide) (fun _ => ?_) (fun q => absurd rfl q)
    refine lv_iload hx hb dL_law_818 (lv_at hl 1 rfl) ?_
    refine lv_if_ne (tgt := 834) hx hb dL_law_820 (by decide) (fun _ => ?_) (fun q => absurd q (by decide))
    refine lv_goto (tgt := 1038) hx hb dL_law_834 (by decide) ?_
    exact kont _ _ _ _ _ _ _ _ (by rw [if_neg (by rw [hq]; exact Bool.false_ne_true)]; exact zA_0 (zA_0 hz 0) 1) hW hS hL
