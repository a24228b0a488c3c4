/-! ===== ratio, price, amount, statement of the law ===== -/
set_option maxHeartbeats 4000000 in
set_option maxRecDepth 100000 in
theorem h_ratio (l : Launch) (hfl : l.stackTraces = false) (D : va_G) (ca : Nat → ClassId) (ad : Nat → Nat) (hI : Inj 158 ad) (q0 : Nat) (hq0 : ¬ AA 158 ad q0) (σ : MI) (τ : ML) (f : Nat → Int64) (x a z : Int32) : HT l D ca ad q0 yL_ratio cL_ratio 6 [(0, 12, 15, 13)] 7 105 [.ref (ad 0), .int x, .int a, .int z, .ref q0] σ τ f (raC σ x a z) ((raV σ x a z).toInt64) := by
  refine HT.of (by decide) (Nat.le_of_ble_eq_true rfl) ?_
  intro p e s m args below meth c hx hb hr ht hown hlk hml hP htab ls hl
  have hl : lv_has ls 6 [(0, .ref (ad 0)), (1, .int x), (2, .int a), (3, .int z), (4, .ref q0)] := hl
  have hK := hP.1.2.1
  refine lv_aload hx hb dL_ratio_0 (lv_at hl 4 rfl) ?_
  refine lv_iconst (v := 0) hx hb dL_ratio_2 (by decide) ?_
  refine lv_aload_n hx hb dL_ratio_3 rfl (lv_at hl 0 rfl) ?_
  refine lv_iload_n hx hb dL_ratio_4 rfl (lv_at hl 1 rfl) ?_
  refine lv_iload_n hx hb dL_ratio_5 rfl (lv_at hl 2 rfl) ?_
  refine lv_iload_n hx hb dL_ratio_6 rfl (lv_at hl 3 rfl) ?_
  refine xcall (y := yX8_ratio) (rest := [.int 0, .ref q0]) ⟨hx, hb, hml, hown, ht⟩ hP hq0 (c_X8_ratio l hfl D ca ad hI σ τ x a z) ok_X8_ratio gw_816 ⟨by decide, by decide⟩ rfl hl.1 rfl (Nat.le_of_ble_eq_true rfl) ⟨by decide, by decide⟩ dL_ratio_7 (fun ce q9 H1 locs1 hthr hPW ho hS h6 h7 h8 => ?_) (fun v S T H1 locs1 hp hPW ho hS => ?_)
  · refine vx_catch (own := RL) (name := NSE) hown [] ⟨0, 12, 15, 13⟩ [] htab (fun z hz => nomatch hz) (by decide) (by decide) (ht _ gw_815) (va_Nw.use rfl hP.2.2.2) h6 h7 h8 ?_
    show W _ _ _ _ _ _ _ _ _ _ _ _ _ _ _ (F0 m 15 ls [.ref q9])
    refine lv_astore (lv' := [(5, .ref q9), (0, .ref (ad 0)), (1, .int x), (2, .int a), (3, .int z), (4, .ref q0)]) hx hb dL_ratio_15 hl (by decide) rfl (fun ls hl => ?_)
    refine lv_iconst (v := 1) hx hb dL_ratio_17 (by decide) ?_
    refine h_ret hx hb hr hlk hPW ho hS ?_ (fun q => ?_) dL_ratio_18
    · rw [hthr]; rfl
    · rw [hthr] at q; cases q
  · obtain ⟨hok, rfl, rfl, rfl⟩ := hp
    try dsimp only [Option.toList, List.cons_append, List.nil_append]
    refine lv_i2l hx hb dL_ratio_10 rfl ?_
    refine o_put hx hb hK hq0 hPW ho hS dL_ratio_11 (fun H2 locs2 hPW ho hS => ?_)
    refine lv_goto (tgt := 19) hx hb dL_ratio_12 (by decide) ?_
    refine lv_iconst (v := 0) hx hb dL_ratio_19 (by decide) ?_
    refine h_ret hx hb hr hlk hPW ho hS ?_ (fun _ => rfl) dL_ratio_20
    rw [hok]; rfl
set_option maxHeartbeats 4000000 in
set_option maxRecDepth 100000 in
theorem h_price (l : Launch) (hfl : l.stackTraces = false) (D : va_G) (ca : Nat → ClassId) (ad : Nat → Nat) (hI : Inj 158 ad) (q0 : Nat) (hq0 : ¬ AA 158 ad q0) (σ : MI) (τ : ML) (f : Nat → Int64) (x mo w : Int32) : HT l D ca ad q0 yL_price cL_price 6 [(0, 12, 15, 13)] 7 120 [.ref (ad 0), .int x, .int mo, .int w, .ref q0] σ τ f (pcC σ x mo w) ((pcV σ x mo w).toInt64) := by
  refine HT.of (by decide) (Nat.le_of_ble_eq_true rfl) ?_
  intro p e s m args below meth c hx hb hr ht hown hlk hml hP htab ls hl
  have hl : lv_has ls 6 [(0, .ref (ad 0)), (1, .int x), (2, .int mo), (3, .int w), (4, .ref q0)] := hl
  have hK := hP.1.2.1
  refine lv_aload hx hb dL_price_0 (lv_at hl 4 rfl) ?_
  refine lv_iconst (v := 0) hx hb dL_price_2 (by decide) ?_
  refine lv_aload_n hx hb dL_price_3 rfl (lv_at hl 0 rfl) ?_
  refine lv_iload_n hx hb dL_price_4 rfl (lv_at hl 1 rfl) ?_
  refine lv_iload_n hx hb dL_price_5 rfl (lv_at hl 2 rfl) ?_
  refine lv_iload_n hx hb dL_price_6 rfl (lv_at hl 3 rfl) ?_
  refine xcall (y := yX8_price) (rest := [.int 0, .ref q0]) ⟨hx, hb, hml, hown, ht⟩ hP hq0 (c_X8_price l hfl D ca ad hI σ τ x mo w) ok_X8_price gw_886 ⟨by decide, by decide⟩ rfl hl.1 rfl (Nat.le_of_ble_eq_true rfl) ⟨by decide, by decide⟩ dL_price_7 (fun ce q9 H1 locs1 hthr hPW ho hS h6 h7 h8 => ?_) (fun v S T H1 locs1 hp hPW ho hS => ?_)
  · refine vx_catch (own := RL) (name := NSE) hown [] ⟨0, 12, 15, 13⟩ [] htab (fun z hz => nomatch hz) (by decide) (by decide) (ht _ gw_815) (va_Nw.use rfl hP.2.2.2) h6 h7 h8 ?_
    show W _ _ _ _ _ _ _ _ _ _ _ _ _ _ _ (F0 m 15 ls [.ref q9])
    refine lv_astore (lv' := [(5, .ref q9), (0, .ref (ad 0)), (1, .int x), (2, .int mo), (3, .int w), (4, .ref q0)]) hx hb dL_price_15 hl (by decide) rfl (fun ls hl => ?_)
    refine lv_iconst (v := 1) hx hb dL_price_17 (by decide) ?_
    refine h_ret hx hb hr hlk hPW ho hS ?_ (fun q => ?_) dL_price_18
    · rw [hthr]; rfl
    · rw [hthr] at q; cases q
  · obtain ⟨hok, rfl, rfl, rfl⟩ := hp
    try dsimp only [Option.toList, List.cons_append, List.nil_append]
    refine lv_i2l hx hb dL_price_10 rfl ?_
    refine o_put hx hb hK hq0 hPW ho hS dL_price_11 (fun H2 locs2 hPW ho hS => ?_)
    refine lv_goto (tgt := 19) hx hb dL_price_12 (by decide) ?_
    refine lv_iconst (v := 0) hx hb dL_price_19 (by decide) ?_
    refine h_ret hx hb hr hlk hPW ho hS ?_ (fun _ => rfl) dL_price_20
    rw [hok]; rfl
set_option maxHeartbeats 4000000 in
set_option maxRecDepth 100000 in
theorem h_amount (l : Launch) (hfl : l.stackTraces = false) (D : va_G) (ca : Nat → ClassId) (ad : Nat → Nat) (hI : Inj 158 ad) (q0 : Nat) (hq0 : ¬ AA 158 ad q0) (σ : MI) (τ : ML) (f : Nat → Int64) (x w : Int32) : HT l D ca ad q0 yL_amount cL_amount 5 [(0, 9, 12, 13)] 7 104 [.ref (ad 0), .int x, .int w, .ref q0] σ τ f (amC σ x w) (amV σ τ x w) := by
  refine HT.of (by decide) (Nat.le_of_ble_eq_true rfl) ?_
  intro p e s m args below meth c hx hb hr ht hown hlk hml hP htab ls hl
  have hl : lv_has ls 5 [(0, .ref (ad 0)), (1, .int x), (2, .int w), (3, .ref q0)] := hl
  have hK := hP.1.2.1
  refine lv_aload_n hx hb dL_amount_0 rfl (lv_at hl 3 rfl) ?_
  refine lv_iconst (v := 0) hx hb dL_amount_1 (by decide) ?_
  refine lv_aload_n hx hb dL_amount_2 rfl (lv_at hl 0 rfl) ?_
  refine lv_iload_n hx hb dL_amount_3 rfl (lv_at hl 1 rfl) ?_
  refine lv_iload_n hx hb dL_amount_4 rfl (lv_at hl 2 rfl) ?_
  refine xcall (y := yX8_amount) (rest := [.int 0, .ref q0]) ⟨hx, hb, hml, hown, ht⟩ hP hq0 (c_X8_amount l hfl D ca ad hI σ τ x w) ok_X8_amount gw_896 ⟨by decide, by decide⟩ rfl hl.1 rfl (Nat.le_of_ble_eq_true rfl) ⟨by decide, by decide⟩ dL_amount_5 (fun ce q9 H1 locs1 hthr hPW ho hS h6 h7 h8 => ?_) (fun v S T H1 locs1 hp hPW ho hS => ?_)
  · refine vx_catch (own := RL) (name := NSE) hown [] ⟨0, 9, 12, 13⟩ [] htab (fun z hz => nomatch hz) (by decide) (by decide) (ht _ gw_815) (va_Nw.use rfl hP.2.2.2) h6 h7 h8 ?_
    show W _ _ _ _ _ _ _ _ _ _ _ _ _ _ _ (F0 m 12 ls [.ref q9])
    refine lv_astore (lv' := [(4, .ref q9), (0, .ref (ad 0)), (1, .int x), (2, .int w), (3, .ref q0)]) hx hb dL_amount_12 hl (by decide) rfl (fun ls hl => ?_)
    refine lv_iconst (v := 1) hx hb dL_amount_14 (by decide) ?_
    refine h_ret hx hb hr hlk hPW ho hS ?_ (fun q => ?_) dL_amount_15
    · rw [hthr]; rfl
    · rw [hthr] at q; cases q
  · obtain ⟨hok, rfl, rfl, rfl⟩ := hp
    try dsimp only [Option.toList, List.cons_append, List.nil_append]
    refine o_put hx hb hK hq0 hPW ho hS dL_amount_8 (fun H2 locs2 hPW ho hS => ?_)
    refine lv_goto (tgt := 16) hx hb dL_amount_9 (by decide) ?_
    refine lv_iconst (v := 0) hx hb dL_amount_16 (by decide) ?_
    refine h_ret hx hb hr hlk hPW ho hS ?_ (fun _ => rfl) dL_amount_17
    rw [hok]; rfl
set_option maxHeartbeats 4000000 in
set_option maxRecDepth 100000 in
theorem h_statement (l : Launch) (hfl : l.stackTraces = false) (D : va_G) (ca : Nat → ClassId) (ad : Nat → Nat) (hI : Inj 158 ad) (q0 : Nat) (hq0 : ¬ AA 158 ad q0) (σ : MI) (τ : ML) (f : Nat → Int64) (mo w : Int32) : HT l D ca ad q0 yL_statement cL_statement 5 [(0, 9, 12, 13)] 7 104 [.ref (ad 0), .int mo, .int w, .ref q0] σ τ f (stC σ mo w) (stV σ τ mo w) := by
  refine HT.of (by decide) (Nat.le_of_ble_eq_true rfl) ?_
  intro p e s m args below meth c hx hb hr ht hown hlk hml hP htab ls hl
  have hl : lv_has ls 5 [(0, .ref (ad 0)), (1, .int mo), (2, .int w), (3, .ref q0)] := hl
  have hK := hP.1.2.1
  refine lv_aload_n hx hb dL_statement_0 rfl (lv_at hl 3 rfl) ?_
  refine lv_iconst (v := 0) hx hb dL_statement_1 (by decide) ?_
  refine lv_aload_n hx hb dL_statement_2 rfl (lv_at hl 0 rfl) ?_
  refine lv_iload_n hx hb dL_statement_3 rfl (lv_at hl 1 rfl) ?_
  refine lv_iload_n hx hb dL_statement_4 rfl (lv_at hl 2 rfl) ?_
  refine xcall (y := yX8_statement) (rest := [.int 0, .ref q0]) ⟨hx, hb, hml, hown, ht⟩ hP hq0 (c_X8_statement l hfl D ca ad hI σ τ mo w) ok_X8_statement gw_904 ⟨by decide, by decide⟩ rfl hl.1 rfl (Nat.le_of_ble_eq_true rfl) ⟨by decide, by decide⟩ dL_statement_5 (fun ce q9 H1 locs1 hthr hPW ho hS h6 h7 h8 => ?_) (fun v S T H1 locs1 hp hPW ho hS => ?_)
  · refine vx_catch (own := RL) (name := NSE) hown [] ⟨0, 9, 12, 13⟩ [] htab (fun z hz => nomatch hz) (by decide) (by decide) (ht _ gw_815) (va_Nw.use rfl hP.2.2.2) h6 h7 h8 ?_
    show W _ _ _ _ _ _ _ _ _ _ _ _ _ _ _ (F0 m 12 ls [.ref q9])
    refine lv_astore (lv' := [(4, .ref q9), (0, .ref (ad 0)), (1, .int mo), (2, .int w), (3, .ref q0)]) hx hb dL_statement_12 hl (by decide) rfl (fun ls hl => ?_)
    refine lv_iconst (v := 1) hx hb dL_statement_14 (by decide) ?_
    refine h_ret hx hb hr hlk hPW ho hS ?_ (fun q => ?_) dL_statement_15
    · rw [hthr]; rfl
    · rw [hthr] at q; cases q
  · obtain ⟨hok, rfl, rfl, rfl⟩ := hp
    try dsimp only [Option.toList, List.cons_append, List.nil_append]
    refine o_put hx hb hK hq0 hPW ho hS dL_statement_8 (fun H2 locs2 hPW ho hS => ?_)
    refine lv_goto (tgt := 16) hx hb dL_statement_9 (by decide) ?_
    refine lv_iconst (v := 0) hx hb dL_statement_16 (by decide) ?_
    refine h_ret hx hb hr hlk hPW ho hS ?_ (fun _ => rfl) dL_statement_17
    rw [hok]; rfl
