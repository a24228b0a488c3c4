/-! ===== where the cells lie: the class's 158, the reference's 6 ===== -/
def bz (z : Int32) : Nat := if z = 0 then 0 else 1
theorem bz_lt (z : Int32) : bz z < 2 := by unfold bz; split <;> omega
abbrev TY (ca : Nat → ClassId) : List (ClassId × FieldType) := [(ca 0, .int), (ca 1, .byte), (ca 2, .object "PriceDesk$Index"), (ca 3, .object "PriceDesk$Contract"), (ca 4, .object "PriceDesk$Delivery"), (ca 5, .long)]
def cxi (ca : Nat → ClassId) (ad : Nat → Nat) (k r : Nat) (x : Nat → Int32) : va_E :=
  if r = 0 then .inr (4, [.ref (ad (k + 1)), .ref (ad (k + 2)), .ref (ad (k + 3)), .ref (ad (k + 4)), .ref (ad (k + 5)), .int (x 5)])
  else if r ≤ 2 then .inl (ca 0, 36, .inl x) else .inl (ca 0, 3, .inl x)
def cxc (ca : Nat → ClassId) (ad : Nat → Nat) (k r : Nat) (x : Nat → Int32) : va_E :=
  if r = 0 then .inr (1, [.int (x 0), .int (x 1), .int (x 2), .int (x 3), .int (x 4), .int (x 5), .int (x 6), .ref (ad (k + 1)), .ref (ad (k + 2))])
  else .inl (ca 0, 6, .inl x)
def cxb (ca : Nat → ClassId) (ad : Nat → Nat) (o j : Nat) (x : Nat → Int32) : va_E :=
  if j = 0 then .inr (0, [.int (x 0), .int (x 1), .int (x 2), .ref (ad (o + 1)), .ref (ad (o + 2))])
  else if j = 1 then .inl (ca 2, 6, .inr (.inr (.inr (.inr (fun i => some (ad (o + 3 + 6 * i)))))))
  else if j = 2 then .inl (ca 3, 6, .inr (.inr (.inr (.inr (fun i => some (ad (o + 39 + 3 * i)))))))
  else if j < 39 then cxi ca ad (o + j) ((j - 3) % 6) x
  else cxc ca ad (o + j) ((j - 39) % 3) x
def cxf (ca : Nat → ClassId) (ad : Nat → Nat) : CF := fun k x y =>
  if k = 0 then .inr (8, [.ref (ad 1), .ref (ad (44 + 57 * bz (x 1))), .ref (ad 12), .ref (ad 6)])
  else if k = 1 then .inr (7, [.ref (ad 2), .ref (ad 4), .ref (ad 5), .ref (ad (44 + 57 * bz (x 3))), .int (x 4), .int (x 5)])
  else if k = 2 then .inr (6, [.ref (ad 3), .int (x 1), .int (x 2), .int (x 3), .int (x 4), .int (x 5)])
  else if k = 3 then .inl (ca 1, 740, .inl x)
  else if k ≤ 5 then .inl (ca 0, 6, .inl x)
  else if k = 6 then .inr (3, [.ref (ad 7), .ref (ad 8), .ref (ad 9), .ref (ad 10), .ref (ad 11), .int (x 5), .int (x 6)])
  else if k ≤ 11 then .inl (ca 0, 8, .inl x)
  else if k = 12 then .inr (5, [.ref (ad 13), .int (x 1)])
  else if k = 13 then .inl (ca 4, 30, .inr (.inr (.inr (.inr (fun i => some (ad (14 + i)))))))
  else if k < 44 then .inr (2, [.int (x 0), .int (x 1), .int (x 2), .int (x 3), .int (x 4), .int (x 5), .int (x 6), .long (y 7)])
  else if k < 101 then cxb ca ad 44 (k - 44) x
  else cxb ca ad 101 (k - 101) x
def mxf (ca : Nat → ClassId) (ad : Nat → Nat) : CF := fun k x y =>
  if k = 0 then .inr (9, [.int (x 0), .ref (ad 1), .int (x 2), .int (x 3), .int (x 4), .int (x 5), .int (x 6), .int (x 7), .int (x 8), .int (x 9), .int (x 10), .long (y 11), .ref (ad 2), .ref (ad 3), .ref (ad 4), .ref (ad 5), .int (x 16)])
  else if k = 1 then .inl (ca 0, 740, .inl x)
  else if k ≤ 3 then .inl (ca 0, 880, .inl x)
  else if k = 4 then .inl (ca 0, 7040, .inl x)
  else .inl (ca 5, 6, .inr (.inl y))
section LAY
variable {ca : Nat → ClassId} {ad : Nat → Nat} (x : Nat → Int32) (y : Nat → Int64)
theorem sh_desk : cxf ca ad 0 x y = .inr (8, [.ref (ad 1), .ref (ad (44 + 57 * bz (x 1))), .ref (ad 12), .ref (ad 6)]) := rfl
theorem sh_read : cxf ca ad 1 x y = .inr (7, [.ref (ad 2), .ref (ad 4), .ref (ad 5), .ref (ad (44 + 57 * bz (x 3))), .int (x 4), .int (x 5)]) := rfl
theorem sh_tape : cxf ca ad 2 x y = .inr (6, [.ref (ad 3), .int (x 1), .int (x 2), .int (x 3), .int (x 4), .int (x 5)]) := rfl
theorem sh_bytes : cxf ca ad 3 x y = .inl (ca 1, 740, .inl x) := rfl
theorem sh_npl : cxf ca ad 4 x y = .inl (ca 0, 6, .inl x) := rfl
theorem sh_nsz : cxf ca ad 5 x y = .inl (ca 0, 6, .inl x) := rfl
theorem sh_hist : cxf ca ad 6 x y = .inr (3, [.ref (ad 7), .ref (ad 8), .ref (ad 9), .ref (ad 10), .ref (ad 11), .int (x 5), .int (x 6)]) := rfl
theorem sh_h7 : cxf ca ad 7 x y = .inl (ca 0, 8, .inl x) := rfl
theorem sh_h8 : cxf ca ad 8 x y = .inl (ca 0, 8, .inl x) := rfl
theorem sh_h9 : cxf ca ad 9 x y = .inl (ca 0, 8, .inl x) := rfl
theorem sh_h10 : cxf ca ad 10 x y = .inl (ca 0, 8, .inl x) := rfl
theorem sh_h11 : cxf ca ad 11 x y = .inl (ca 0, 8, .inl x) := rfl
theorem sh_ledg : cxf ca ad 12 x y = .inr (5, [.ref (ad 13), .int (x 1)]) := rfl
theorem sh_rows : cxf ca ad 13 x y = .inl (ca 4, 30, .inr (.inr (.inr (.inr (fun i => some (ad (14 + i))))))) := rfl
theorem sh_deli {d : Nat} (hd : d < 30) : cxf ca ad (14 + d) x y = .inr (2, [.int (x 0), .int (x 1), .int (x 2), .int (x 3), .int (x 4), .int (x 5), .int (x 6), .long (y 7)]) := by
  unfold cxf
  repeat (rw [if_neg (by omega)])
  rw [if_pos (by omega)]
theorem sh_book {b : Nat} (hb : b < 2) : cxf ca ad (44 + 57 * b) x y = .inr (0, [.int (x 0), .int (x 1), .int (x 2), .ref (ad (45 + 57 * b)), .ref (ad (46 + 57 * b))]) := by
  rcases (by omega : b = 0 ∨ b = 1) with rfl | rfl <;> rfl
theorem sh_bidx {b : Nat} (hb : b < 2) : cxf ca ad (45 + 57 * b) x y = .inl (ca 2, 6, .inr (.inr (.inr (.inr (fun i => some (ad (47 + 57 * b + 6 * i))))))) := by
  rcases (by omega : b = 0 ∨ b = 1) with rfl | rfl <;> rfl
theorem sh_bcon {b : Nat} (hb : b < 2) : cxf ca ad (46 + 57 * b) x y = .inl (ca 3, 6, .inr (.inr (.inr (.inr (fun i => some (ad (83 + 57 * b + 3 * i))))))) := by
  rcases (by omega : b = 0 ∨ b = 1) with rfl | rfl <;> rfl
theorem sh_indx {b i : Nat} (hb : b < 2) (hi : i < 6) : cxf ca ad (47 + 57 * b + 6 * i) x y = .inr (4, [.ref (ad (48 + 57 * b + 6 * i)), .ref (ad (49 + 57 * b + 6 * i)), .ref (ad (50 + 57 * b + 6 * i)), .ref (ad (51 + 57 * b + 6 * i)), .ref (ad (52 + 57 * b + 6 * i)), .int (x 5)]) := by
  rcases (by omega : b = 0 ∨ b = 1) with rfl | rfl <;> rcases (by omega : i = 0 ∨ i = 1 ∨ i = 2 ∨ i = 3 ∨ i = 4 ∨ i = 5) with rfl | rfl | rfl | rfl | rfl | rfl <;> rfl
theorem sh_vals {b i : Nat} (hb : b < 2) (hi : i < 6) : cxf ca ad (48 + 57 * b + 6 * i) x y = .inl (ca 0, 36, .inl x) := by
  rcases (by omega : b = 0 ∨ b = 1) with rfl | rfl <;> rcases (by omega : i = 0 ∨ i = 1 ∨ i = 2 ∨ i = 3 ∨ i = 4 ∨ i = 5) with rfl | rfl | rfl | rfl | rfl | rfl <;> rfl
theorem sh_knds {b i : Nat} (hb : b < 2) (hi : i < 6) : cxf ca ad (49 + 57 * b + 6 * i) x y = .inl (ca 0, 36, .inl x) := by
  rcases (by omega : b = 0 ∨ b = 1) with rfl | rfl <;> rcases (by omega : i = 0 ∨ i = 1 ∨ i = 2 ∨ i = 3 ∨ i = 4 ∨ i = 5) with rfl | rfl | rfl | rfl | rfl | rfl <;> rfl
theorem sh_rbms {b i : Nat} (hb : b < 2) (hi : i < 6) : cxf ca ad (50 + 57 * b + 6 * i) x y = .inl (ca 0, 3, .inl x) := by
  rcases (by omega : b = 0 ∨ b = 1) with rfl | rfl <;> rcases (by omega : i = 0 ∨ i = 1 ∨ i = 2 ∨ i = 3 ∨ i = 4 ∨ i = 5) with rfl | rfl | rfl | rfl | rfl | rfl <;> rfl
theorem sh_olds {b i : Nat} (hb : b < 2) (hi : i < 6) : cxf ca ad (51 + 57 * b + 6 * i) x y = .inl (ca 0, 3, .inl x) := by
  rcases (by omega : b = 0 ∨ b = 1) with rfl | rfl <;> rcases (by omega : i = 0 ∨ i = 1 ∨ i = 2 ∨ i = 3 ∨ i = 4 ∨ i = 5) with rfl | rfl | rfl | rfl | rfl | rfl <;> rfl
theorem sh_news {b i : Nat} (hb : b < 2) (hi : i < 6) : cxf ca ad (52 + 57 * b + 6 * i) x y = .inl (ca 0, 3, .inl x) := by
  rcases (by omega : b = 0 ∨ b = 1) with rfl | rfl <;> rcases (by omega : i = 0 ∨ i = 1 ∨ i = 2 ∨ i = 3 ∨ i = 4 ∨ i = 5) with rfl | rfl | rfl | rfl | rfl | rfl <;> rfl
theorem sh_cont {b i : Nat} (hb : b < 2) (hi : i < 6) : cxf ca ad (83 + 57 * b + 3 * i) x y = .inr (1, [.int (x 0), .int (x 1), .int (x 2), .int (x 3), .int (x 4), .int (x 5), .int (x 6), .ref (ad (84 + 57 * b + 3 * i)), .ref (ad (85 + 57 * b + 3 * i))]) := by
  rcases (by omega : b = 0 ∨ b = 1) with rfl | rfl <;> rcases (by omega : i = 0 ∨ i = 1 ∨ i = 2 ∨ i = 3 ∨ i = 4 ∨ i = 5) with rfl | rfl | rfl | rfl | rfl | rfl <;> rfl
theorem sh_wgts {b i : Nat} (hb : b < 2) (hi : i < 6) : cxf ca ad (84 + 57 * b + 3 * i) x y = .inl (ca 0, 6, .inl x) := by
  rcases (by omega : b = 0 ∨ b = 1) with rfl | rfl <;> rcases (by omega : i = 0 ∨ i = 1 ∨ i = 2 ∨ i = 3 ∨ i = 4 ∨ i = 5) with rfl | rfl | rfl | rfl | rfl | rfl <;> rfl
theorem sh_cixs {b i : Nat} (hb : b < 2) (hi : i < 6) : cxf ca ad (85 + 57 * b + 3 * i) x y = .inl (ca 0, 6, .inl x) := by
  rcases (by omega : b = 0 ∨ b = 1) with rfl | rfl <;> rcases (by omega : i = 0 ∨ i = 1 ∨ i = 2 ∨ i = 3 ∨ i = 4 ∨ i = 5) with rfl | rfl | rfl | rfl | rfl | rfl <;> rfl
theorem sm_obj : mxf ca ad 0 x y = .inr (9, [.int (x 0), .ref (ad 1), .int (x 2), .int (x 3), .int (x 4), .int (x 5), .int (x 6), .int (x 7), .int (x 8), .int (x 9), .int (x 10), .long (y 11), .ref (ad 2), .ref (ad 3), .ref (ad 4), .ref (ad 5), .int (x 16)]) := rfl
theorem sm_tape : mxf ca ad 1 x y = .inl (ca 0, 740, .inl x) := rfl
theorem sm_now : mxf ca ad 2 x y = .inl (ca 0, 880, .inl x) := rfl
theorem sm_read : mxf ca ad 3 x y = .inl (ca 0, 880, .inl x) := rfl
theorem sm_snap : mxf ca ad 4 x y = .inl (ca 0, 7040, .inl x) := rfl
theorem sm_name : mxf ca ad 5 x y = .inl (ca 5, 6, .inr (.inl y)) := rfl
end LAY
/-! words of the classes' fields -/
theorem u_ws_in {C : String} {T : u_T} {n : Nat} (h : ∀ k, k < n → u_lay C T k ∈ GG) : ∀ w ∈ u_ws C T n, w ∈ GG := fun w hw => by
  obtain ⟨k, hk, rfl⟩ := List.mem_map.mp hw
  exact h k (List.mem_range.mp hk)
theorem inG0 : ∀ w ∈ u_ws RX0 TX0 5, w ∈ GG := by decide +kernel
theorem inG1 : ∀ w ∈ u_ws RX1 TX1 9, w ∈ GG := by decide +kernel
theorem inG2 : ∀ w ∈ u_ws RX2 TX2 8, w ∈ GG := by decide +kernel
theorem inG3 : ∀ w ∈ u_ws RX3 TX3 7, w ∈ GG := by decide +kernel
theorem inG4 : ∀ w ∈ u_ws RX4 TX4 6, w ∈ GG := by decide +kernel
theorem inG5 : ∀ w ∈ u_ws RX5 TX5 2, w ∈ GG := by decide +kernel
theorem inG6 : ∀ w ∈ u_ws RX6 TX6 6, w ∈ GG := by decide +kernel
theorem inG7 : ∀ w ∈ u_ws RX7 TX7 6, w ∈ GG := by decide +kernel
theorem inG8 : ∀ w ∈ u_ws RX8 TX8 4, w ∈ GG := by decide +kernel
theorem inG9 : ∀ w ∈ u_ws RX9 TX9 17, w ∈ GG := by decide +kernel
/-! memory, read behind a write -/
theorem s2_eq (σ : MI) (k j : Nat) (v : Int32) : s2 σ k j v k j = v := by simp [s2, va_up, upd]
theorem s2_nj (σ : MI) {k j j' : Nat} (v : Int32) (k' : Nat) (h : j' ≠ j) : s2 σ k j v k' j' = σ k' j' := by
  unfold s2 va_up upd
  by_cases e : k' = k
  · subst e; simp [h]
  · simp [e]
theorem s2_nk (σ : MI) {k k' : Nat} (j : Nat) (v : Int32) (h : k' ≠ k) : s2 σ k j v k' = σ k' := by simp [s2, va_up, h]
theorem s2_k (σ : MI) (k j : Nat) (v : Int32) : s2 σ k j v k = upd (σ k) j v := by simp [s2, va_up]
theorem s2_at (σ : MI) (k j : Nat) (v : Int32) (k' j' : Nat) : s2 σ k j v k' j' = if k' = k ∧ j' = j then v else σ k' j' := by
  by_cases e : k' = k
  · subst e
    by_cases f : j' = j
    · subst f; simp [s2_eq]
    · simp [f, s2_nj]
  · simp [e, s2_nk]
theorem i_le (a b : Int32) : a ≤ b ↔ a.toInt ≤ b.toInt := Int32.le_iff_toInt_le
theorem i_lt (a b : Int32) : a < b ↔ a.toInt < b.toInt := Int32.lt_iff_toInt_lt
theorem i_eq (a b : Int32) : a = b ↔ a.toInt = b.toInt := Int32.toInt_inj.symm
section FPX
variable {p : Program} {l : Launch} {e : Env} {R : Room} {s : State} {m : MethodId} {args : Array Value} {below : List Frame} {meth : Method} {c : Code} {H : Heap} {locs : List Loc} {cells slots : Nat} {Q : State → Prop}
variable {cc : ByteArray} {pc : Nat} {ls : Array Slot} {rest : List Value} {D : va_G} {tys : List (ClassId × FieldType)} {N : Nat} {ad : Nat → Nat} {cf : CF} {σ : MI} {τ : ML} {H0 : Heap}
theorem fputx (hexec : p.tables.exec = Jvm.exec) (hb : c.code = cc) {own ref C : String} {T : u_T} {Nf ci index : Nat} (hts : ∀ w ∈ GG, w.before args s = true) (hin : ∀ w ∈ u_ws C T Nf, w ∈ GG) (ty0 : Nat → FieldType) (hty : ∀ k, k < Nf → parseFieldDescriptor (T k).2.2.1 = some (ty0 k)) (hnm : ∀ a, a < Nf → ∀ b, b < Nf → a ≠ b → (T a).2.1 ≠ (T b).2.1) (hown : s.vm.findClass own = some m.cls) (hK : va_K D vwCl tys s) (hP : PW D N ad cf σ τ H) (hI : Inj N ad) (hS : va_S (AA N ad) H0 H locs) {k : Nat} (hk : k < N) {fs : List Value} (hsh : cf k (σ k) (τ k) = .inr (ci, fs)) (hc : vwCl[ci]? = some (C, T, Nf)) (j : Nat) (hj : j < Nf) (hlink : Cond.fieldLink own index (T j).1 (T j).2.1 (T j).2.2.1 ∈ GG) (hfin : (T j).2.2.2 = false) {v : Value} (hn : narrow (ty0 j) v = v) (hfit : fits (ty0 j) v = true) (hl : j < fs.length) {w : Int32} (hup : cf k (upd (σ k) j w) (τ k) = .inr (ci, fs.set j v)) (hdg : decode cc pc = .ok (.putfield index, 3))
    (kk : ∀ (H1 : Heap) (locs1 : List Loc), PW D N ad cf (s2 σ k j w) τ H1 → va_S (AA N ad) H0 H1 locs1 → W p l e R s m args below meth c H1 locs1 cells slots Q (F0 m (pc + 3) ls rest)) : W p l e R s m args below meth c H locs cells slots Q (F0 m pc ls (v :: .ref (ad k) :: rest)) :=
  fput (ref := ref) hexec hb hts hin ty0 hty hnm hown hK hP hI hS hk hsh hc j hj hlink hfin hn hfit hl hup hdg (fun H1 l1 h1 h2 => kk H1 l1 (by rw [va_up_same] at h1; exact h1) h2)
theorem fputxN (hexec : p.tables.exec = Jvm.exec) (hb : c.code = cc) {own ref C host : String} {T : u_T} {Nf ci index : Nat} (hts : ∀ w ∈ GG, w.before args s = true) (hin : ∀ w ∈ u_ws C T Nf, w ∈ GG) (ty0 : Nat → FieldType) (hty : ∀ k, k < Nf → parseFieldDescriptor (T k).2.2.1 = some (ty0 k)) (hnm : ∀ a, a < Nf → ∀ b, b < Nf → a ≠ b → (T a).2.1 ≠ (T b).2.1) (hown : s.vm.findClass own = some m.cls) (hK : va_K D vwCl tys s) (hP : PW D N ad cf σ τ H) (hI : Inj N ad) (hS : va_S (AA N ad) H0 H locs) {k : Nat} (hk : k < N) {fs : List Value} (hsh : cf k (σ k) (τ k) = .inr (ci, fs)) (hc : vwCl[ci]? = some (C, T, Nf)) (j : Nat) (hj : j < Nf) (hlink : va_Nw (Cond.fieldLinkNest own index (T j).1 (T j).2.1 (T j).2.2.1 host) s) (hfin : (T j).2.2.2 = false) {v : Value} (hn : narrow (ty0 j) v = v) (hfit : fits (ty0 j) v = true) (hl : j < fs.length) {w : Int32} (hup : cf k (upd (σ k) j w) (τ k) = .inr (ci, fs.set j v)) (hdg : decode cc pc = .ok (.putfield index, 3))
    (kk : ∀ (H1 : Heap) (locs1 : List Loc), PW D N ad cf (s2 σ k j w) τ H1 → va_S (AA N ad) H0 H1 locs1 → W p l e R s m args below meth c H1 locs1 cells slots Q (F0 m (pc + 3) ls rest)) : W p l e R s m args below meth c H locs cells slots Q (F0 m pc ls (v :: .ref (ad k) :: rest)) :=
  fputN (ref := ref) hexec hb hts hin ty0 hty hnm hown hK hP hI hS hk hsh hc j hj hlink hfin hn hfit hl hup hdg (fun H1 l1 h1 h2 => kk H1 l1 (by rw [va_up_same] at h1; exact h1) h2)
theorem fputy (hexec : p.tables.exec = Jvm.exec) (hb : c.code = cc) {own ref C : String} {T : u_T} {Nf ci index : Nat} (hts : ∀ w ∈ GG, w.before args s = true) (hin : ∀ w ∈ u_ws C T Nf, w ∈ GG) (ty0 : Nat → FieldType) (hty : ∀ k, k < Nf → parseFieldDescriptor (T k).2.2.1 = some (ty0 k)) (hnm : ∀ a, a < Nf → ∀ b, b < Nf → a ≠ b → (T a).2.1 ≠ (T b).2.1) (hown : s.vm.findClass own = some m.cls) (hK : va_K D vwCl tys s) (hP : PW D N ad cf σ τ H) (hI : Inj N ad) (hS : va_S (AA N ad) H0 H locs) {k : Nat} (hk : k < N) {fs : List Value} (hsh : cf k (σ k) (τ k) = .inr (ci, fs)) (hc : vwCl[ci]? = some (C, T, Nf)) (j : Nat) (hj : j < Nf) (hlink : Cond.fieldLink own index (T j).1 (T j).2.1 (T j).2.2.1 ∈ GG) (hfin : (T j).2.2.2 = false) {v : Value} (hn : narrow (ty0 j) v = v) (hfit : fits (ty0 j) v = true) (hl : j < fs.length) {w : Int64} (hup : cf k (σ k) (vp_updL (τ k) j w) = .inr (ci, fs.set j v)) (hdg : decode cc pc = .ok (.putfield index, 3))
    (kk : ∀ (H1 : Heap) (locs1 : List Loc), PW D N ad cf σ (s2L τ k j w) H1 → va_S (AA N ad) H0 H1 locs1 → W p l e R s m args below meth c H1 locs1 cells slots Q (F0 m (pc + 3) ls rest)) : W p l e R s m args below meth c H locs cells slots Q (F0 m pc ls (v :: .ref (ad k) :: rest)) :=
  fput (ref := ref) hexec hb hts hin ty0 hty hnm hown hK hP hI hS hk hsh hc j hj hlink hfin hn hfit hl hup hdg (fun H1 l1 h1 h2 => kk H1 l1 (by rw [va_up_same] at h1; exact h1) h2)
end FPX
section FGX
variable {p : Program} {l : Launch} {e : Env} {R : Room} {s : State} {m : MethodId} {args : Array Value} {below : List Frame} {meth : Method} {c : Code} {H : Heap} {locs : List Loc} {cells slots : Nat} {Q : State → Prop}
variable {cc : ByteArray} {pc : Nat} {ls : Array Slot} {rest : List Value} {D : va_G} {tys : List (ClassId × FieldType)} {N : Nat} {ad : Nat → Nat} {cf : CF} {σ : MI} {τ : ML} {H0 : Heap}
theorem fgetx (hexec : p.tables.exec = Jvm.exec) (hb : c.code = cc) {own C : String} {T : u_T} {Nf ci index : Nat} (hts : ∀ w ∈ GG, w.before args s = true) (hin : ∀ w ∈ u_ws C T Nf, w ∈ GG) (hown : s.vm.findClass own = some m.cls) (hK : va_K D vwCl tys s) (hP : PW D N ad cf σ τ H) {k : Nat} (hk : k < N) {x : Nat → Int32} (hf : σ k = x) {fs : List Value} (hsh : cf k x (τ k) = .inr (ci, fs)) (hc : vwCl[ci]? = some (C, T, Nf)) (j : Nat) (hj : j < Nf) (hlink : Cond.fieldLink own index (T j).1 (T j).2.1 (T j).2.2.1 ∈ GG) {v : Value} (hv : fs[j]? = some v) (hdg : decode cc pc = .ok (.getfield index, 3))
    (kk : W p l e R s m args below meth c H locs cells slots Q (F0 m (pc + 3) ls (v :: rest))) : W p l e R s m args below meth c H locs cells slots Q (F0 m pc ls (.ref (ad k) :: rest)) :=
  fget (ref := "") hexec hb hts hin hown hK hP hk (by rw [hf]; exact hsh) hc j hj hlink hv hdg kk
theorem fgetxN (hexec : p.tables.exec = Jvm.exec) (hb : c.code = cc) {own C host : String} {T : u_T} {Nf ci index : Nat} (hts : ∀ w ∈ GG, w.before args s = true) (hin : ∀ w ∈ u_ws C T Nf, w ∈ GG) (hown : s.vm.findClass own = some m.cls) (hK : va_K D vwCl tys s) (hP : PW D N ad cf σ τ H) {k : Nat} (hk : k < N) {x : Nat → Int32} (hf : σ k = x) {fs : List Value} (hsh : cf k x (τ k) = .inr (ci, fs)) (hc : vwCl[ci]? = some (C, T, Nf)) (j : Nat) (hj : j < Nf) (hlink : va_Nw (Cond.fieldLinkNest own index (T j).1 (T j).2.1 (T j).2.2.1 host) s) {v : Value} (hv : fs[j]? = some v) (hdg : decode cc pc = .ok (.getfield index, 3))
    (kk : W p l e R s m args below meth c H locs cells slots Q (F0 m (pc + 3) ls (v :: rest))) : W p l e R s m args below meth c H locs cells slots Q (F0 m pc ls (.ref (ad k) :: rest)) :=
  fgetN (ref := "") hexec hb hts hin hown hK hP hk (by rw [hf]; exact hsh) hc j hj hlink hv hdg kk
theorem aldx (hexec : p.tables.exec = Jvm.exec) (hb : c.code = cc) (hK : va_K D vwCl tys s) (hP : PW D N ad cf σ τ H) {k : Nat} (hk : k < N) {x : Nat → Int32} (hf : σ k = x) (t0 : Nat) {cA : ClassId} {n : Nat} (hsh : cf k x (τ k) = .inl (cA, n, .inl x)) (ht : tys[t0]? = some (cA, .int)) {i : Int32} (hin : vp_in i n) (hdg : decode cc pc = .ok (.iaload, 1))
    (kk : W p l e R s m args below meth c H locs cells slots Q (F0 m (pc + 1) ls (.int (x i.toNatClampNeg) :: rest))) : W p l e R s m args below meth c H locs cells slots Q (F0 m pc ls (.int i :: .ref (ad k) :: rest)) :=
  ald hexec hb hK hP hk t0 (by rw [hf]; exact hsh) ht hin hdg kk
theorem bldx (hexec : p.tables.exec = Jvm.exec) (hb : c.code = cc) (hK : va_K D vwCl tys s) (hP : PW D N ad cf σ τ H) {k : Nat} (hk : k < N) {x : Nat → Int32} (hf : σ k = x) (t0 : Nat) {cA : ClassId} {n : Nat} (hsh : cf k x (τ k) = .inl (cA, n, .inl x)) (ht : tys[t0]? = some (cA, .byte)) {i : Int32} (hin : vp_in i n) (hdg : decode cc pc = .ok (.baload, 1))
    (kk : W p l e R s m args below meth c H locs cells slots Q (F0 m (pc + 1) ls (.int (x i.toNatClampNeg) :: rest))) : W p l e R s m args below meth c H locs cells slots Q (F0 m pc ls (.int i :: .ref (ad k) :: rest)) :=
  bld hexec hb hK hP hk t0 (by rw [hf]; exact hsh) ht hin hdg kk
end FGX
