/-! ===== what the class's own calls answer (all but text, and those that throw) ===== -/
theorem kmin_le (x : Int32) (M : Nat) : kmin x M ≤ M := Nat.min_le_right _ _
theorem addRS_ne (σ : MI) {b i k : Nat} (mo v : Int32) (h0 : k ≠ 47 + 57 * b + 6 * i) (h1 : k ≠ 50 + 57 * b + 6 * i) (h2 : k ≠ 51 + 57 * b + 6 * i) (h3 : k ≠ 52 + 57 * b + 6 * i) : addRS σ b i mo v k = σ k := by
  unfold addRS
  split
  · rfl
  · split
    · rfl
    · rw [s2_nk _ _ _ h0, s2_nk _ _ _ h3, s2_nk _ _ _ h2, s2_nk _ _ _ h1]
theorem keepS_ne (σ : MI) {k : Nat} (a i m n q : Int32) (h : k < 6 ∨ 11 < k) : keepS σ a i m n q k = σ k := by
  unfold keepS
  split
  · rfl
  · split
    · rw [s2_nk _ _ _ (by omega), s2_nk _ _ _ (by omega), s2_nk _ _ _ (by omega), s2_nk _ _ _ (by omega), s2_nk _ _ _ (by omega), s2_nk _ _ _ (by omega), s2_nk _ _ _ (by omega)]
    · rfl
theorem tlS_ne (σ : MI) {k : Nat} (h : k ≠ 6) : tlS σ k = σ k := by
  unfold tlS
  split
  · rw [s2_nk _ _ _ h, s2_nk _ _ _ h]
  · rfl
theorem pwM_ne (σ : MI) {b i k : Nat} (v : Int32) (h1 : k ≠ 48 + 57 * b + 6 * i) (h2 : k ≠ 49 + 57 * b + 6 * i) : pwM σ b i v k = σ k := putS_ne σ _ _ _ h1 h2
theorem pwB_ne (σ : MI) {b i k : Nat} (v : Int32) (h1 : k ≠ 48 + 57 * b + 6 * i) (h2 : k ≠ 49 + 57 * b + 6 * i) : pwB σ b i v k = σ k := by
  rw [pwB, putS_ne _ _ _ _ h1 h2, pwM_ne σ v h1 h2]
theorem bilS_ne (σ : MI) {d k : Nat} (x y : Int32) (h : k ≠ 14 + d) : bilS σ d x y k = σ k := by
  unfold bilS
  split <;> rw [s2_nk _ _ _ h, s2_nk _ _ _ h]
theorem unsS_ne30 (σ : MI) (τ : ML) (mo x : Int32) {k : Nat} (h : k < 14 ∨ 44 ≤ k) : (unsS σ τ mo (kmin x 30)).1 k = σ k := unsS_ne σ τ mo _ (by have := kmin_le x 30; omega)
theorem setlM_ne30 (σ : MI) (b : Nat) (x : Int32) {k : Nat} (h : k < 14 ∨ 44 ≤ k) : setlM σ b (kmin x 30) k = σ k := setlM_ne σ b _ (by have := kmin_le x 30; omega)
theorem ne02 : ¬ (0 : Int32) = 2 := by decide
def cb (σ : MI) : Nat := bz (σ 0 1)
def nowS (σ : MI) (w : Int32) : Int32 := match swt w 7 with
  | 0 => σ (44 + 57 * bz (σ 0 1)) 0
  | 1 => σ (44 + 57 * bz (σ 0 1)) 1
  | 2 => σ (44 + 57 * bz (σ 0 1)) 2
  | 3 => σ 12 1
  | 4 => cntS (fun d => σ (14 + d) 6) (kmin (σ 12 1) 30)
  | 5 => σ 6 6
  | 6 => σ 2 1
  | _ => -1
def valuS (σ : MI) (x mo w : Int32) : Int32 := if inC x (σ (44 + 57 * bz (σ 0 1)) 1) 6 = true then (if isMon mo = true then (match swt w 4 with
  | 0 => valS (σ (48 + 57 * bz (σ 0 1) + 6 * x.toNatClampNeg)) (σ (49 + 57 * bz (σ 0 1) + 6 * x.toNatClampNeg)) mo
  | 1 => kindS (σ (49 + 57 * bz (σ 0 1) + 6 * x.toNatClampNeg)) mo
  | 2 => valS (σ (48 + 57 * bz (σ 0 1) + 6 * x.toNatClampNeg)) (σ (49 + 57 * bz (σ 0 1) + 6 * x.toNatClampNeg)) (knowS (σ (49 + 57 * bz (σ 0 1) + 6 * x.toNatClampNeg)) mo)
  | 3 => knowS (σ (49 + 57 * bz (σ 0 1) + 6 * x.toNatClampNeg)) mo
  | _ => -1) else -1) else -1
def rebdS (σ : MI) (x k w : Int32) : Int32 := if inC x (σ (44 + 57 * bz (σ 0 1)) 1) 6 = true then (if inC k (σ (47 + 57 * bz (σ 0 1) + 6 * x.toNatClampNeg) 5) 3 = true then (match swt w 3 with
  | 0 => σ (50 + 57 * bz (σ 0 1) + 6 * x.toNatClampNeg) k.toNatClampNeg
  | 1 => σ (51 + 57 * bz (σ 0 1) + 6 * x.toNatClampNeg) k.toNatClampNeg
  | 2 => σ (52 + 57 * bz (σ 0 1) + 6 * x.toNatClampNeg) k.toNatClampNeg
  | _ => -1) else -1) else -1
def contS (σ : MI) (x w : Int32) : Int32 := if inC x (σ (44 + 57 * bz (σ 0 1)) 2) 6 = true then (match swt w 7 with
  | 0 => σ (83 + 57 * bz (σ 0 1) + 3 * x.toNatClampNeg) 0
  | 1 => σ (83 + 57 * bz (σ 0 1) + 3 * x.toNatClampNeg) 1
  | 2 => σ (83 + 57 * bz (σ 0 1) + 3 * x.toNatClampNeg) 2
  | 3 => σ (83 + 57 * bz (σ 0 1) + 3 * x.toNatClampNeg) 3
  | 4 => σ (83 + 57 * bz (σ 0 1) + 3 * x.toNatClampNeg) 4
  | 5 => if σ (83 + 57 * bz (σ 0 1) + 3 * x.toNatClampNeg) 5 = 0 then 0 else 1
  | 6 => σ (83 + 57 * bz (σ 0 1) + 3 * x.toNatClampNeg) 6
  | _ => termS (σ (84 + 57 * bz (σ 0 1) + 3 * x.toNatClampNeg)) (σ (85 + 57 * bz (σ 0 1) + 3 * x.toNatClampNeg)) (σ (83 + 57 * bz (σ 0 1) + 3 * x.toNatClampNeg) 6) (w - 7)) else -1
def wereR (σ : MI) (q x v : Int32) : Int32 := if inC q (σ (44 + 57 * bz (σ 0 1)) 2) 6 = true then (if inC x (σ (44 + 57 * bz (σ 0 1)) 1) 6 = true then (if isVal v = true then pwR σ (bz (σ 0 1)) q.toNatClampNeg x.toNatClampNeg v else -1) else -1) else -1
def wereM (σ : MI) (q x v : Int32) : MI := if inC q (σ (44 + 57 * bz (σ 0 1)) 2) 6 = true then (if inC x (σ (44 + 57 * bz (σ 0 1)) 1) 6 = true then (if isVal v = true then pwB σ (bz (σ 0 1)) x.toNatClampNeg v else σ) else σ) else σ
def deliS (σ : MI) (x w : Int32) : Int32 := if inC x (σ 12 1) 30 = true then (match swt w 9 with
  | 0 => σ (14 + x.toNatClampNeg) 0
  | 1 => σ (14 + x.toNatClampNeg) 1
  | 2 => σ (14 + x.toNatClampNeg) 2
  | 3 => σ (14 + x.toNatClampNeg) 3
  | 4 => σ (14 + x.toNatClampNeg) 4
  | 5 => σ (14 + x.toNatClampNeg) 5
  | 6 => if isSet (σ (14 + x.toNatClampNeg) 6) = true then 1 else 0
  | 7 => σ (14 + x.toNatClampNeg) 6
  | 8 => if isSet (σ (14 + x.toNatClampNeg) 6) = true then 0 else waS σ (bz (σ 0 1)) (σ (14 + x.toNatClampNeg) 0) (σ (14 + x.toNatClampNeg) 4)
  | _ => -1) else -1
/-! publish -/
def pubA (σ : MI) (i : Nat) (mo : Int32) : Int32 := if kindS (σ (49 + 57 * bz (σ 0 1) + 6 * i)) mo = 0 then 0 else valS (σ (48 + 57 * bz (σ 0 1) + 6 * i)) (σ (49 + 57 * bz (σ 0 1) + 6 * i)) mo
def pubR (σ : MI) (x mo v : Int32) : Int32 := if inC x (σ (44 + 57 * bz (σ 0 1)) 1) 6 = true then (if isPastS (σ (44 + 57 * bz (σ 0 1)) 0) mo = true then (if isVal v = true then (if kindS (σ (49 + 57 * bz (σ 0 1) + 6 * x.toNatClampNeg)) mo = 2 then -2 else if lateS (σ (47 + 57 * bz (σ 0 1) + 6 * x.toNatClampNeg) 5) (σ (50 + 57 * bz (σ 0 1) + 6 * x.toNatClampNeg)) < mo then pubA σ x.toNatClampNeg mo else -3) else -1) else -1) else -1
def pubM (σ : MI) (x mo v : Int32) (f : Bool) : MI := if inC x (σ (44 + 57 * bz (σ 0 1)) 1) 6 = true then (if isPastS (σ (44 + 57 * bz (σ 0 1)) 0) mo = true then (if isVal v = true then (if kindS (σ (49 + 57 * bz (σ 0 1) + 6 * x.toNatClampNeg)) mo = 2 then σ else if lateS (σ (47 + 57 * bz (σ 0 1) + 6 * x.toNatClampNeg) 5) (σ (50 + 57 * bz (σ 0 1) + 6 * x.toNatClampNeg)) < mo then putS (keepS σ 0 x mo (pubA σ x.toNatClampNeg mo) (kindS (σ (49 + 57 * bz (σ 0 1) + 6 * x.toNatClampNeg)) mo)) (bz (σ 0 1)) x.toNatClampNeg mo v (if f = true then 2 else 1) else σ) else σ) else σ) else σ
/-! rebase -/
def rebR (σ : MI) (x mo v : Int32) : Int32 := if inC x (σ (44 + 57 * bz (σ 0 1)) 1) 6 = true then (if isPastS (σ (44 + 57 * bz (σ 0 1)) 0) mo = true then (if isVal v = true then (if kindS (σ (49 + 57 * bz (σ 0 1) + 6 * x.toNatClampNeg)) mo = 2 then (if mo ≤ lateS (σ (47 + 57 * bz (σ 0 1) + 6 * x.toNatClampNeg) 5) (σ (50 + 57 * bz (σ 0 1) + 6 * x.toNatClampNeg)) then -3 else if knowS (σ (49 + 57 * bz (σ 0 1) + 6 * x.toNatClampNeg)) 35 ≤ mo then (if σ (47 + 57 * bz (σ 0 1) + 6 * x.toNatClampNeg) 5 < 3 then addRS σ (bz (σ 0 1)) x.toNatClampNeg mo v (47 + 57 * bz (σ 0 1) + 6 * x.toNatClampNeg) 5 else -4) else -3) else -2) else -1) else -1) else -1
def rebM (σ : MI) (x mo v : Int32) : MI := if inC x (σ (44 + 57 * bz (σ 0 1)) 1) 6 = true then (if isPastS (σ (44 + 57 * bz (σ 0 1)) 0) mo = true then (if isVal v = true then (if kindS (σ (49 + 57 * bz (σ 0 1) + 6 * x.toNatClampNeg)) mo = 2 then (if mo ≤ lateS (σ (47 + 57 * bz (σ 0 1) + 6 * x.toNatClampNeg) 5) (σ (50 + 57 * bz (σ 0 1) + 6 * x.toNatClampNeg)) then σ else if knowS (σ (49 + 57 * bz (σ 0 1) + 6 * x.toNatClampNeg)) 35 ≤ mo then (if σ (47 + 57 * bz (σ 0 1) + 6 * x.toNatClampNeg) 5 < 3 then keepS (addRS σ (bz (σ 0 1)) x.toNatClampNeg mo v) 1 x mo 0 0 else σ) else σ) else σ) else σ) else σ) else σ
/-! deliver -/
def dvC (σ : MI) (q du n : Int32) : Bool := if inC q (σ (44 + 57 * bz (σ 0 1)) 2) 6 = true then (if isPricS (σ (44 + 57 * bz (σ 0 1)) 0) (σ (83 + 57 * bz (σ 0 1) + 3 * q.toNatClampNeg) 2) du = true then (if n < 1 then false else if n ≤ 999 then true else false) else false) else false
def dv1 (σ : MI) (q du n : Int32) : MI := s2 (s2 (s2 (s2 (s2 (s2 σ 12 1 (σ 12 1 + 1)) (14 + (σ 12 1).toNatClampNeg) 0 q) (14 + (σ 12 1).toNatClampNeg) 1 du) (14 + (σ 12 1).toNatClampNeg) 2 (σ (44 + 57 * bz (σ 0 1)) 0)) (14 + (σ 12 1).toNatClampNeg) 3 n) (14 + (σ 12 1).toNatClampNeg) 6 (-1)
def dv2 (σ : MI) (q du n : Int32) : MI := keepS (bilS (dv1 σ q du n) (σ 12 1).toNatClampNeg (pfS (dv1 σ q du n) (bz (σ 0 1)) q.toNatClampNeg du) (pfS (dv1 σ q du n) (bz (σ 0 1)) q.toNatClampNeg (σ (44 + 57 * bz (σ 0 1)) 0))) 2 0 0 0 0
def dvR (σ : MI) (q du n : Int32) : Int32 := if dvC σ q du n = true then (if inL (σ 12 1) 30 = true then σ 12 1 + 1 - 1 else -2) else -1
def dvM (σ : MI) (q du n : Int32) : MI := if dvC σ q du n = true then (if inL (σ 12 1) 30 = true then dv2 σ q du n else σ) else σ
def dvT (σ : MI) (τ : ML) (q du n : Int32) : ML := if dvC σ q du n = true then (if inL (σ 12 1) 30 = true then s2L τ (14 + (σ 12 1).toNatClampNeg) 7 0 else τ) else τ
/-! close -/
def clR (σ : MI) : Int32 := if σ (44 + 57 * bz (σ 0 1)) 0 < 35 then setlN σ (bz (σ 0 1)) (kmin (σ 12 1) 30) else -1
def clM (σ : MI) : MI := if σ (44 + 57 * bz (σ 0 1)) 0 < 35 then keepS (s2 (setlM σ (bz (σ 0 1)) (kmin (σ 12 1) 30)) (44 + 57 * bz (σ 0 1)) 0 (σ (44 + 57 * bz (σ 0 1)) 0 + 1)) 3 0 0 0 0 else σ
def clT (σ : MI) (τ : ML) : ML := if σ (44 + 57 * bz (σ 0 1)) 0 < 35 then setlT σ τ (bz (σ 0 1)) (kmin (σ 12 1) 30) else τ
/-! undo -/
def tbV (σ : MI) (s : Int32) : MI := if inC (σ 8 s.toNatClampNeg) (σ (44 + 57 * bz (σ 0 1)) 1) 6 = true then putS σ (bz (σ 0 1)) (σ 8 s.toNatClampNeg).toNatClampNeg (σ 9 s.toNatClampNeg) (σ 10 s.toNatClampNeg) (σ 11 s.toNatClampNeg) else σ
def tbR (σ : MI) (s : Int32) : MI := if inC (σ 8 s.toNatClampNeg) (σ (44 + 57 * bz (σ 0 1)) 1) 6 = true then (if σ (47 + 57 * bz (σ 0 1) + 6 * (σ 8 s.toNatClampNeg).toNatClampNeg) 5 ≤ 0 then σ else s2 σ (47 + 57 * bz (σ 0 1) + 6 * (σ 8 s.toNatClampNeg).toNatClampNeg) 5 (σ (47 + 57 * bz (σ 0 1) + 6 * (σ 8 s.toNatClampNeg).toNatClampNeg) 5 - 1)) else σ
def tbN (σ : MI) : MI := s2 σ (44 + 57 * bz (σ 0 1)) 0 (σ (44 + 57 * bz (σ 0 1)) 0 - 1)
def tbC (σ : MI) (τ : ML) : MI := if σ (44 + 57 * bz (σ 0 1)) 0 ≤ 0 then σ else (unsS (tbN σ) τ (σ (44 + 57 * bz (σ 0 1)) 0 - 1) (kmin (tbN σ 12 1) 30)).1
def tbT (σ : MI) (τ : ML) : ML := if σ (44 + 57 * bz (σ 0 1)) 0 ≤ 0 then τ else (unsS (tbN σ) τ (σ (44 + 57 * bz (σ 0 1)) 0 - 1) (kmin (tbN σ 12 1) 30)).2

def unM (σ : MI) (τ : ML) : MI := if tlR σ < 0 then tlS σ else if tlR σ < 8 then (match swt (σ 7 (tlR σ).toNatClampNeg) 3 with
  | 0 => tbV (tlS σ) (tlR σ)
  | 1 => tbR (tlS σ) (tlR σ)
  | 2 => drS (tlS σ)
  | _ => tbC (tlS σ) τ) else tlS σ
def unT (σ : MI) (τ : ML) : ML := if tlR σ < 0 then τ else if tlR σ < 8 then (match swt (σ 7 (tlR σ).toNatClampNeg) 3 with
  | 0 => τ
  | 1 => τ
  | 2 => τ
  | _ => tbT (tlS σ) τ) else τ
def unR (σ : MI) (τ : ML) : Int32 := if tlR σ < 0 then -1 else if tlR σ < 8 then unM σ τ 6 6 else -1
/-! rises -/
def bsS (P : Int32 → Bool) : Nat → Int32 → Int32 → Int32
  | 0, _, h => h
  | n + 1, a, h => if h ≤ a then h else if P ((a + h) / 2) = true then bsS P n a ((a + h) / 2) else bsS P n ((a + h) / 2 + 1) h
def rsP (σ : MI) (b q i : Nat) (v : Int32) : Bool := if pwR σ b q i v ≤ σ (83 + 57 * b + 3 * q) 0 then false else true
def risR (σ : MI) (q x : Int32) : Int32 := if inC q (σ (44 + 57 * bz (σ 0 1)) 2) 6 = true then (if inC x (σ (44 + 57 * bz (σ 0 1)) 1) 6 = true then (if rsP σ (bz (σ 0 1)) q.toNatClampNeg x.toNatClampNeg 999 = true then bsS (rsP σ (bz (σ 0 1)) q.toNatClampNeg x.toNatClampNeg) 10 1 999 else -2) else -1) else -1
def risM (σ : MI) (q x : Int32) : MI := if inC q (σ (44 + 57 * bz (σ 0 1)) 2) 6 = true then (if inC x (σ (44 + 57 * bz (σ 0 1)) 1) 6 = true then pwB σ (bz (σ 0 1)) x.toNatClampNeg 999 else σ) else σ
