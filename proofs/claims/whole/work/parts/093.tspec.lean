/-! ===== what the throwing methods answer ===== -/
def raC (σ : MI) (x a z : Int32) : Bool := if inC x (σ (44 + 57 * bz (σ 0 1)) 1) 6 = true then (if z < a then false else if hasS (σ (49 + 57 * bz (σ 0 1) + 6 * x.toNatClampNeg)) a = true then (if hasS (σ (49 + 57 * bz (σ 0 1) + 6 * x.toNatClampNeg)) z = true then true else false) else false) else false
def raV (σ : MI) (x a z : Int32) : Int32 := ratI σ (bz (σ 0 1)) x.toNatClampNeg a z
def pcC (σ : MI) (x mo w : Int32) : Bool := if inC x (σ (44 + 57 * bz (σ 0 1)) 2) 6 = true then (if isPricS (σ (44 + 57 * bz (σ 0 1)) 0) (σ (83 + 57 * bz (σ 0 1) + 3 * x.toNatClampNeg) 2) mo = true then (if w < 0 then false else if w ≤ 2 then true else false) else false) else false
def pcF (σ : MI) (x mo : Int32) : Int32 := facS σ (bz (σ 0 1)) x.toNatClampNeg mo
def pcM (σ : MI) (x mo : Int32) : Int32 := mvS (σ (83 + 57 * bz (σ 0 1) + 3 * x.toNatClampNeg) 3) (σ (83 + 57 * bz (σ 0 1) + 3 * x.toNatClampNeg) 4) (σ (83 + 57 * bz (σ 0 1) + 3 * x.toNatClampNeg) 5) (pcF σ x mo)
def pcV (σ : MI) (x mo w : Int32) : Int32 := if w = 0 then pcF σ x mo else if w = 1 then pcM σ x mo else prS (σ (83 + 57 * bz (σ 0 1) + 3 * x.toNatClampNeg) 0) (pcM σ x mo)
def amC (σ : MI) (x w : Int32) : Bool := if inC x (σ 12 1) 30 = true then (if w < 0 then false else if w ≤ 2 then true else false) else false
def amB (σ : MI) (d : Nat) : Int64 := (σ (14 + d) 3).toInt64 * (σ (14 + d) 5).toInt64
def amV (σ : MI) (τ : ML) (x w : Int32) : Int64 := if w = 0 then amB σ x.toNatClampNeg else if w = 1 then τ (14 + x.toNatClampNeg) 7 else amB σ x.toNatClampNeg + τ (14 + x.toNatClampNeg) 7
def stC (_ : MI) (mo w : Int32) : Bool := if isMon mo = true then (if w < 0 then false else if w ≤ 3 then true else false) else false
def stV (σ : MI) (τ : ML) (mo w : Int32) : Int64 := if w = 0 then bilF σ mo mo (kmin (σ 12 1) 30) else if w = 1 then truF σ τ mo mo (kmin (σ 12 1) 30) else if w = 2 then bilF σ mo mo (kmin (σ 12 1) 30) + truF σ τ mo mo (kmin (σ 12 1) 30) else bilF σ 0 mo (kmin (σ 12 1) 30) + truF σ τ 0 mo (kmin (σ 12 1) 30)
