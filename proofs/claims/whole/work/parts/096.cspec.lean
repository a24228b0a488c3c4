/-! ===== what the constructors make ===== -/
section CSP
variable (ca : Nat → ClassId)
def zI (n : Nat) : va_E := .inl (ca 0, n, .inl (fun _ => 0))
def zRef (t n : Nat) (f : Nat → Option Nat) : va_E := .inl (ca t, n, .inr (.inr (.inr (.inr f))))
def ixB (o : Nat) : va_E := .inr (4, [.ref (o + 1), .ref (o + 2), .ref (o + 3), .ref (o + 4), .ref (o + 5), .int 0])
def ixE (k : Nat) : va_E := if k ≤ 1 then zI ca 36 else zI ca 3
def coB (o : Nat) : va_E := .inr (1, [.int 0, .int 0, .int 0, .int 0, .int 0, .int 0, .int 0, .ref (o + 1), .ref (o + 2)])
def bkB (o : Nat) : va_E := .inr (0, [.int 0, .int 0, .int 0, .ref (o + 1), .ref (o + 38)])
def bkE (a i c k : Nat) : va_E := if k = 0 then zRef ca 2 6 (fun j => if j < i then some (a + 2 + 6 * j) else none) else if k ≤ 36 then (if (k - 1) % 6 = 0 then ixB (a + 1 + k) else ixE ca ((k - 1) % 6 - 1)) else if k = 37 then zRef ca 3 6 (fun j => if j < c then some (a + 39 + 3 * j) else none) else if (k - 38) % 3 = 0 then coB (a + 1 + k) else zI ca 6
def deB : va_E := .inr (2, [.int 0, .int 0, .int 0, .int 0, .int 0, .int 0, .int 0, .long 0])
def leB (o : Nat) : va_E := .inr (5, [.ref (o + 1), .int 0])
def leE (a i k : Nat) : va_E := if k = 0 then zRef ca 4 30 (fun j => if j < i then some (a + 2 + j) else none) else deB
def hiB (o : Nat) : va_E := .inr (3, [.ref (o + 1), .ref (o + 2), .ref (o + 3), .ref (o + 4), .ref (o + 5), .int 0, .int 0])
def taB (o : Nat) : va_E := .inr (6, [.ref (o + 1), .int 0, .int 0, .int 0, .int 0, .int 0])
def zB : va_E := .inl (ca 1, 740, .inl (fun _ => 0))
def rdB (o : Nat) : va_E := .inr (7, [.ref (o + 1), .ref (o + 60), .ref (o + 61), .ref (o + 3), .int 0, .int 0])
def rdE (a k : Nat) : va_E := if k = 0 then taB (a + 1) else if k = 1 then zB ca else if k = 2 then bkB (a + 3) else if k ≤ 58 then bkE ca (a + 3) 6 6 (k - 3) else zI ca 6
def dkB (o : Nat) : va_E := .inr (8, [.ref (o + 1), .ref (o + 63), .ref (o + 120), .ref (o + 152)])
def dkE (a k : Nat) : va_E := if k = 0 then rdB (a + 1) else if k ≤ 61 then rdE ca (a + 1) (k - 1) else if k = 62 then bkB (a + 63) else if k ≤ 118 then bkE ca (a + 63) 6 6 (k - 63) else if k = 119 then leB (a + 120) else if k ≤ 150 then leE ca (a + 120) 30 (k - 120) else if k = 151 then hiB (a + 152) else zI ca 8
def mdB (o : Nat) : va_E := .inr (9, [.int 0, .ref (o + 1), .int 0, .int 0, .int 0, .int 0, .int 0, .int 0, .int 0, .int 0, .int 0, .long 0, .ref (o + 2), .ref (o + 3), .ref (o + 4), .ref (o + 5), .int 0])
def mdE (k : Nat) : va_E := if k = 0 then zI ca 740 else if k ≤ 2 then zI ca 880 else if k = 3 then zI ca 7040 else .inl (ca 5, 6, .inr (.inl (fun _ => 0)))
end CSP
