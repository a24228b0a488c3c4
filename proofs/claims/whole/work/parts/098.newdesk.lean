/-! ===== a new desk, a new reference: their worlds ===== -/
theorem PW.of {D : va_G} {N : Nat} {ad : Nat → Nat} {cf : CF} {σ : MI} {τ : ML} {H : Heap} (h : ∀ k, k < N → va_at D vwCl (ad k, cf k (σ k) (τ k)) H) : PW D N ad cf σ τ H := fun k q hk => by
  by_cases hkN : k < N
  · rw [wdl_get hkN rfl] at hk
    cases hk
    exact h k hkN
  · simp [wdl, hkN] at hk
theorem PW.at {D : va_G} {N : Nat} {ad : Nat → Nat} {cf : CF} {σ : MI} {τ : ML} {H : Heap} (h : PW D N ad cf σ τ H) {k : Nat} (hk : k < N) : va_at D vwCl (ad k, cf k (σ k) (τ k)) H := h k _ (wdl_get hk rfl)
theorem va_at_q {D : va_G} {ca : Nat → ClassId} {t n q : Nat} {f g : Nat → Option Nat} {H : Heap} (hfg : ∀ j, j < n → f j = g j) (h : va_at D vwCl (q, zRef ca t n f) H) : va_at D vwCl (q, .inl (ca t, n, .inr (.inr (.inr (.inr g))))) H := by
  show H[q]? = some (vp_cell (ca t) (n, .inr (.inr (.inr (.inr g)))))
  have h1 : H[q]? = some (vp_cell (ca t) (n, .inr (.inr (.inr (.inr f))))) := h
  rw [h1, vp_cell_q, vp_cell_q]
  congr 1
  unfold arrV
  congr 1
  apply Array.ext
  · simp
  · intro i h1 h2
    simp at h1 h2 ⊢
    rw [hfg i (by omega)]
def oc (k : Nat) : Nat := if k ≤ 3 then k else if k ≤ 5 then 57 + k else if k ≤ 11 then 146 + k else if k ≤ 43 then 108 + k else if k ≤ 45 then k - 40 else if k = 46 then 42 else if k ≤ 82 then k - 41 else if k ≤ 100 then k - 40 else if k ≤ 102 then k - 38 else if k = 103 then 101 else if k ≤ 139 then k - 39 else k - 38
def s0 : MI := fun k j => if k = 0 then (if j = 1 then 1 else 0) else 0
def t0L : ML := fun _ _ => 0
theorem pd_0 {D : va_G} {ca : Nat → ClassId} {a : Nat} {H0 H : Heap} (h : CS D a 157 H0 (dkB a) (dkE ca a) H) : va_at D vwCl (a + oc 0, cxf ca (fun k => a + oc k) 0 (s0 0) (t0L 0)) H := h.2.2.1
theorem pd_1 {D : va_G} {ca : Nat → ClassId} {a : Nat} {H0 H : Heap} (h : CS D a 157 H0 (dkB a) (dkE ca a) H) : va_at D vwCl (a + oc 1, cxf ca (fun k => a + oc k) 1 (s0 1) (t0L 1)) H := h.2.2.2 0 (by decide)
theorem pd_2 {D : va_G} {ca : Nat → ClassId} {a : Nat} {H0 H : Heap} (h : CS D a 157 H0 (dkB a) (dkE ca a) H) : va_at D vwCl (a + oc 2, cxf ca (fun k => a + oc k) 2 (s0 2) (t0L 2)) H := h.2.2.2 1 (by decide)
theorem pd_3 {D : va_G} {ca : Nat → ClassId} {a : Nat} {H0 H : Heap} (h : CS D a 157 H0 (dkB a) (dkE ca a) H) : va_at D vwCl (a + oc 3, cxf ca (fun k => a + oc k) 3 (s0 3) (t0L 3)) H := h.2.2.2 2 (by decide)
theorem pd_4 {D : va_G} {ca : Nat → ClassId} {a : Nat} {H0 H : Heap} (h : CS D a 157 H0 (dkB a) (dkE ca a) H) : va_at D vwCl (a + oc 4, cxf ca (fun k => a + oc k) 4 (s0 4) (t0L 4)) H := h.2.2.2 60 (by decide)
theorem pd_5 {D : va_G} {ca : Nat → ClassId} {a : Nat} {H0 H : Heap} (h : CS D a 157 H0 (dkB a) (dkE ca a) H) : va_at D vwCl (a + oc 5, cxf ca (fun k => a + oc k) 5 (s0 5) (t0L 5)) H := h.2.2.2 61 (by decide)
theorem pd_6 {D : va_G} {ca : Nat → ClassId} {a : Nat} {H0 H : Heap} (h : CS D a 157 H0 (dkB a) (dkE ca a) H) : va_at D vwCl (a + oc 6, cxf ca (fun k => a + oc k) 6 (s0 6) (t0L 6)) H := h.2.2.2 151 (by decide)
theorem pd_7 {D : va_G} {ca : Nat → ClassId} {a : Nat} {H0 H : Heap} (h : CS D a 157 H0 (dkB a) (dkE ca a) H) : va_at D vwCl (a + oc 7, cxf ca (fun k => a + oc k) 7 (s0 7) (t0L 7)) H := h.2.2.2 152 (by decide)
theorem pd_8 {D : va_G} {ca : Nat → ClassId} {a : Nat} {H0 H : Heap} (h : CS D a 157 H0 (dkB a) (dkE ca a) H) : va_at D vwCl (a + oc 8, cxf ca (fun k => a + oc k) 8 (s0 8) (t0L 8)) H := h.2.2.2 153 (by decide)
theorem pd_9 {D : va_G} {ca : Nat → ClassId} {a : Nat} {H0 H : Heap} (h : CS D a 157 H0 (dkB a) (dkE ca a) H) : va_at D vwCl (a + oc 9, cxf ca (fun k => a + oc k) 9 (s0 9) (t0L 9)) H := h.2.2.2 154 (by decide)
theorem pd_10 {D : va_G} {ca : Nat → ClassId} {a : Nat} {H0 H : Heap} (h : CS D a 157 H0 (dkB a) (dkE ca a) H) : va_at D vwCl (a + oc 10, cxf ca (fun k => a + oc k) 10 (s0 10) (t0L 10)) H := h.2.2.2 155 (by decide)
theorem pd_11 {D : va_G} {ca : Nat → ClassId} {a : Nat} {H0 H : Heap} (h : CS D a 157 H0 (dkB a) (dkE ca a) H) : va_at D vwCl (a + oc 11, cxf ca (fun k => a + oc k) 11 (s0 11) (t0L 11)) H := h.2.2.2 156 (by decide)
theorem pd_12 {D : va_G} {ca : Nat → ClassId} {a : Nat} {H0 H : Heap} (h : CS D a 157 H0 (dkB a) (dkE ca a) H) : va_at D vwCl (a + oc 12, cxf ca (fun k => a + oc k) 12 (s0 12) (t0L 12)) H := h.2.2.2 119 (by decide)
theorem pd_13 {D : va_G} {ca : Nat → ClassId} {a : Nat} {H0 H : Heap} (h : CS D a 157 H0 (dkB a) (dkE ca a) H) : va_at D vwCl (a + oc 13, cxf ca (fun k => a + oc k) 13 (s0 13) (t0L 13)) H := va_at_q (fun j hj => by rcases (by omega : j = 0 ∨ j = 1 ∨ j = 2 ∨ j = 3 ∨ j = 4 ∨ j = 5 ∨ j = 6 ∨ j = 7 ∨ j = 8 ∨ j = 9 ∨ j = 10 ∨ j = 11 ∨ j = 12 ∨ j = 13 ∨ j = 14 ∨ j = 15 ∨ j = 16 ∨ j = 17 ∨ j = 18 ∨ j = 19 ∨ j = 20 ∨ j = 21 ∨ j = 22 ∨ j = 23 ∨ j = 24 ∨ j = 25 ∨ j = 26 ∨ j = 27 ∨ j = 28 ∨ j = 29) with rfl | rfl | rfl | rfl | rfl | rfl | rfl | rfl | rfl | rfl | rfl | rfl | rfl | rfl | rfl | rfl | rfl | rfl | rfl | rfl | rfl | rfl | rfl | rfl | rfl | rfl | rfl | rfl | rfl | rfl <;> rfl) (h.2.2.2 120 (by decide))
theorem pd_14 {D : va_G} {ca : Nat → ClassId} {a : Nat} {H0 H : Heap} (h : CS D a 157 H0 (dkB a) (dkE ca a) H) : va_at D vwCl (a + oc 14, cxf ca (fun k => a + oc k) 14 (s0 14) (t0L 14)) H := h.2.2.2 121 (by decide)
theorem pd_15 {D : va_G} {ca : Nat → ClassId} {a : Nat} {H0 H : Heap} (h : CS D a 157 H0 (dkB a) (dkE ca a) H) : va_at D vwCl (a + oc 15, cxf ca (fun k => a + oc k) 15 (s0 15) (t0L 15)) H := h.2.2.2 122 (by decide)
theorem pd_16 {D : va_G} {ca : Nat → ClassId} {a : Nat} {H0 H : Heap} (h : CS D a 157 H0 (dkB a) (dkE ca a) H) : va_at D vwCl (a + oc 16, cxf ca (fun k => a + oc k) 16 (s0 16) (t0L 16)) H := h.2.2.2 123 (by decide)
theorem pd_17 {D : va_G} {ca : Nat → ClassId} {a : Nat} {H0 H : Heap} (h : CS D a 157 H0 (dkB a) (dkE ca a) H) : va_at D vwCl (a + oc 17, cxf ca (fun k => a + oc k) 17 (s0 17) (t0L 17)) H := h.2.2.2 124 (by decide)
theorem pd_18 {D : va_G} {ca : Nat → ClassId} {a : Nat} {H0 H : Heap} (h : CS D a 157 H0 (dkB a) (dkE ca a) H) : va_at D vwCl (a + oc 18, cxf ca (fun k => a + oc k) 18 (s0 18) (t0L 18)) H := h.2.2.2 125 (by decide)
theorem pd_19 {D : va_G} {ca : Nat → ClassId} {a : Nat} {H0 H : Heap} (h : CS D a 157 H0 (dkB a) (dkE ca a) H) : va_at D vwCl (a + oc 19, cxf ca (fun k => a + oc k) 19 (s0 19) (t0L 19)) H := h.2.2.2 126 (by decide)
theorem pd_20 {D : va_G} {ca : Nat → ClassId} {a : Nat} {H0 H : Heap} (h : CS D a 157 H0 (dkB a) (dkE ca a) H) : va_at D vwCl (a + oc 20, cxf ca (fun k => a + oc k) 20 (s0 20) (t0L 20)) H := h.2.2.2 127 (by decide)
theorem pd_21 {D : va_G} {ca : Nat → ClassId} {a : Nat} {H0 H : Heap} (h : CS D a 157 H0 (dkB a) (dkE ca a) H) : va_at D vwCl (a + oc 21, cxf ca (fun k => a + oc k) 21 (s0 21) (t0L 21)) H := h.2.2.2 128 (by decide)
theorem pd_22 {D : va_G} {ca : Nat → ClassId} {a : Nat} {H0 H : Heap} (h : CS D a 157 H0 (dkB a) (dkE ca a) H) : va_at D vwCl (a + oc 22, cxf ca (fun k => a + oc k) 22 (s0 22) (t0L 22)) H := h.2.2.2 129 (by decide)
theorem pd_23 {D : va_G} {ca : Nat → ClassId} {a : Nat} {H0 H : Heap} (h : CS D a 157 H0 (dkB a) (dkE ca a) H) : va_at D vwCl (a + oc 23, cxf ca (fun k => a + oc k) 23 (s0 23) (t0L 23)) H := h.2.2.2 130 (by decide)
theorem pd_24 {D : va_G} {ca : Nat → ClassId} {a : Nat} {H0 H : Heap} (h : CS D a 157 H0 (dkB a) (dkE ca a) H) : va_at D vwCl (a + oc 24, cxf ca (fun k => a + oc k) 24 (s0 24) (t0L 24)) H := h.2.2.2 131 (by decide)
theorem pd_25 {D : va_G} {ca : Nat → ClassId} {a : Nat} {H0 H : Heap} (h : CS D a 157 H0 (dkB a) (dkE ca a) H) : va_at D vwCl (a + oc 25, cxf ca (fun k => a + oc k) 25 (s0 25) (t0L 25)) H := h.2.2.2 132 (by decide)
theorem pd_26 {D : va_G} {ca : Nat → ClassId} {a : Nat} {H0 H : Heap} (h : CS D a 157 H0 (dkB a) (dkE ca a) H) : va_at D vwCl (a + oc 26, cxf ca (fun k => a + oc k) 26 (s0 26) (t0L 26)) H := h.2.2.2 133 (by decide)
theorem pd_27 {D : va_G} {ca : Nat → ClassId} {a : Nat} {H0 H : Heap} (h : CS D a 157 H0 (dkB a) (dkE ca a) H) : va_at D vwCl (a + oc 27, cxf ca (fun k => a + oc k) 27 (s0 27) (t0L 27)) H := h.2.2.2 134 (by decide)
theorem pd_28 {D : va_G} {ca : Nat → ClassId} {a : Nat} {H0 H : Heap} (h : CS D a 157 H0 (dkB a) (dkE ca a) H) : va_at D vwCl (a + oc 28, cxf ca (fun k => a + oc k) 28 (s0 28) (t0L 28)) H := h.2.2.2 135 (by decide)
theorem pd_29 {D : va_G} {ca : Nat → ClassId} {a : Nat} {H0 H : Heap} (h : CS D a 157 H0 (dkB a) (dkE ca a) H) : va_at D vwCl (a + oc 29, cxf ca (fun k => a + oc k) 29 (s0 29) (t0L 29)) H := h.2.2.2 136 (by decide)
theorem pd_30 {D : va_G} {ca : Nat → ClassId} {a : Nat} {H0 H : Heap} (h : CS D a 157 H0 (dkB a) (dkE ca a) H) : va_at D vwCl (a + oc 30, cxf ca (fun k => a + oc k) 30 (s0 30) (t0L 30)) H := h.2.2.2 137 (by decide)
theorem pd_31 {D : va_G} {ca : Nat → ClassId} {a : Nat} {H0 H : Heap} (h : CS D a 157 H0 (dkB a) (dkE ca a) H) : va_at D vwCl (a + oc 31, cxf ca (fun k => a + oc k) 31 (s0 31) (t0L 31)) H := h.2.2.2 138 (by decide)
theorem pd_32 {D : va_G} {ca : Nat → ClassId} {a : Nat} {H0 H : Heap} (h : CS D a 157 H0 (dkB a) (dkE ca a) H) : va_at D vwCl (a + oc 32, cxf ca (fun k => a + oc k) 32 (s0 32) (t0L 32)) H := h.2.2.2 139 (by decide)
theorem pd_33 {D : va_G} {ca : Nat → ClassId} {a : Nat} {H0 H : Heap} (h : CS D a 157 H0 (dkB a) (dkE ca a) H) : va_at D vwCl (a + oc 33, cxf ca (fun k => a + oc k) 33 (s0 33) (t0L 33)) H := h.2.2.2 140 (by decide)
theorem pd_34 {D : va_G} {ca : Nat → ClassId} {a : Nat} {H0 H : Heap} (h : CS D a 157 H0 (dkB a) (dkE ca a) H) : va_at D vwCl (a + oc 34, cxf ca (fun k => a + oc k) 34 (s0 34) (t0L 34)) H := h.2.2.2 141 (by decide)
theorem pd_35 {D : va_G} {ca : Nat → ClassId} {a : Nat} {H0 H : Heap} (h : CS D a 157 H0 (dkB a) (dkE ca a) H) : va_at D vwCl (a + oc 35, cxf ca (fun k => a + oc k) 35 (s0 35) (t0L 35)) H := h.2.2.2 142 (by decide)
theorem pd_36 {D : va_G} {ca : Nat → ClassId} {a : Nat} {H0 H : Heap} (h : CS D a 157 H0 (dkB a) (dkE ca a) H) : va_at D vwCl (a + oc 36, cxf ca (fun k => a + oc k) 36 (s0 36) (t0L 36)) H := h.2.2.2 143 (by decide)
theorem pd_37 {D : va_G} {ca : Nat → ClassId} {a : Nat} {H0 H : Heap} (h : CS D a 157 H0 (dkB a) (dkE ca a) H) : va_at D vwCl (a + oc 37, cxf ca (fun k => a + oc k) 37 (s0 37) (t0L 37)) H := h.2.2.2 144 (by decide)
theorem pd_38 {D : va_G} {ca : Nat → ClassId} {a : Nat} {H0 H : Heap} (h : CS D a 157 H0 (dkB a) (dkE ca a) H) : va_at D vwCl (a + oc 38, cxf ca (fun k => a + oc k) 38 (s0 38) (t0L 38)) H := h.2.2.2 145 (by decide)
theorem pd_39 {D : va_G} {ca : Nat → ClassId} {a : Nat} {H0 H : Heap} (h : CS D a 157 H0 (dkB a) (dkE ca a) H) : va_at D vwCl (a + oc 39, cxf ca (fun k => a + oc k) 39 (s0 39) (t0L 39)) H := h.2.2.2 146 (by decide)
theorem pd_40 {D : va_G} {ca : Nat → ClassId} {a : Nat} {H0 H : Heap} (h : CS D a 157 H0 (dkB a) (dkE ca a) H) : va_at D vwCl (a + oc 40, cxf ca (fun k => a + oc k) 40 (s0 40) (t0L 40)) H := h.2.2.2 147 (by decide)
theorem pd_41 {D : va_G} {ca : Nat → ClassId} {a : Nat} {H0 H : Heap} (h : CS D a 157 H0 (dkB a) (dkE ca a) H) : va_at D vwCl (a + oc 41, cxf ca (fun k => a + oc k) 41 (s0 41) (t0L 41)) H := h.2.2.2 148 (by decide)
theorem pd_42 {D : va_G} {ca : Nat → ClassId} {a : Nat} {H0 H : Heap} (h : CS D a 157 H0 (dkB a) (dkE ca a) H) : va_at D vwCl (a + oc 42, cxf ca (fun k => a + oc k) 42 (s0 42) (t0L 42)) H := h.2.2.2 149 (by decide)
theorem pd_43 {D : va_G} {ca : Nat → ClassId} {a : Nat} {H0 H : Heap} (h : CS D a 157 H0 (dkB a) (dkE ca a) H) : va_at D vwCl (a + oc 43, cxf ca (fun k => a + oc k) 43 (s0 43) (t0L 43)) H := h.2.2.2 150 (by decide)
theorem pd_44 {D : va_G} {ca : Nat → ClassId} {a : Nat} {H0 H : Heap} (h : CS D a 157 H0 (dkB a) (dkE ca a) H) : va_at D vwCl (a + oc 44, cxf ca (fun k => a + oc k) 44 (s0 44) (t0L 44)) H := h.2.2.2 3 (by decide)
theorem pd_45 {D : va_G} {ca : Nat → ClassId} {a : Nat} {H0 H : Heap} (h : CS D a 157 H0 (dkB a) (dkE ca a) H) : va_at D vwCl (a + oc 45, cxf ca (fun k => a + oc k) 45 (s0 45) (t0L 45)) H := va_at_q (fun j hj => by rcases (by omega : j = 0 ∨ j = 1 ∨ j = 2 ∨ j = 3 ∨ j = 4 ∨ j = 5) with rfl | rfl | rfl | rfl | rfl | rfl <;> rfl) (h.2.2.2 4 (by decide))
theorem pd_46 {D : va_G} {ca : Nat → ClassId} {a : Nat} {H0 H : Heap} (h : CS D a 157 H0 (dkB a) (dkE ca a) H) : va_at D vwCl (a + oc 46, cxf ca (fun k => a + oc k) 46 (s0 46) (t0L 46)) H := va_at_q (fun j hj => by rcases (by omega : j = 0 ∨ j = 1 ∨ j = 2 ∨ j = 3 ∨ j = 4 ∨ j = 5) with rfl | rfl | rfl | rfl | rfl | rfl <;> rfl) (h.2.2.2 41 (by decide))
theorem pd_47 {D : va_G} {ca : Nat → ClassId} {a : Nat} {H0 H : Heap} (h : CS D a 157 H0 (dkB a) (dkE ca a) H) : va_at D vwCl (a + oc 47, cxf ca (fun k => a + oc k) 47 (s0 47) (t0L 47)) H := h.2.2.2 5 (by decide)
theorem pd_48 {D : va_G} {ca : Nat → ClassId} {a : Nat} {H0 H : Heap} (h : CS D a 157 H0 (dkB a) (dkE ca a) H) : va_at D vwCl (a + oc 48, cxf ca (fun k => a + oc k) 48 (s0 48) (t0L 48)) H := h.2.2.2 6 (by decide)
theorem pd_49 {D : va_G} {ca : Nat → ClassId} {a : Nat} {H0 H : Heap} (h : CS D a 157 H0 (dkB a) (dkE ca a) H) : va_at D vwCl (a + oc 49, cxf ca (fun k => a + oc k) 49 (s0 49) (t0L 49)) H := h.2.2.2 7 (by decide)
theorem pd_50 {D : va_G} {ca : Nat → ClassId} {a : Nat} {H0 H : Heap} (h : CS D a 157 H0 (dkB a) (dkE ca a) H) : va_at D vwCl (a + oc 50, cxf ca (fun k => a + oc k) 50 (s0 50) (t0L 50)) H := h.2.2.2 8 (by decide)
theorem pd_51 {D : va_G} {ca : Nat → ClassId} {a : Nat} {H0 H : Heap} (h : CS D a 157 H0 (dkB a) (dkE ca a) H) : va_at D vwCl (a + oc 51, cxf ca (fun k => a + oc k) 51 (s0 51) (t0L 51)) H := h.2.2.2 9 (by decide)
theorem pd_52 {D : va_G} {ca : Nat → ClassId} {a : Nat} {H0 H : Heap} (h : CS D a 157 H0 (dkB a) (dkE ca a) H) : va_at D vwCl (a + oc 52, cxf ca (fun k => a + oc k) 52 (s0 52) (t0L 52)) H := h.2.2.2 10 (by decide)
theorem pd_53 {D : va_G} {ca : Nat → ClassId} {a : Nat} {H0 H : Heap} (h : CS D a 157 H0 (dkB a) (dkE ca a) H) : va_at D vwCl (a + oc 53, cxf ca (fun k => a + oc k) 53 (s0 53) (t0L 53)) H := h.2.2.2 11 (by decide)
theorem pd_54 {D : va_G} {ca : Nat → ClassId} {a : Nat} {H0 H : Heap} (h : CS D a 157 H0 (dkB a) (dkE ca a) H) : va_at D vwCl (a + oc 54, cxf ca (fun k => a + oc k) 54 (s0 54) (t0L 54)) H := h.2.2.2 12 (by decide)
theorem pd_55 {D : va_G} {ca : Nat → ClassId} {a : Nat} {H0 H : Heap} (h : CS D a 157 H0 (dkB a) (dkE ca a) H) : va_at D vwCl (a + oc 55, cxf ca (fun k => a + oc k) 55 (s0 55) (t0L 55)) H := h.2.2.2 13 (by decide)
theorem pd_56 {D : va_G} {ca : Nat → ClassId} {a : Nat} {H0 H : Heap} (h : CS D a 157 H0 (dkB a) (dkE ca a) H) : va_at D vwCl (a + oc 56, cxf ca (fun k => a + oc k) 56 (s0 56) (t0L 56)) H := h.2.2.2 14 (by decide)
theorem pd_57 {D : va_G} {ca : Nat → ClassId} {a : Nat} {H0 H : Heap} (h : CS D a 157 H0 (dkB a) (dkE ca a) H) : va_at D vwCl (a + oc 57, cxf ca (fun k => a + oc k) 57 (s0 57) (t0L 57)) H := h.2.2.2 15 (by decide)
theorem pd_58 {D : va_G} {ca : Nat → ClassId} {a : Nat} {H0 H : Heap} (h : CS D a 157 H0 (dkB a) (dkE ca a) H) : va_at D vwCl (a + oc 58, cxf ca (fun k => a + oc k) 58 (s0 58) (t0L 58)) H := h.2.2.2 16 (by decide)
theorem pd_59 {D : va_G} {ca : Nat → ClassId} {a : Nat} {H0 H : Heap} (h : CS D a 157 H0 (dkB a) (dkE ca a) H) : va_at D vwCl (a + oc 59, cxf ca (fun k => a + oc k) 59 (s0 59) (t0L 59)) H := h.2.2.2 17 (by decide)
theorem pd_60 {D : va_G} {ca : Nat → ClassId} {a : Nat} {H0 H : Heap} (h : CS D a 157 H0 (dkB a) (dkE ca a) H) : va_at D vwCl (a + oc 60, cxf ca (fun k => a + oc k) 60 (s0 60) (t0L 60)) H := h.2.2.2 18 (by decide)
theorem pd_61 {D : va_G} {ca : Nat → ClassId} {a : Nat} {H0 H : Heap} (h : CS D a 157 H0 (dkB a) (dkE ca a) H) : va_at D vwCl (a + oc 61, cxf ca (fun k => a + oc k) 61 (s0 61) (t0L 61)) H := h.2.2.2 19 (by decide)
theorem pd_62 {D : va_G} {ca : Nat → ClassId} {a : Nat} {H0 H : Heap} (h : CS D a 157 H0 (dkB a) (dkE ca a) H) : va_at D vwCl (a + oc 62, cxf ca (fun k => a + oc k) 62 (s0 62) (t0L 62)) H := h.2.2.2 20 (by decide)
theorem pd_63 {D : va_G} {ca : Nat → ClassId} {a : Nat} {H0 H : Heap} (h : CS D a 157 H0 (dkB a) (dkE ca a) H) : va_at D vwCl (a + oc 63, cxf ca (fun k => a + oc k) 63 (s0 63) (t0L 63)) H := h.2.2.2 21 (by decide)
theorem pd_64 {D : va_G} {ca : Nat → ClassId} {a : Nat} {H0 H : Heap} (h : CS D a 157 H0 (dkB a) (dkE ca a) H) : va_at D vwCl (a + oc 64, cxf ca (fun k => a + oc k) 64 (s0 64) (t0L 64)) H := h.2.2.2 22 (by decide)
theorem pd_65 {D : va_G} {ca : Nat → ClassId} {a : Nat} {H0 H : Heap} (h : CS D a 157 H0 (dkB a) (dkE ca a) H) : va_at D vwCl (a + oc 65, cxf ca (fun k => a + oc k) 65 (s0 65) (t0L 65)) H := h.2.2.2 23 (by decide)
theorem pd_66 {D : va_G} {ca : Nat → ClassId} {a : Nat} {H0 H : Heap} (h : CS D a 157 H0 (dkB a) (dkE ca a) H) : va_at D vwCl (a + oc 66, cxf ca (fun k => a + oc k) 66 (s0 66) (t0L 66)) H := h.2.2.2 24 (by decide)
theorem pd_67 {D : va_G} {ca : Nat → ClassId} {a : Nat} {H0 H : Heap} (h : CS D a 157 H0 (dkB a) (dkE ca a) H) : va_at D vwCl (a + oc 67, cxf ca (fun k => a + oc k) 67 (s0 67) (t0L 67)) H := h.2.2.2 25 (by decide)
theorem pd_68 {D : va_G} {ca : Nat → ClassId} {a : Nat} {H0 H : Heap} (h : CS D a 157 H0 (dkB a) (dkE ca a) H) : va_at D vwCl (a + oc 68, cxf ca (fun k => a + oc k) 68 (s0 68) (t0L 68)) H := h.2.2.2 26 (by decide)
theorem pd_69 {D : va_G} {ca : Nat → ClassId} {a : Nat} {H0 H : Heap} (h : CS D a 157 H0 (dkB a) (dkE ca a) H) : va_at D vwCl (a + oc 69, cxf ca (fun k => a + oc k) 69 (s0 69) (t0L 69)) H := h.2.2.2 27 (by decide)
theorem pd_70 {D : va_G} {ca : Nat → ClassId} {a : Nat} {H0 H : Heap} (h : CS D a 157 H0 (dkB a) (dkE ca a) H) : va_at D vwCl (a + oc 70, cxf ca (fun k => a + oc k) 70 (s0 70) (t0L 70)) H := h.2.2.2 28 (by decide)
theorem pd_71 {D : va_G} {ca : Nat → ClassId} {a : Nat} {H0 H : Heap} (h : CS D a 157 H0 (dkB a) (dkE ca a) H) : va_at D vwCl (a + oc 71, cxf ca (fun k => a + oc k) 71 (s0 71) (t0L 71)) H := h.2.2.2 29 (by decide)
theorem pd_72 {D : va_G} {ca : Nat → ClassId} {a : Nat} {H0 H : Heap} (h : CS D a 157 H0 (dkB a) (dkE ca a) H) : va_at D vwCl (a + oc 72, cxf ca (fun k => a + oc k) 72 (s0 72) (t0L 72)) H := h.2.2.2 30 (by decide)
theorem pd_73 {D : va_G} {ca : Nat → ClassId} {a : Nat} {H0 H : Heap} (h : CS D a 157 H0 (dkB a) (dkE ca a) H) : va_at D vwCl (a + oc 73, cxf ca (fun k => a + oc k) 73 (s0 73) (t0L 73)) H := h.2.2.2 31 (by decide)
theorem pd_74 {D : va_G} {ca : Nat → ClassId} {a : Nat} {H0 H : Heap} (h : CS D a 157 H0 (dkB a) (dkE ca a) H) : va_at D vwCl (a + oc 74, cxf ca (fun k => a + oc k) 74 (s0 74) (t0L 74)) H := h.2.2.2 32 (by decide)
theorem pd_75 {D : va_G} {ca : Nat → ClassId} {a : Nat} {H0 H : Heap} (h : CS D a 157 H0 (dkB a) (dkE ca a) H) : va_at D vwCl (a + oc 75, cxf ca (fun k => a + oc k) 75 (s0 75) (t0L 75)) H := h.2.2.2 33 (by decide)
theorem pd_76 {D : va_G} {ca : Nat → ClassId} {a : Nat} {H0 H : Heap} (h : CS D a 157 H0 (dkB a) (dkE ca a) H) : va_at D vwCl (a + oc 76, cxf ca (fun k => a + oc k) 76 (s0 76) (t0L 76)) H := h.2.2.2 34 (by decide)
theorem pd_77 {D : va_G} {ca : Nat → ClassId} {a : Nat} {H0 H : Heap} (h : CS D a 157 H0 (dkB a) (dkE ca a) H) : va_at D vwCl (a + oc 77, cxf ca (fun k => a + oc k) 77 (s0 77) (t0L 77)) H := h.2.2.2 35 (by decide)
theorem pd_78 {D : va_G} {ca : Nat → ClassId} {a : Nat} {H0 H : Heap} (h : CS D a 157 H0 (dkB a) (dkE ca a) H) : va_at D vwCl (a + oc 78, cxf ca (fun k => a + oc k) 78 (s0 78) (t0L 78)) H := h.2.2.2 36 (by decide)
theorem pd_79 {D : va_G} {ca : Nat → ClassId} {a : Nat} {H0 H : Heap} (h : CS D a 157 H0 (dkB a) (dkE ca a) H) : va_at D vwCl (a + oc 79, cxf ca (fun k => a + oc k) 79 (s0 79) (t0L 79)) H := h.2.2.2 37 (by decide)
theorem pd_80 {D : va_G} {ca : Nat → ClassId} {a : Nat} {H0 H : Heap} (h : CS D a 157 H0 (dkB a) (dkE ca a) H) : va_at D vwCl (a + oc 80, cxf ca (fun k => a + oc k) 80 (s0 80) (t0L 80)) H := h.2.2.2 38 (by decide)
theorem pd_81 {D : va_G} {ca : Nat → ClassId} {a : Nat} {H0 H : Heap} (h : CS D a 157 H0 (dkB a) (dkE ca a) H) : va_at D vwCl (a + oc 81, cxf ca (fun k => a + oc k) 81 (s0 81) (t0L 81)) H := h.2.2.2 39 (by decide)
theorem pd_82 {D : va_G} {ca : Nat → ClassId} {a : Nat} {H0 H : Heap} (h : CS D a 157 H0 (dkB a) (dkE ca a) H) : va_at D vwCl (a + oc 82, cxf ca (fun k => a + oc k) 82 (s0 82) (t0L 82)) H := h.2.2.2 40 (by decide)
theorem pd_83 {D : va_G} {ca : Nat → ClassId} {a : Nat} {H0 H : Heap} (h : CS D a 157 H0 (dkB a) (dkE ca a) H) : va_at D vwCl (a + oc 83, cxf ca (fun k => a + oc k) 83 (s0 83) (t0L 83)) H := h.2.2.2 42 (by decide)
theorem pd_84 {D : va_G} {ca : Nat → ClassId} {a : Nat} {H0 H : Heap} (h : CS D a 157 H0 (dkB a) (dkE ca a) H) : va_at D vwCl (a + oc 84, cxf ca (fun k => a + oc k) 84 (s0 84) (t0L 84)) H := h.2.2.2 43 (by decide)
theorem pd_85 {D : va_G} {ca : Nat → ClassId} {a : Nat} {H0 H : Heap} (h : CS D a 157 H0 (dkB a) (dkE ca a) H) : va_at D vwCl (a + oc 85, cxf ca (fun k => a + oc k) 85 (s0 85) (t0L 85)) H := h.2.2.2 44 (by decide)
theorem pd_86 {D : va_G} {ca : Nat → ClassId} {a : Nat} {H0 H : Heap} (h : CS D a 157 H0 (dkB a) (dkE ca a) H) : va_at D vwCl (a + oc 86, cxf ca (fun k => a + oc k) 86 (s0 86) (t0L 86)) H := h.2.2.2 45 (by decide)
theorem pd_87 {D : va_G} {ca : Nat → ClassId} {a : Nat} {H0 H : Heap} (h : CS D a 157 H0 (dkB a) (dkE ca a) H) : va_at D vwCl (a + oc 87, cxf ca (fun k => a + oc k) 87 (s0 87) (t0L 87)) H := h.2.2.2 46 (by decide)
theorem pd_88 {D : va_G} {ca : Nat → ClassId} {a : Nat} {H0 H : Heap} (h : CS D a 157 H0 (dkB a) (dkE ca a) H) : va_at D vwCl (a + oc 88, cxf ca (fun k => a + oc k) 88 (s0 88) (t0L 88)) H := h.2.2.2 47 (by decide)
theorem pd_89 {D : va_G} {ca : Nat → ClassId} {a : Nat} {H0 H : Heap} (h : CS D a 157 H0 (dkB a) (dkE ca a) H) : va_at D vwCl (a + oc 89, cxf ca (fun k => a + oc k) 89 (s0 89) (t0L 89)) H := h.2.2.2 48 (by decide)
theorem pd_90 {D : va_G} {ca : Nat → ClassId} {a : Nat} {H0 H : Heap} (h : CS D a 157 H0 (dkB a) (dkE ca a) H) : va_at D vwCl (a + oc 90, cxf ca (fun k => a + oc k) 90 (s0 90) (t0L 90)) H := h.2.2.2 49 (by decide)
theorem pd_91 {D : va_G} {ca : Nat → ClassId} {a : Nat} {H0 H : Heap} (h : CS D a 157 H0 (dkB a) (dkE ca a) H) : va_at D vwCl (a + oc 91, cxf ca (fun k => a + oc k) 91 (s0 91) (t0L 91)) H := h.2.2.2 50 (by decide)
theorem pd_92 {D : va_G} {ca : Nat → ClassId} {a : Nat} {H0 H : Heap} (h : CS D a 157 H0 (dkB a) (dkE ca a) H) : va_at D vwCl (a + oc 92, cxf ca (fun k => a + oc k) 92 (s0 92) (t0L 92)) H := h.2.2.2 51 (by decide)
theorem pd_93 {D : va_G} {ca : Nat → ClassId} {a : Nat} {H0 H : Heap} (h : CS D a 157 H0 (dkB a) (dkE ca a) H) : va_at D vwCl (a + oc 93, cxf ca (fun k => a + oc k) 93 (s0 93) (t0L 93)) H := h.2.2.2 52 (by decide)
theorem pd_94 {D : va_G} {ca : Nat → ClassId} {a : Nat} {H0 H : Heap} (h : CS D a 157 H0 (dkB a) (dkE ca a) H) : va_at D vwCl (a + oc 94, cxf ca (fun k => a + oc k) 94 (s0 94) (t0L 94)) H := h.2.2.2 53 (by decide)
theorem pd_95 {D : va_G} {ca : Nat → ClassId} {a : Nat} {H0 H : Heap} (h : CS D a 157 H0 (dkB a) (dkE ca a) H) : va_at D vwCl (a + oc 95, cxf ca (fun k => a + oc k) 95 (s0 95) (t0L 95)) H := h.2.2.2 54 (by decide)
theorem pd_96 {D : va_G} {ca : Nat → ClassId} {a : Nat} {H0 H : Heap} (h : CS D a 157 H0 (dkB a) (dkE ca a) H) : va_at D vwCl (a + oc 96, cxf ca (fun k => a + oc k) 96 (s0 96) (t0L 96)) H := h.2.2.2 55 (by decide)
theorem pd_97 {D : va_G} {ca : Nat → ClassId} {a : Nat} {H0 H : Heap} (h : CS D a 157 H0 (dkB a) (dkE ca a) H) : va_at D vwCl (a + oc 97, cxf ca (fun k => a + oc k) 97 (s0 97) (t0L 97)) H := h.2.2.2 56 (by decide)
theorem pd_98 {D : va_G} {ca : Nat → ClassId} {a : Nat} {H0 H : Heap} (h : CS D a 157 H0 (dkB a) (dkE ca a) H) : va_at D vwCl (a + oc 98, cxf ca (fun k => a + oc k) 98 (s0 98) (t0L 98)) H := h.2.2.2 57 (by decide)
theorem pd_99 {D : va_G} {ca : Nat → ClassId} {a : Nat} {H0 H : Heap} (h : CS D a 157 H0 (dkB a) (dkE ca a) H) : va_at D vwCl (a + oc 99, cxf ca (fun k => a + oc k) 99 (s0 99) (t0L 99)) H := h.2.2.2 58 (by decide)
theorem pd_100 {D : va_G} {ca : Nat → ClassId} {a : Nat} {H0 H : Heap} (h : CS D a 157 H0 (dkB a) (dkE ca a) H) : va_at D vwCl (a + oc 100, cxf ca (fun k => a + oc k) 100 (s0 100) (t0L 100)) H := h.2.2.2 59 (by decide)
theorem pd_101 {D : va_G} {ca : Nat → ClassId} {a : Nat} {H0 H : Heap} (h : CS D a 157 H0 (dkB a) (dkE ca a) H) : va_at D vwCl (a + oc 101, cxf ca (fun k => a + oc k) 101 (s0 101) (t0L 101)) H := h.2.2.2 62 (by decide)
theorem pd_102 {D : va_G} {ca : Nat → ClassId} {a : Nat} {H0 H : Heap} (h : CS D a 157 H0 (dkB a) (dkE ca a) H) : va_at D vwCl (a + oc 102, cxf ca (fun k => a + oc k) 102 (s0 102) (t0L 102)) H := va_at_q (fun j hj => by rcases (by omega : j = 0 ∨ j = 1 ∨ j = 2 ∨ j = 3 ∨ j = 4 ∨ j = 5) with rfl | rfl | rfl | rfl | rfl | rfl <;> rfl) (h.2.2.2 63 (by decide))
theorem pd_103 {D : va_G} {ca : Nat → ClassId} {a : Nat} {H0 H : Heap} (h : CS D a 157 H0 (dkB a) (dkE ca a) H) : va_at D vwCl (a + oc 103, cxf ca (fun k => a + oc k) 103 (s0 103) (t0L 103)) H := va_at_q (fun j hj => by rcases (by omega : j = 0 ∨ j = 1 ∨ j = 2 ∨ j = 3 ∨ j = 4 ∨ j = 5) with rfl | rfl | rfl | rfl | rfl | rfl <;> rfl) (h.2.2.2 100 (by decide))
theorem pd_104 {D : va_G} {ca : Nat → ClassId} {a : Nat} {H0 H : Heap} (h : CS D a 157 H0 (dkB a) (dkE ca a) H) : va_at D vwCl (a + oc 104, cxf ca (fun k => a + oc k) 104 (s0 104) (t0L 104)) H := h.2.2.2 64 (by decide)
theorem pd_105 {D : va_G} {ca : Nat → ClassId} {a : Nat} {H0 H : Heap} (h : CS D a 157 H0 (dkB a) (dkE ca a) H) : va_at D vwCl (a + oc 105, cxf ca (fun k => a + oc k) 105 (s0 105) (t0L 105)) H := h.2.2.2 65 (by decide)
theorem pd_106 {D : va_G} {ca : Nat → ClassId} {a : Nat} {H0 H : Heap} (h : CS D a 157 H0 (dkB a) (dkE ca a) H) : va_at D vwCl (a + oc 106, cxf ca (fun k => a + oc k) 106 (s0 106) (t0L 106)) H := h.2.2.2 66 (by decide)
theorem pd_107 {D : va_G} {ca : Nat → ClassId} {a : Nat} {H0 H : Heap} (h : CS D a 157 H0 (dkB a) (dkE ca a) H) : va_at D vwCl (a + oc 107, cxf ca (fun k => a + oc k) 107 (s0 107) (t0L 107)) H := h.2.2.2 67 (by decide)
theorem pd_108 {D : va_G} {ca : Nat → ClassId} {a : Nat} {H0 H : Heap} (h : CS D a 157 H0 (dkB a) (dkE ca a) H) : va_at D vwCl (a + oc 108, cxf ca (fun k => a + oc k) 108 (s0 108) (t0L 108)) H := h.2.2.2 68 (by decide)
theorem pd_109 {D : va_G} {ca : Nat → ClassId} {a : Nat} {H0 H : Heap} (h : CS D a 157 H0 (dkB a) (dkE ca a) H) : va_at D vwCl (a + oc 109, cxf ca (fun k => a + oc k) 109 (s0 109) (t0L 109)) H := h.2.2.2 69 (by decide)
theorem pd_110 {D : va_G} {ca : Nat → ClassId} {a : Nat} {H0 H : Heap} (h : CS D a 157 H0 (dkB a) (dkE ca a) H) : va_at D vwCl (a + oc 110, cxf ca (fun k => a + oc k) 110 (s0 110) (t0L 110)) H := h.2.2.2 70 (by decide)
theorem pd_111 {D : va_G} {ca : Nat → ClassId} {a : Nat} {H0 H : Heap} (h : CS D a 157 H0 (dkB a) (dkE ca a) H) : va_at D vwCl (a + oc 111, cxf ca (fun k => a + oc k) 111 (s0 111) (t0L 111)) H := h.2.2.2 71 (by decide)
theorem pd_112 {D : va_G} {ca : Nat → ClassId} {a : Nat} {H0 H : Heap} (h : CS D a 157 H0 (dkB a) (dkE ca a) H) : va_at D vwCl (a + oc 112, cxf ca (fun k => a + oc k) 112 (s0 112) (t0L 112)) H := h.2.2.2 72 (by decide)
theorem pd_113 {D : va_G} {ca : Nat → ClassId} {a : Nat} {H0 H : Heap} (h : CS D a 157 H0 (dkB a) (dkE ca a) H) : va_at D vwCl (a + oc 113, cxf ca (fun k => a + oc k) 113 (s0 113) (t0L 113)) H := h.2.2.2 73 (by decide)
theorem pd_114 {D : va_G} {ca : Nat → ClassId} {a : Nat} {H0 H : Heap} (h : CS D a 157 H0 (dkB a) (dkE ca a) H) : va_at D vwCl (a + oc 114, cxf ca (fun k => a + oc k) 114 (s0 114) (t0L 114)) H := h.2.2.2 74 (by decide)
theorem pd_115 {D : va_G} {ca : Nat → ClassId} {a : Nat} {H0 H : Heap} (h : CS D a 157 H0 (dkB a) (dkE ca a) H) : va_at D vwCl (a + oc 115, cxf ca (fun k => a + oc k) 115 (s0 115) (t0L 115)) H := h.2.2.2 75 (by decide)
theorem pd_116 {D : va_G} {ca : Nat → ClassId} {a : Nat} {H0 H : Heap} (h : CS D a 157 H0 (dkB a) (dkE ca a) H) : va_at D vwCl (a + oc 116, cxf ca (fun k => a + oc k) 116 (s0 116) (t0L 116)) H := h.2.2.2 76 (by decide)
theorem pd_117 {D : va_G} {ca : Nat → ClassId} {a : Nat} {H0 H : Heap} (h : CS D a 157 H0 (dkB a) (dkE ca a) H) : va_at D vwCl (a + oc 117, cxf ca (fun k => a + oc k) 117 (s0 117) (t0L 117)) H := h.2.2.2 77 (by decide)
theorem pd_118 {D : va_G} {ca : Nat → ClassId} {a : Nat} {H0 H : Heap} (h : CS D a 157 H0 (dkB a) (dkE ca a) H) : va_at D vwCl (a + oc 118, cxf ca (fun k => a + oc k) 118 (s0 118) (t0L 118)) H := h.2.2.2 78 (by decide)
theorem pd_119 {D : va_G} {ca : Nat → ClassId} {a : Nat} {H0 H : Heap} (h : CS D a 157 H0 (dkB a) (dkE ca a) H) : va_at D vwCl (a + oc 119, cxf ca (fun k => a + oc k) 119 (s0 119) (t0L 119)) H := h.2.2.2 79 (by decide)
theorem pd_120 {D : va_G} {ca : Nat → ClassId} {a : Nat} {H0 H : Heap} (h : CS D a 157 H0 (dkB a) (dkE ca a) H) : va_at D vwCl (a + oc 120, cxf ca (fun k => a + oc k) 120 (s0 120) (t0L 120)) H := h.2.2.2 80 (by decide)
theorem pd_121 {D : va_G} {ca : Nat → ClassId} {a : Nat} {H0 H : Heap} (h : CS D a 157 H0 (dkB a) (dkE ca a) H) : va_at D vwCl (a + oc 121, cxf ca (fun k => a + oc k) 121 (s0 121) (t0L 121)) H := h.2.2.2 81 (by decide)
theorem pd_122 {D : va_G} {ca : Nat → ClassId} {a : Nat} {H0 H : Heap} (h : CS D a 157 H0 (dkB a) (dkE ca a) H) : va_at D vwCl (a + oc 122, cxf ca (fun k => a + oc k) 122 (s0 122) (t0L 122)) H := h.2.2.2 82 (by decide)
theorem pd_123 {D : va_G} {ca : Nat → ClassId} {a : Nat} {H0 H : Heap} (h : CS D a 157 H0 (dkB a) (dkE ca a) H) : va_at D vwCl (a + oc 123, cxf ca (fun k => a + oc k) 123 (s0 123) (t0L 123)) H := h.2.2.2 83 (by decide)
theorem pd_124 {D : va_G} {ca : Nat → ClassId} {a : Nat} {H0 H : Heap} (h : CS D a 157 H0 (dkB a) (dkE ca a) H) : va_at D vwCl (a + oc 124, cxf ca (fun k => a + oc k) 124 (s0 124) (t0L 124)) H := h.2.2.2 84 (by decide)
theorem pd_125 {D : va_G} {ca : Nat → ClassId} {a : Nat} {H0 H : Heap} (h : CS D a 157 H0 (dkB a) (dkE ca a) H) : va_at D vwCl (a + oc 125, cxf ca (fun k => a + oc k) 125 (s0 125) (t0L 125)) H := h.2.2.2 85 (by decide)
theorem pd_126 {D : va_G} {ca : Nat → ClassId} {a : Nat} {H0 H : Heap} (h : CS D a 157 H0 (dkB a) (dkE ca a) H) : va_at D vwCl (a + oc 126, cxf ca (fun k => a + oc k) 126 (s0 126) (t0L 126)) H := h.2.2.2 86 (by decide)
theorem pd_127 {D : va_G} {ca : Nat → ClassId} {a : Nat} {H0 H : Heap} (h : CS D a 157 H0 (dkB a) (dkE ca a) H) : va_at D vwCl (a + oc 127, cxf ca (fun k => a + oc k) 127 (s0 127) (t0L 127)) H := h.2.2.2 87 (by decide)
theorem pd_128 {D : va_G} {ca : Nat → ClassId} {a : Nat} {H0 H : Heap} (h : CS D a 157 H0 (dkB a) (dkE ca a) H) : va_at D vwCl (a + oc 128, cxf ca (fun k => a + oc k) 128 (s0 128) (t0L 128)) H := h.2.2.2 88 (by decide)
theorem pd_129 {D : va_G} {ca : Nat → ClassId} {a : Nat} {H0 H : Heap} (h : CS D a 157 H0 (dkB a) (dkE ca a) H) : va_at D vwCl (a + oc 129, cxf ca (fun k => a + oc k) 129 (s0 129) (t0L 129)) H := h.2.2.2 89 (by decide)
theorem pd_130 {D : va_G} {ca : Nat → ClassId} {a : Nat} {H0 H : Heap} (h : CS D a 157 H0 (dkB a) (dkE ca a) H) : va_at D vwCl (a + oc 130, cxf ca (fun k => a + oc k) 130 (s0 130) (t0L 130)) H := h.2.2.2 90 (by decide)
theorem pd_131 {D : va_G} {ca : Nat → ClassId} {a : Nat} {H0 H : Heap} (h : CS D a 157 H0 (dkB a) (dkE ca a) H) : va_at D vwCl (a + oc 131, cxf ca (fun k => a + oc k) 131 (s0 131) (t0L 131)) H := h.2.2.2 91 (by decide)
theorem pd_132 {D : va_G} {ca : Nat → ClassId} {a : Nat} {H0 H : Heap} (h : CS D a 157 H0 (dkB a) (dkE ca a) H) : va_at D vwCl (a + oc 132, cxf ca (fun k => a + oc k) 132 (s0 132) (t0L 132)) H := h.2.2.2 92 (by decide)
theorem pd_133 {D : va_G} {ca : Nat → ClassId} {a : Nat} {H0 H : Heap} (h : CS D a 157 H0 (dkB a) (dkE ca a) H) : va_at D vwCl (a + oc 133, cxf ca (fun k => a + oc k) 133 (s0 133) (t0L 133)) H := h.2.2.2 93 (by decide)
theorem pd_134 {D : va_G} {ca : Nat → ClassId} {a : Nat} {H0 H : Heap} (h : CS D a 157 H0 (dkB a) (dkE ca a) H) : va_at D vwCl (a + oc 134, cxf ca (fun k => a + oc k) 134 (s0 134) (t0L 134)) H := h.2.2.2 94 (by decide)
theorem pd_135 {D : va_G} {ca : Nat → ClassId} {a : Nat} {H0 H : Heap} (h : CS D a 157 H0 (dkB a) (dkE ca a) H) : va_at D vwCl (a + oc 135, cxf ca (fun k => a + oc k) 135 (s0 135) (t0L 135)) H := h.2.2.2 95 (by decide)
theorem pd_136 {D : va_G} {ca : Nat → ClassId} {a : Nat} {H0 H : Heap} (h : CS D a 157 H0 (dkB a) (dkE ca a) H) : va_at D vwCl (a + oc 136, cxf ca (fun k => a + oc k) 136 (s0 136) (t0L 136)) H := h.2.2.2 96 (by decide)
theorem pd_137 {D : va_G} {ca : Nat → ClassId} {a : Nat} {H0 H : Heap} (h : CS D a 157 H0 (dkB a) (dkE ca a) H) : va_at D vwCl (a + oc 137, cxf ca (fun k => a + oc k) 137 (s0 137) (t0L 137)) H := h.2.2.2 97 (by decide)
theorem pd_138 {D : va_G} {ca : Nat → ClassId} {a : Nat} {H0 H : Heap} (h : CS D a 157 H0 (dkB a) (dkE ca a) H) : va_at D vwCl (a + oc 138, cxf ca (fun k => a + oc k) 138 (s0 138) (t0L 138)) H := h.2.2.2 98 (by decide)
theorem pd_139 {D : va_G} {ca : Nat → ClassId} {a : Nat} {H0 H : Heap} (h : CS D a 157 H0 (dkB a) (dkE ca a) H) : va_at D vwCl (a + oc 139, cxf ca (fun k => a + oc k) 139 (s0 139) (t0L 139)) H := h.2.2.2 99 (by decide)
theorem pd_140 {D : va_G} {ca : Nat → ClassId} {a : Nat} {H0 H : Heap} (h : CS D a 157 H0 (dkB a) (dkE ca a) H) : va_at D vwCl (a + oc 140, cxf ca (fun k => a + oc k) 140 (s0 140) (t0L 140)) H := h.2.2.2 101 (by decide)
theorem pd_141 {D : va_G} {ca : Nat → ClassId} {a : Nat} {H0 H : Heap} (h : CS D a 157 H0 (dkB a) (dkE ca a) H) : va_at D vwCl (a + oc 141, cxf ca (fun k => a + oc k) 141 (s0 141) (t0L 141)) H := h.2.2.2 102 (by decide)
theorem pd_142 {D : va_G} {ca : Nat → ClassId} {a : Nat} {H0 H : Heap} (h : CS D a 157 H0 (dkB a) (dkE ca a) H) : va_at D vwCl (a + oc 142, cxf ca (fun k => a + oc k) 142 (s0 142) (t0L 142)) H := h.2.2.2 103 (by decide)
theorem pd_143 {D : va_G} {ca : Nat → ClassId} {a : Nat} {H0 H : Heap} (h : CS D a 157 H0 (dkB a) (dkE ca a) H) : va_at D vwCl (a + oc 143, cxf ca (fun k => a + oc k) 143 (s0 143) (t0L 143)) H := h.2.2.2 104 (by decide)
theorem pd_144 {D : va_G} {ca : Nat → ClassId} {a : Nat} {H0 H : Heap} (h : CS D a 157 H0 (dkB a) (dkE ca a) H) : va_at D vwCl (a + oc 144, cxf ca (fun k => a + oc k) 144 (s0 144) (t0L 144)) H := h.2.2.2 105 (by decide)
theorem pd_145 {D : va_G} {ca : Nat → ClassId} {a : Nat} {H0 H : Heap} (h : CS D a 157 H0 (dkB a) (dkE ca a) H) : va_at D vwCl (a + oc 145, cxf ca (fun k => a + oc k) 145 (s0 145) (t0L 145)) H := h.2.2.2 106 (by decide)
theorem pd_146 {D : va_G} {ca : Nat → ClassId} {a : Nat} {H0 H : Heap} (h : CS D a 157 H0 (dkB a) (dkE ca a) H) : va_at D vwCl (a + oc 146, cxf ca (fun k => a + oc k) 146 (s0 146) (t0L 146)) H := h.2.2.2 107 (by decide)
theorem pd_147 {D : va_G} {ca : Nat → ClassId} {a : Nat} {H0 H : Heap} (h : CS D a 157 H0 (dkB a) (dkE ca a) H) : va_at D vwCl (a + oc 147, cxf ca (fun k => a + oc k) 147 (s0 147) (t0L 147)) H := h.2.2.2 108 (by decide)
theorem pd_148 {D : va_G} {ca : Nat → ClassId} {a : Nat} {H0 H : Heap} (h : CS D a 157 H0 (dkB a) (dkE ca a) H) : va_at D vwCl (a + oc 148, cxf ca (fun k => a + oc k) 148 (s0 148) (t0L 148)) H := h.2.2.2 109 (by decide)
theorem pd_149 {D : va_G} {ca : Nat → ClassId} {a : Nat} {H0 H : Heap} (h : CS D a 157 H0 (dkB a) (dkE ca a) H) : va_at D vwCl (a + oc 149, cxf ca (fun k => a + oc k) 149 (s0 149) (t0L 149)) H := h.2.2.2 110 (by decide)
theorem pd_150 {D : va_G} {ca : Nat → ClassId} {a : Nat} {H0 H : Heap} (h : CS D a 157 H0 (dkB a) (dkE ca a) H) : va_at D vwCl (a + oc 150, cxf ca (fun k => a + oc k) 150 (s0 150) (t0L 150)) H := h.2.2.2 111 (by decide)
theorem pd_151 {D : va_G} {ca : Nat → ClassId} {a : Nat} {H0 H : Heap} (h : CS D a 157 H0 (dkB a) (dkE ca a) H) : va_at D vwCl (a + oc 151, cxf ca (fun k => a + oc k) 151 (s0 151) (t0L 151)) H := h.2.2.2 112 (by decide)
theorem pd_152 {D : va_G} {ca : Nat → ClassId} {a : Nat} {H0 H : Heap} (h : CS D a 157 H0 (dkB a) (dkE ca a) H) : va_at D vwCl (a + oc 152, cxf ca (fun k => a + oc k) 152 (s0 152) (t0L 152)) H := h.2.2.2 113 (by decide)
theorem pd_153 {D : va_G} {ca : Nat → ClassId} {a : Nat} {H0 H : Heap} (h : CS D a 157 H0 (dkB a) (dkE ca a) H) : va_at D vwCl (a + oc 153, cxf ca (fun k => a + oc k) 153 (s0 153) (t0L 153)) H := h.2.2.2 114 (by decide)
theorem pd_154 {D : va_G} {ca : Nat → ClassId} {a : Nat} {H0 H : Heap} (h : CS D a 157 H0 (dkB a) (dkE ca a) H) : va_at D vwCl (a + oc 154, cxf ca (fun k => a + oc k) 154 (s0 154) (t0L 154)) H := h.2.2.2 115 (by decide)
theorem pd_155 {D : va_G} {ca : Nat → ClassId} {a : Nat} {H0 H : Heap} (h : CS D a 157 H0 (dkB a) (dkE ca a) H) : va_at D vwCl (a + oc 155, cxf ca (fun k => a + oc k) 155 (s0 155) (t0L 155)) H := h.2.2.2 116 (by decide)
theorem pd_156 {D : va_G} {ca : Nat → ClassId} {a : Nat} {H0 H : Heap} (h : CS D a 157 H0 (dkB a) (dkE ca a) H) : va_at D vwCl (a + oc 156, cxf ca (fun k => a + oc k) 156 (s0 156) (t0L 156)) H := h.2.2.2 117 (by decide)
theorem pd_157 {D : va_G} {ca : Nat → ClassId} {a : Nat} {H0 H : Heap} (h : CS D a 157 H0 (dkB a) (dkE ca a) H) : va_at D vwCl (a + oc 157, cxf ca (fun k => a + oc k) 157 (s0 157) (t0L 157)) H := h.2.2.2 118 (by decide)
theorem PW_desk {D : va_G} {ca : Nat → ClassId} {a : Nat} {H0 H : Heap} (h : CS D a 157 H0 (dkB a) (dkE ca a) H) : PW D 158 (fun k => a + oc k) (cxf ca (fun k => a + oc k)) s0 t0L H := PW.of (fun k hk => by
  rcases Nat.lt_or_ge k 8 with h8 | h8
  · rcases (by omega : k = 0 ∨ k = 1 ∨ k = 2 ∨ k = 3 ∨ k = 4 ∨ k = 5 ∨ k = 6 ∨ k = 7) with rfl | rfl | rfl | rfl | rfl | rfl | rfl | rfl
    · exact pd_0 h
    · exact pd_1 h
    · exact pd_2 h
    · exact pd_3 h
    · exact pd_4 h
    · exact pd_5 h
    · exact pd_6 h
    · exact pd_7 h
  rcases Nat.lt_or_ge k 16 with h16 | h16
  · rcases (by omega : k = 8 ∨ k = 9 ∨ k = 10 ∨ k = 11 ∨ k = 12 ∨ k = 13 ∨ k = 14 ∨ k = 15) with rfl | rfl | rfl | rfl | rfl | rfl | rfl | rfl
    · exact pd_8 h
    · exact pd_9 h
    · exact pd_10 h
    · exact pd_11 h
    · exact pd_12 h
    · exact pd_13 h
    · exact pd_14 h
    · exact pd_15 h
  rcases Nat.lt_or_ge k 24 with h24 | h24
  · rcases (by omega : k = 16 ∨ k = 17 ∨ k = 18 ∨ k = 19 ∨ k = 20 ∨ k = 21 ∨ k = 22 ∨ k = 23) with rfl | rfl | rfl | rfl | rfl | rfl | rfl | rfl
    · exact pd_16 h
    · exact pd_17 h
    · exact pd_18 h
    · exact pd_19 h
    · exact pd_20 h
    · exact pd_21 h
    · exact pd_22 h
    · exact pd_23 h
  rcases Nat.lt_or_ge k 32 with h32 | h32
  · rcases (by omega : k = 24 ∨ k = 25 ∨ k = 26 ∨ k = 27 ∨ k = 28 ∨ k = 29 ∨ k = 30 ∨ k = 31) with rfl | rfl | rfl | rfl | rfl | rfl | rfl | rfl
    · exact pd_24 h
    · exact pd_25 h
    · exact pd_26 h
    · exact pd_27 h
    · exact pd_28 h
    · exact pd_29 h
    · exact pd_30 h
    · exact pd_31 h
  rcases Nat.lt_or_ge k 40 with h40 | h40
  · rcases (by omega : k = 32 ∨ k = 33 ∨ k = 34 ∨ k = 35 ∨ k = 36 ∨ k = 37 ∨ k = 38 ∨ k = 39) with rfl | rfl | rfl | rfl | rfl | rfl | rfl | rfl
    · exact pd_32 h
    · exact pd_33 h
    · exact pd_34 h
    · exact pd_35 h
    · exact pd_36 h
    · exact pd_37 h
    · exact pd_38 h
    · exact pd_39 h
  rcases Nat.lt_or_ge k 48 with h48 | h48
  · rcases (by omega : k = 40 ∨ k = 41 ∨ k = 42 ∨ k = 43 ∨ k = 44 ∨ k = 45 ∨ k = 46 ∨ k = 47) with rfl | rfl | rfl | rfl | rfl | rfl | rfl | rfl
    · exact pd_40 h
    · exact pd_41 h
    · exact pd_42 h
    · exact pd_43 h
    · exact pd_44 h
    · exact pd_45 h
    · exact pd_46 h
    · exact pd_47 h
  rcases Nat.lt_or_ge k 56 with h56 | h56
  · rcases (by omega : k = 48 ∨ k = 49 ∨ k = 50 ∨ k = 51 ∨ k = 52 ∨ k = 53 ∨ k = 54 ∨ k = 55) with rfl | rfl | rfl | rfl | rfl | rfl | rfl | rfl
    · exact pd_48 h
    · exact pd_49 h
    · exact pd_50 h
    · exact pd_51 h
    · exact pd_52 h
    · exact pd_53 h
    · exact pd_54 h
    · exact pd_55 h
  rcases Nat.lt_or_ge k 64 with h64 | h64
  · rcases (by omega : k = 56 ∨ k = 57 ∨ k = 58 ∨ k = 59 ∨ k = 60 ∨ k = 61 ∨ k = 62 ∨ k = 63) with rfl | rfl | rfl | rfl | rfl | rfl | rfl | rfl
    · exact pd_56 h
    · exact pd_57 h
    · exact pd_58 h
    · exact pd_59 h
    · exact pd_60 h
    · exact pd_61 h
    · exact pd_62 h
    · exact pd_63 h
  rcases Nat.lt_or_ge k 72 with h72 | h72
  · rcases (by omega : k = 64 ∨ k = 65 ∨ k = 66 ∨ k = 67 ∨ k = 68 ∨ k = 69 ∨ k = 70 ∨ k = 71) with rfl | rfl | rfl | rfl | rfl | rfl | rfl | rfl
    · exact pd_64 h
    · exact pd_65 h
    · exact pd_66 h
    · exact pd_67 h
    · exact pd_68 h
    · exact pd_69 h
    · exact pd_70 h
    · exact pd_71 h
  rcases Nat.lt_or_ge k 80 with h80 | h80
  · rcases (by omega : k = 72 ∨ k = 73 ∨ k = 74 ∨ k = 75 ∨ k = 76 ∨ k = 77 ∨ k = 78 ∨ k = 79) with rfl | rfl | rfl | rfl | rfl | rfl | rfl | rfl
    · exact pd_72 h
    · exact pd_73 h
    · exact pd_74 h
    · exact pd_75 h
    · exact pd_76 h
    · exact pd_77 h
    · exact pd_78 h
    · exact pd_79 h
  rcases Nat.lt_or_ge k 88 with h88 | h88
  · rcases (by omega : k = 80 ∨ k = 81 ∨ k = 82 ∨ k = 83 ∨ k = 84 ∨ k = 85 ∨ k = 86 ∨ k = 87) with rfl | rfl | rfl | rfl | rfl | rfl | rfl | rfl
    · exact pd_80 h
    · exact pd_81 h
    · exact pd_82 h
    · exact pd_83 h
    · exact pd_84 h
    · exact pd_85 h
    · exact pd_86 h
    · exact pd_87 h
  rcases Nat.lt_or_ge k 96 with h96 | h96
  · rcases (by omega : k = 88 ∨ k = 89 ∨ k = 90 ∨ k = 91 ∨ k = 92 ∨ k = 93 ∨ k = 94 ∨ k = 95) with rfl | rfl | rfl | rfl | rfl | rfl | rfl | rfl
    · exact pd_88 h
    · exact pd_89 h
    · exact pd_90 h
    · exact pd_91 h
    · exact pd_92 h
    · exact pd_93 h
    · exact pd_94 h
    · exact pd_95 h
  rcases Nat.lt_or_ge k 104 with h104 | h104
  · rcases (by omega : k = 96 ∨ k = 97 ∨ k = 98 ∨ k = 99 ∨ k = 100 ∨ k = 101 ∨ k = 102 ∨ k = 103) with rfl | rfl | rfl | rfl | rfl | rfl | rfl | rfl
    · exact pd_96 h
    · exact pd_97 h
    · exact pd_98 h
    · exact pd_99 h
    · exact pd_100 h
    · exact pd_101 h
    · exact pd_102 h
    · exact pd_103 h
  rcases Nat.lt_or_ge k 112 with h112 | h112
  · rcases (by omega : k = 104 ∨ k = 105 ∨ k = 106 ∨ k = 107 ∨ k = 108 ∨ k = 109 ∨ k = 110 ∨ k = 111) with rfl | rfl | rfl | rfl | rfl | rfl | rfl | rfl
    · exact pd_104 h
    · exact pd_105 h
    · exact pd_106 h
    · exact pd_107 h
    · exact pd_108 h
    · exact pd_109 h
    · exact pd_110 h
    · exact pd_111 h
  rcases Nat.lt_or_ge k 120 with h120 | h120
  · rcases (by omega : k = 112 ∨ k = 113 ∨ k = 114 ∨ k = 115 ∨ k = 116 ∨ k = 117 ∨ k = 118 ∨ k = 119) with rfl | rfl | rfl | rfl | rfl | rfl | rfl | rfl
    · exact pd_112 h
    · exact pd_113 h
    · exact pd_114 h
    · exact pd_115 h
    · exact pd_116 h
    · exact pd_117 h
    · exact pd_118 h
    · exact pd_119 h
  rcases Nat.lt_or_ge k 128 with h128 | h128
  · rcases (by omega : k = 120 ∨ k = 121 ∨ k = 122 ∨ k = 123 ∨ k = 124 ∨ k = 125 ∨ k = 126 ∨ k = 127) with rfl | rfl | rfl | rfl | rfl | rfl | rfl | rfl
    · exact pd_120 h
    · exact pd_121 h
    · exact pd_122 h
    · exact pd_123 h
    · exact pd_124 h
    · exact pd_125 h
    · exact pd_126 h
    · exact pd_127 h
  rcases Nat.lt_or_ge k 136 with h136 | h136
  · rcases (by omega : k = 128 ∨ k = 129 ∨ k = 130 ∨ k = 131 ∨ k = 132 ∨ k = 133 ∨ k = 134 ∨ k = 135) with rfl | rfl | rfl | rfl | rfl | rfl | rfl | rfl
    · exact pd_128 h
    · exact pd_129 h
    · exact pd_130 h
    · exact pd_131 h
    · exact pd_132 h
    · exact pd_133 h
    · exact pd_134 h
    · exact pd_135 h
  rcases Nat.lt_or_ge k 144 with h144 | h144
  · rcases (by omega : k = 136 ∨ k = 137 ∨ k = 138 ∨ k = 139 ∨ k = 140 ∨ k = 141 ∨ k = 142 ∨ k = 143) with rfl | rfl | rfl | rfl | rfl | rfl | rfl | rfl
    · exact pd_136 h
    · exact pd_137 h
    · exact pd_138 h
    · exact pd_139 h
    · exact pd_140 h
    · exact pd_141 h
    · exact pd_142 h
    · exact pd_143 h
  rcases Nat.lt_or_ge k 152 with h152 | h152
  · rcases (by omega : k = 144 ∨ k = 145 ∨ k = 146 ∨ k = 147 ∨ k = 148 ∨ k = 149 ∨ k = 150 ∨ k = 151) with rfl | rfl | rfl | rfl | rfl | rfl | rfl | rfl
    · exact pd_144 h
    · exact pd_145 h
    · exact pd_146 h
    · exact pd_147 h
    · exact pd_148 h
    · exact pd_149 h
    · exact pd_150 h
    · exact pd_151 h
  have h158 := hk
  rcases (by omega : k = 152 ∨ k = 153 ∨ k = 154 ∨ k = 155 ∨ k = 156 ∨ k = 157) with rfl | rfl | rfl | rfl | rfl | rfl
  · exact pd_152 h
  · exact pd_153 h
  · exact pd_154 h
  · exact pd_155 h
  · exact pd_156 h
  · exact pd_157 h)
theorem PW_model {D : va_G} {ca : Nat → ClassId} {a : Nat} {H0 H : Heap} (h : CS D a 5 H0 (mdB a) (mdE ca) H) : PW D 6 (fun k => a + k) (mxf ca (fun k => a + k)) (fun _ _ => 0) t0L H := PW.of (fun k hk => by
  rcases (by omega : k = 0 ∨ k = 1 ∨ k = 2 ∨ k = 3 ∨ k = 4 ∨ k = 5) with rfl | rfl | rfl | rfl | rfl | rfl
  · exact h.2.2.1
  · exact h.2.2.2 0 (by decide)
  · exact h.2.2.2 1 (by decide)
  · exact h.2.2.2 2 (by decide)
  · exact h.2.2.2 3 (by decide)
  · exact h.2.2.2 4 (by decide))
def oci (m : Nat) : Nat := if m ≤ 3 then m else if m ≤ 5 then m + 40 else if m ≤ 41 then m + 41 else if m = 42 then 46 else if m ≤ 60 then m + 40 else if m ≤ 62 then m - 57 else if m ≤ 64 then m + 38 else if m ≤ 100 then m + 39 else if m = 101 then 103 else if m ≤ 119 then m + 38 else if m ≤ 151 then m - 108 else m - 146
theorem oc_all : (List.range 158).all (fun k => oci (oc k) == k && decide (oc k < 158)) = true := by decide +kernel
theorem oc_inv {k : Nat} (h : k < 158) : oci (oc k) = k ∧ oc k < 158 := by
  have := List.all_eq_true.mp oc_all k (List.mem_range.mpr h)
  simp only [Bool.and_eq_true, beq_iff_eq, decide_eq_true_eq] at this
  exact this
theorem oc_inj {i j : Nat} (hi : i < 158) (hj : j < 158) (h : oc i = oc j) : i = j := by rw [← (oc_inv hi).1, ← (oc_inv hj).1, h]
theorem Inj_desk (a : Nat) : Inj 158 (fun k => a + oc k) := fun i j hi hj h => oc_inj hi hj (by have h1 : a + oc i = a + oc j := h; omega)
theorem Inj_model (a : Nat) : Inj 6 (fun k => a + k) := fun i j _ _ h => by have h1 : a + i = a + j := h; omega
