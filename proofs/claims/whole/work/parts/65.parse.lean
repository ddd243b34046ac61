/-! what a letter that goes on is -/
def st0 (z : Nat) : Bool := decide (dM 0 0 (nI z) = -1 ∨ (z = 98 ∧ tn (dM 0 0 (nI z)) = 1) ∨ (z = 114 ∧ tn (dM 0 0 (nI z)) = 2))
def st1 (ra z : Nat) : Bool := decide (dM 1 (nI ra) (nI z) = -1 ∨ (49 ≤ z ∧ z ≤ 56 ∧ tn (dM 1 (nI ra) (nI z)) = 4))
def st2 (ra z : Nat) : Bool := decide (dM 2 (nI ra) (nI z) = -1 ∨ (49 ≤ z ∧ z ≤ 57 ∧ tn (dM 2 (nI ra) (nI z)) = 3 ∧ tn (fR 2 (nI ra) (nI z)) = z - 48))
def st3 (ra z : Nat) : Bool := decide (ra = 0 ∨ 9 < ra ∨ dM 3 (nI ra) (nI z) = -1 ∨ (tn (dM 3 (nI ra) (nI z)) = 4 ∧ ((ra = 1 ∧ 48 ≤ z ∧ z ≤ 57) ∨ (ra = 2 ∧ z = 48)) ∧ tn (fR 3 (nI ra) (nI z)) = 10 * ra + (z - 48)) ∨ (tn (dM 3 (nI ra) (nI z)) = 5 ∧ z = 113 ∧ 2 ≤ ra ∧ tn (fR 3 (nI ra) (nI z)) = ra))
def st4 (ra z : Nat) : Bool := decide (dM 4 (nI ra) (nI z) = -1 ∨ (z = 113 ∧ tn (dM 4 (nI ra) (nI z)) = 5))
def st5 (ra z : Nat) : Bool := decide (dM 5 (nI ra) (nI z) = -1 ∨ (48 ≤ z ∧ z ≤ 56 ∧ tn (dM 5 (nI ra) (nI z)) = 6))
def st6 (ra z : Nat) : Bool := decide (dM 6 (nI ra) (nI z) = -1 ∨ (z = 116 ∧ tn (dM 6 (nI ra) (nI z)) = 7) ∨ ((z = 99 ∨ z = 121) ∧ tn (dM 6 (nI ra) (nI z)) = 8))
def st7 (ra z : Nat) : Bool := decide (dM 7 (nI ra) (nI z) = -1 ∨ ((z = 99 ∨ z = 121) ∧ tn (dM 7 (nI ra) (nI z)) = 8))
def st8 (ra z : Nat) : Bool := decide (dM 8 (nI ra) (nI z) = -1)
def stk (m ra z : Nat) : Bool := decide (m = 2 ∨ m = 3 ∨ tn (fR (nI m) (nI ra) (nI z)) = ra)
theorem st0_ok : ∀ z, z < 127 → st0 z = true := by decide +kernel
theorem st1_ok : ∀ ra, ra < 21 → ∀ z, z < 127 → st1 ra z = true := by decide +kernel
theorem st2_ok : ∀ ra, ra < 21 → ∀ z, z < 127 → st2 ra z = true := by decide +kernel
theorem st3_ok : ∀ ra, ra < 21 → ∀ z, z < 127 → st3 ra z = true := by decide +kernel
theorem st4_ok : ∀ ra, ra < 21 → ∀ z, z < 127 → st4 ra z = true := by decide +kernel
theorem st5_ok : ∀ ra, ra < 21 → ∀ z, z < 127 → st5 ra z = true := by decide +kernel
theorem st6_ok : ∀ ra, ra < 21 → ∀ z, z < 127 → st6 ra z = true := by decide +kernel
theorem st7_ok : ∀ ra, ra < 21 → ∀ z, z < 127 → st7 ra z = true := by decide +kernel
theorem st8_ok : ∀ ra, ra < 21 → ∀ z, z < 127 → st8 ra z = true := by decide +kernel
