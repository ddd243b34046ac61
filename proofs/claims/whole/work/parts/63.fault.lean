def RLb (c m ra : Nat) : Bool := decide ((c = 0 ∧ m = 0) ∨ (c = 1 ∧ m = 1) ∨ (c = 2 ∧ m = 2) ∨ (c = 3 ∧ m = 3 ∧ ra = 1) ∨ (c = 4 ∧ m = 3 ∧ ra = 2) ∨ (c = 5 ∧ m = 4) ∨ (c = 5 ∧ m = 3 ∧ 3 ≤ ra ∧ ra ≤ 9) ∨ (c = 6 ∧ m = 5) ∨ (c = 7 ∧ m = 6) ∨ (c = 8 ∧ m = 7) ∨ (c = 9 ∧ m = 8))
def tn (x : Int32) : Nat := x.toNatClampNeg
def simB (c m ra z : Nat) : Bool := decide ((dB (nI c) (nI z) = -1 ∧ dM (nI m) (nI ra) (nI z) = -1) ∨ (dB (nI c) (nI z) = nI (tn (dB (nI c) (nI z))) ∧ dM (nI m) (nI ra) (nI z) = nI (tn (dM (nI m) (nI ra) (nI z))) ∧ fR (nI m) (nI ra) (nI z) = nI (tn (fR (nI m) (nI ra) (nI z))) ∧ tn (dB (nI c) (nI z)) < 10 ∧ tn (dM (nI m) (nI ra) (nI z)) < 9 ∧ tn (fR (nI m) (nI ra) (nI z)) < 21 ∧ RLb (tn (dB (nI c) (nI z))) (tn (dM (nI m) (nI ra) (nI z))) (tn (fR (nI m) (nI ra) (nI z))) = true))
def simA (c m ra : Nat) : Bool := !RLb c m ra || (List.range 127).all (simB c m ra)
theorem sim_all : ∀ c, c < 10 → ∀ m, m < 9 → ∀ ra, ra < 21 → simA c m ra = true := by decide +kernel
theorem sim_ok : ∀ c, c < 10 → ∀ m, m < 9 → ∀ ra, ra < 21 → RLb c m ra = true → ∀ z, z < 127 → (dB (nI c) (nI z) = -1 ∧ dM (nI m) (nI ra) (nI z) = -1) ∨ (dB (nI c) (nI z) = nI (tn (dB (nI c) (nI z))) ∧ dM (nI m) (nI ra) (nI z) = nI (tn (dM (nI m) (nI ra) (nI z))) ∧ fR (nI m) (nI ra) (nI z) = nI (tn (fR (nI m) (nI ra) (nI z))) ∧ tn (dB (nI c) (nI z)) < 10 ∧ tn (dM (nI m) (nI ra) (nI z)) < 9 ∧ tn (fR (nI m) (nI ra) (nI z)) < 21 ∧ RLb (tn (dB (nI c) (nI z))) (tn (dM (nI m) (nI ra) (nI z))) (tn (fR (nI m) (nI ra) (nI z))) = true) := by
  intro c hc m hm ra hr hR z hz
  have h := sim_all c hc m hm ra hr
  unfold simA at h
  rw [hR] at h
  have h2 : (List.range 127).all (simB c m ra) = true := h
  rw [List.all_eq_true] at h2
  exact of_decide_eq_true (h2 z (List.mem_range.mpr hz))
def ruN (L : Nat → Int32) : Nat → Option (Nat × Nat × Nat)
  | 0 => some (0, 0, 0)
  | i + 1 => match ruN L i with
    | none => none
    | some (c, m, ra) => if dB (nI c) (L i) = -1 then none else some (tn (dB (nI c) (L i)), tn (dM (nI m) (nI ra) (L i)), tn (fR (nI m) (nI ra) (L i)))
theorem ruN_none {L : Nat → Int32} {i : Nat} (h : ruN L i = none) : ∀ j, i ≤ j → ruN L j = none
  | 0, hj => by rw [show 0 = i by omega]; exact h
  | j + 1, hj => by
    by_cases e : i = j + 1
    · rw [← e]; exact h
    · rw [ruN, ruN_none h j (by omega)]
theorem ruN_ok {L : Nat → Int32} {len : Nat} (hL : ∀ i, i < len → ∃ z, 1 ≤ z ∧ z ≤ 126 ∧ L i = nI z) : ∀ i c m ra, i ≤ len → ruN L i = some (c, m, ra) → c < 10 ∧ m < 9 ∧ ra < 21 ∧ RLb c m ra = true
  | 0, c, m, ra, _, h => by
    cases h
    decide
  | i + 1, c, m, ra, hi, h => by
    rw [ruN] at h
    cases e : ruN L i with
    | none => rw [e] at h; cases h
    | some p =>
      obtain ⟨c0, m0, r0⟩ := p
      rw [e] at h
      obtain ⟨k1, k2, k3, k4⟩ := ruN_ok hL i c0 m0 r0 (by omega) e
      obtain ⟨z, z1, z2, ez⟩ := hL i (by omega)
      simp only [ez] at h
      rcases sim_ok c0 k1 m0 k2 r0 k3 k4 z (by omega) with ⟨a, -⟩ | ⟨a1, a2, a3, a4, a5, a6, a7⟩
      · rw [if_pos a] at h; cases h
      · split at h
        · cases h
        · cases h
          exact ⟨a4, a5, a6, a7⟩
