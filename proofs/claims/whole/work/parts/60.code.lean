/-! letters: the codes in a number -/
def cdN (a : Int64) (i : Nat) : Nat := a.toBitVec.toNat / 2 ^ (8 * i) % 256
theorem cdN_lt (a : Int64) (i : Nat) : cdN a i < 256 := Nat.mod_lt _ (by decide)
theorem low8 {x : Int64} : Int64.toInt32 (x &&& 255) = nI (x.toBitVec.toNat % 256) := by
  apply Int32.toBitVec_inj.mp
  rw [Int64.toBitVec_toInt32, Int64.toBitVec_and, BitVec.signExtend_eq_setWidth_of_le _ (by decide)]
  apply BitVec.eq_of_toNat_eq
  rw [BitVec.toNat_setWidth, BitVec.toNat_and]
  show (x.toBitVec.toNat &&& (2 ^ 8 - 1)) % 2 ^ 32 = (BitVec.ofNat 32 (x.toBitVec.toNat % 256)).toNat
  rw [Nat.and_two_pow_sub_one_eq_mod, BitVec.toNat_ofNat]
theorem ssr8 {x : BitVec 64} {k : Nat} (hk : k ≤ 56) : (x.sshiftRight k).toNat % 256 = x.toNat / 2 ^ k % 256 := by
  apply Nat.eq_of_testBit_eq
  intro j
  rw [show 256 = 2 ^ 8 from rfl, Nat.testBit_mod_two_pow, Nat.testBit_mod_two_pow, Nat.testBit_div_two_pow]
  by_cases hj : j < 8
  · have e1 : (x.sshiftRight k).toNat.testBit j = (x.sshiftRight k).getLsbD j := rfl
    have e2 : x.toNat.testBit (j + k) = x.getLsbD (j + k) := rfl
    rw [e1, e2, BitVec.getLsbD_sshiftRight]
    have : k + j < 64 := by omega
    have h2 : ¬ 64 ≤ j := by omega
    simp [hj, this, h2, Nat.add_comm]
  · simp [hj]
theorem shX (a : Int64) : ∀ i, i < 8 → ((a.toUInt64 >>> ((Int32.toInt64 (8 * nI i)).toUInt64 &&& Int64.toUInt64 63)).toInt64).toBitVec.toNat = a.toBitVec.toNat / 2 ^ (8 * i) := by
  intro i hi
  rcases (show i = 0 ∨ i = 1 ∨ i = 2 ∨ i = 3 ∨ i = 4 ∨ i = 5 ∨ i = 6 ∨ i = 7 by omega) with rfl | rfl | rfl | rfl | rfl | rfl | rfl | rfl
  all_goals exact BitVec.toNat_ushiftRight _ _ |>.trans (Nat.shiftRight_eq_div_pow _ _)
theorem shM (a : Int64) : ∀ i, i < 8 → (a >>> (Int32.toInt64 (8 * nI i) &&& 63)).toBitVec = a.toBitVec.sshiftRight (8 * i) := by
  intro i hi
  rcases (show i = 0 ∨ i = 1 ∨ i = 2 ∨ i = 3 ∨ i = 4 ∨ i = 5 ∨ i = 6 ∨ i = 7 by omega) with rfl | rfl | rfl | rfl | rfl | rfl | rfl | rfl
  all_goals rfl
theorem codeX (a : Int64) {i : Nat} (hi : i < 8) : Int64.toInt32 (((a.toUInt64 >>> ((Int32.toInt64 (8 * nI i)).toUInt64 &&& Int64.toUInt64 63)).toInt64) &&& 255) = nI (cdN a i) := by
  rw [low8, shX a i hi]
  rfl
theorem codeM (a : Int64) {i : Nat} (hi : i < 8) : Int64.toInt32 ((a >>> (Int32.toInt64 (8 * nI i) &&& 63)) &&& 255) = nI (cdN a i) := by
  rw [low8, shM a i hi, ssr8 (by omega)]
  rfl
theorem byteM (a : Int64) {i : Nat} (hi : i < 8) (hc : cdN a i < 128) : vp_nar .byte ((Int32.toInt8 (Int64.toInt32 (a >>> (Int32.toInt64 (8 * nI i) &&& 63)))).toInt32) = nI (cdN a i) := by
  rw [pk_vb]
  apply Int32.toInt_inj.mp
  have h1 : (Int32.toInt8 (Int64.toInt32 (a >>> (Int32.toInt64 (8 * nI i) &&& 63)))).toBitVec.toNat = cdN a i := by
    rw [Int32.toBitVec_toInt8, Int64.toBitVec_toInt32, shM a i hi, BitVec.signExtend_eq_setWidth_of_le _ (by decide), BitVec.signExtend_eq_setWidth_of_le _ (by decide), BitVec.toNat_setWidth, BitVec.toNat_setWidth]
    show (a.toBitVec.sshiftRight (8 * i)).toNat % 2 ^ 32 % 256 = _
    rw [Nat.mod_mod_of_dvd _ (show 256 ∣ 2 ^ 32 from ⟨2 ^ 24, by decide⟩), ssr8 (by omega)]
    rfl
  rw [Int8.toInt_toInt32, nI_toInt (by omega)]
  show (Int32.toInt8 (Int64.toInt32 (a >>> (Int32.toInt64 (8 * nI i) &&& 63)))).toBitVec.toInt = _
  rw [BitVec.toInt_eq_toNat_of_lt (by rw [h1]; omega), h1]
/-- the letters of the number: how many, if they are letters and stand in front -/
def scN (a : Int64) : Nat → Option Nat
  | 0 => some 0
  | i + 1 => match scN a i with
    | none => none
    | some n => if 126 < cdN a i then none else if cdN a i = 0 then some n else if n = i then some (n + 1) else none
theorem scN_none {a : Int64} {i : Nat} (h : scN a i = none) : ∀ j, i ≤ j → scN a j = none
  | 0, hj => by rw [show 0 = i by omega]; exact h
  | j + 1, hj => by
    by_cases e : i = j + 1
    · rw [← e]; exact h
    · rw [scN, scN_none h j (by omega)]
theorem scN_le {a : Int64} : ∀ i n, scN a i = some n → n ≤ i ∧ ∀ j, j < n → 1 ≤ cdN a j ∧ cdN a j ≤ 126
  | 0, n, h => by
    cases h
    exact ⟨Nat.le_refl _, fun j hj => absurd hj (Nat.not_lt_zero j)⟩
  | i + 1, n, h => by
    rw [scN] at h
    cases e : scN a i with
    | none => rw [e] at h; cases h
    | some m =>
      rw [e] at h
      have ih := scN_le i m e
      simp only at h
      split at h
      · cases h
      · split at h
        · cases h
          exact ⟨by omega, ih.2⟩
        · split at h
          · rename_i h3
            cases h
            refine ⟨by omega, fun j hj => ?_⟩
            by_cases ej : j = m
            · rw [ej, h3]; omega
            · exact ih.2 j (by omega)
          · cases h
