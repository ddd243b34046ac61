/-! the lowest terms -/
def gcdF : Nat → Int64 → Int64 → Option Int64
  | 0, _, _ => none
  | n + 1, a, b => if b = 0 then some a else gcdF n b (a - a / b * b)
theorem rem64_toInt (a b : Int64) : (a - a / b * b).toInt = a.toInt.tmod b.toInt := by
  rw [Int64.toInt_sub, Int64.toInt_mul, Int64.toInt_div]
  have e : a.toInt.tmod b.toInt = a.toInt - a.toInt.tdiv b.toInt * b.toInt := by
    have := Int.mul_tdiv_add_tmod a.toInt b.toInt
    rw [Int.mul_comm] at this
    omega
  rw [Int.bmod_mul_bmod, Int.sub_bmod_bmod, ← e, ← Int64.toInt_mod]
  exact Int.bmod_eq_of_le (by have := Int64.le_toInt (a % b); omega) (by have := Int64.toInt_lt (a % b); omega)
theorem rem_abs (a b : Int64) : (a - a / b * b).toInt.natAbs = a.toInt.natAbs % b.toInt.natAbs := by
  rw [rem64_toInt, Int.natAbs_tmod]
theorem ne0_abs {b : Int64} (h : ¬ b = 0) : 0 < b.toInt.natAbs := by
  rcases Nat.eq_zero_or_pos b.toInt.natAbs with e | e
  · exact absurd (Int64.toInt_inj.mp (by rw [Int.natAbs_eq_zero.mp e]; rfl)) h
  · exact e
theorem gcd_dec : ∀ n a b, b.toInt.natAbs < a.toInt.natAbs → a.toInt.natAbs < 2 ^ n → ∃ d, gcdF (2 * n + 1) a b = some d
  | 0, a, b, h, ha => by
    exfalso
    rw [Nat.pow_zero] at ha
    omega
  | n + 1, a, b, h, ha => by
    rw [Nat.pow_succ] at ha
    rw [show 2 * (n + 1) + 1 = (2 * n + 1) + 1 + 1 by omega]
    unfold gcdF
    by_cases hb : b = 0
    · rw [if_pos hb]; exact ⟨_, rfl⟩
    · rw [if_neg hb]
      unfold gcdF
      by_cases hr : a - a / b * b = 0
      · rw [if_pos hr]; exact ⟨_, rfl⟩
      · rw [if_neg hr]
        have hb0 := ne0_abs hb
        have hr0 := ne0_abs hr
        have e1 := rem_abs a b
        refine gcd_dec n _ _ ?_ ?_
        · rw [rem_abs]
          exact Nat.mod_lt _ hr0
        · rw [e1]
          have h1 := Nat.mod_lt a.toInt.natAbs hb0
          have h2 := Nat.mod_add_div a.toInt.natAbs b.toInt.natAbs
          have h3 : 1 ≤ a.toInt.natAbs / b.toInt.natAbs := Nat.div_pos (by omega) hb0
          have h4 : b.toInt.natAbs * 1 ≤ b.toInt.natAbs * (a.toInt.natAbs / b.toInt.natAbs) := Nat.mul_le_mul_left _ h3
          omega
theorem gcd_some (a b : Int64) : ∃ d, gcdF 130 a b = some d := by
  rw [show 130 = 129 + 1 from rfl]
  unfold gcdF
  by_cases hb : b = 0
  · rw [if_pos hb]; exact ⟨_, rfl⟩
  · rw [if_neg hb]
    refine gcd_dec 64 _ _ ?_ ?_
    · rw [rem_abs]
      exact Nat.mod_lt _ (ne0_abs hb)
    · have h1 := Int64.le_toInt b
      have h2 := Int64.toInt_lt b
      omega
theorem gcd_ne : ∀ n a b d, gcdF n a b = some d → (¬ a = 0 ∨ ¬ b = 0) → ¬ d = 0
  | 0, _, _, _, h, _ => by cases h
  | n + 1, a, b, d, h, h0 => by
    unfold gcdF at h
    by_cases hb : b = 0
    · rw [if_pos hb] at h
      cases h
      exact h0.resolve_right (fun k => k hb)
    · rw [if_neg hb] at h
      exact gcd_ne n _ _ _ h (Or.inl hb)
def lowV (a b : Int64) (p : Int32) : Int64 := if p = 0 then a / (gcdF 130 a b).getD 0 else b / (gcdF 130 a b).getD 0
theorem lg0 {v : Int64} : lg_cmp v 0 = 0 ↔ v = 0 := by
  unfold lg_cmp
  constructor
  · intro h
    by_cases h1 : (0 : Int64) < v
    · simp [h1] at h
    · by_cases h2 : v = 0
      · exact h2
      · simp [h1, h2] at h
  · rintro rfl
    decide
section Low
variable {g : GS} {I : MI} {J : MJ}
theorem sX_cd {Q : Int64 → MI → MJ → Prop} : ∀ (n i : Nat) (a b d : Int64), gcdF n a b = some d → i + n ≤ 1000 → Q d I J → wX11_commonDivisor_b9 g Q n a b (nI i) I J
  | 0, _, _, _, _, h, _, _ => by cases h
  | n + 1, i, a, b, d, h, hi, hq => by
    unfold gcdF at h
    unfold wX11_commonDivisor_b9
    refine br_f (nI_ge (b := 1000) (by omega) (by decide)) ?_
    by_cases hb : b = 0
    · rw [if_pos hb] at h
      cases h
      exact br_t (lg0.mpr hb) hq
    · rw [if_neg hb] at h
      refine br_f (fun k => hb (lg0.mp k)) ⟨hb, ?_⟩
      rw [nI_1]
      exact sX_cd n (i + 1) _ _ d h (by omega) hq
theorem sX_lowest {a b : Int64} {p : Int32} {Q : Int64 → MI → MJ → Prop} (hb : ¬ b = 0) (h : Q (lowV a b p) I J) : wX11_lowest g a b p I J Q := by
  obtain ⟨d, hd⟩ := gcd_some a b
  have hn := gcd_ne _ _ _ _ hd (Or.inr hb)
  unfold wX11_lowest wX11_commonDivisor
  refine ⟨130, sX_cd 130 0 a b d hd (by decide) (br_t' (fun k => hn (lg0.mp k)) ?_)⟩
  unfold lowV at h
  rw [hd] at h
  by_cases hp : p = 0
  · rw [if_pos hp] at h
    exact br_f' hp ⟨hn, h⟩
  · rw [if_neg hp] at h
    exact br_t' hp ⟨hn, h⟩
theorem sM_lo {Q : Int64 → MI → MJ → Prop} {a0 b0 : Int64} {p : Int32} : ∀ (n : Nat) (a b d : Int64), gcdF n a b = some d → ¬ d = 0 → Q (if p = 0 then a0 / d else b0 / d) I J → wX12_lowest_b6 g Q n a0 b0 p a b I J
  | 0, _, _, _, h, _, _ => by cases h
  | n + 1, a, b, d, h, hn, hq => by
    unfold gcdF at h
    unfold wX12_lowest_b6
    by_cases hb : b = 0
    · rw [if_pos hb] at h
      cases h
      refine br_t (lg0.mpr hb) ?_
      by_cases hp : p = 0
      · rw [if_pos hp] at hq
        exact br_f' hp ⟨hn, hq⟩
      · rw [if_neg hp] at hq
        exact br_t' hp ⟨hn, hq⟩
    · rw [if_neg hb] at h
      exact br_f (fun k => hb (lg0.mp k)) ⟨hb, sM_lo n _ _ d h hn hq⟩
theorem sM_lowest {a b : Int64} {p : Int32} {Q : Int64 → MI → MJ → Prop} (hb : ¬ b = 0) (h : Q (lowV a b p) I J) : wX12_lowest g a b p I J Q := by
  obtain ⟨d, hd⟩ := gcd_some a b
  have hn := gcd_ne _ _ _ _ hd (Or.inr hb)
  unfold lowV at h
  rw [hd] at h
  exact ⟨130, sM_lo 130 a b d hd hn h⟩
end Low
theorem t10_ne : ∀ n, n < 19 → ¬ t10 n = 0 := by decide
theorem t10_add (a : Nat) : ∀ b, t10 (a + b) = t10 a * t10 b
  | 0 => by simp [t10]
  | b + 1 => by
    rw [show a + (b + 1) = (a + b) + 1 from rfl, t10, t10_add a b, t10, Int64.mul_assoc]
