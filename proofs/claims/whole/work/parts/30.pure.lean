/-! the pure side: numbers, indices, the invariant -/
def b2i (p : Prop) [Decidable p] : Int32 := if p then 1 else 0
theorem b2i_0 {p : Prop} [Decidable p] : (b2i p = 0) = ¬ p := by
  unfold b2i; by_cases h : p <;> simp [h]
theorem b2i_1 {p : Prop} [Decidable p] : (b2i p = 1) = p := by
  unfold b2i; by_cases h : p <;> simp [h]
theorem b2i_t {p : Prop} [Decidable p] (h : p) : b2i p = 1 := by simp [b2i, h]
theorem b2i_f {p : Prop} [Decidable p] (h : ¬ p) : b2i p = 0 := by simp [b2i, h]
theorem b2i_B {p : Prop} [Decidable p] : isB (b2i p) := by
  unfold b2i isB; by_cases h : p <;> simp [h]
theorem b2i_c {p q : Prop} [Decidable p] [Decidable q] (h : p ↔ q) : b2i p = b2i q := by
  by_cases hq : q
  · rw [b2i_t hq, b2i_t (h.mpr hq)]
  · rw [b2i_f hq, b2i_f (fun x => hq (h.mp x))]
def ixOf (a : Int32) (n : Nat) : Option Nat := if 0 ≤ a.toInt ∧ a.toInt < (n : Int) then some a.toInt.toNat else none
theorem ti_lt {a b : Int32} : a < b ↔ a.toInt < b.toInt := Int32.lt_iff_toInt_lt
theorem ti_le {a b : Int32} : a ≤ b ↔ a.toInt ≤ b.toInt := Int32.le_iff_toInt_le
theorem nI_of_toInt {a : Int32} (h : 0 ≤ a.toInt) : a = nI a.toInt.toNat := by
  have hb : a.toInt < 2147483648 := by
    have := Int32.toInt_lt a
    simpa using this
  apply Int32.toInt_inj.mp
  rw [nI_toInt (by omega)]
  omega
theorem ixOf_some {a : Int32} {n j : Nat} (h : ixOf a n = some j) : j < n ∧ a = nI j := by
  unfold ixOf at h
  split at h
  · rename_i hc
    have e := Option.some.inj h
    refine ⟨by omega, ?_⟩
    rw [← e]
    exact nI_of_toInt hc.1
  · cases h
theorem ixOf_nI {n j : Nat} (h : j < n) (hn : n < 2 ^ 31) : ixOf (nI j) n = some j := by
  unfold ixOf
  rw [nI_toInt (by omega), if_pos (by omega)]
  simp
theorem ixOf_none {a : Int32} {n : Nat} (h : ixOf a n = none) (hn : n < 2 ^ 31) : a < 0 ∨ (¬ a < 0 ∧ nI n ≤ a) := by
  unfold ixOf at h
  split at h
  · cases h
  · rename_i hc
    by_cases h0 : a < 0
    · exact Or.inl h0
    · refine Or.inr ⟨h0, ?_⟩
      rw [ti_lt] at h0
      rw [ti_le, nI_toInt hn]
      have : (0 : Int32).toInt = 0 := by decide
      omega
theorem cl_nI {j : Nat} (h : j < 2 ^ 31) : Int32.toNatClampNeg (nI j) = j := nI_clamp h
section Small
variable {g : GS} {I : MI} {J : MJ}
theorem eX_within {v a b : Int32} {Q : Int32 → MI → MJ → Prop} : wX11_within g v a b I J Q = Q (b2i (a ≤ v ∧ v ≤ b)) I J := by
  apply propext
  unfold wX11_within
  by_cases h1 : v < a
  · have : ¬ (a ≤ v ∧ v ≤ b) := fun h => absurd h1 (by have := h.1; rw [ti_le] at this; rw [ti_lt]; omega)
    simp [h1, b2i_f this]
  · by_cases h2 : b < v
    · have : ¬ (a ≤ v ∧ v ≤ b) := fun h => absurd h2 (by have := h.2; rw [ti_le] at this; rw [ti_lt]; omega)
      simp [h1, h2, b2i_f this]
    · have : a ≤ v ∧ v ≤ b := ⟨by rw [ti_lt] at h1; rw [ti_le]; omega, by rw [ti_lt] at h2; rw [ti_le]; omega⟩
      simp [h1, h2, b2i_t this]
theorem eM_within {v a b : Int32} {Q : Int32 → MI → MJ → Prop} : wX12_within g v a b I J Q = Q (b2i (a ≤ v ∧ v ≤ b)) I J := by
  apply propext
  unfold wX12_within
  by_cases h1 : v < a
  · have : ¬ (a ≤ v ∧ v ≤ b) := fun h => absurd h1 (by have := h.1; rw [ti_le] at this; rw [ti_lt]; omega)
    simp [h1, b2i_f this]
  · by_cases h2 : b < v
    · have : ¬ (a ≤ v ∧ v ≤ b) := fun h => absurd h2 (by have := h.2; rw [ti_le] at this; rw [ti_lt]; omega)
      simp [h1, h2, b2i_f this]
    · have : a ≤ v ∧ v ≤ b := ⟨by rw [ti_lt] at h1; rw [ti_le]; omega, by rw [ti_lt] at h2; rw [ti_le]; omega⟩
      simp [h1, h2, b2i_t this]
theorem eX_ruleAt {a : Int32} {Q : Option Nat → MI → MJ → Prop} (h9 : I 0 0 9 = nI g.2.2) (hR : g.2.2 ≤ 6) : wX11_ruleAt g a I J Q = Q (ixOf a g.2.2) I J := by
  apply propext
  unfold wX11_ruleAt
  rw [h9]
  cases h : ixOf a g.2.2 with
  | none =>
    rcases ixOf_none h (by omega) with h1 | ⟨h1, h2⟩
    · simp [h1]
    · simp [h1, h2]
  | some j =>
    obtain ⟨h1, rfl⟩ := ixOf_some h
    have n1 : ¬ nI j < 0 := nI_pos (by omega)
    have n2 : ¬ nI g.2.2 ≤ nI j := nI_ge h1 (by omega)
    have n3 : vp_in (nI j) 6 := vp_in_nI (by omega) (by decide)
    simp [n1, n2, n3, cl_nI (show j < 2 ^ 31 by omega), h1]
theorem eX_personAt {a : Int32} {Q : Option Nat → MI → MJ → Prop} (h9 : I 0 0 10 = nI g.2.1) (hR : g.2.1 ≤ 8) : wX11_personAt g a I J Q = Q (ixOf a g.2.1) I J := by
  apply propext
  unfold wX11_personAt
  rw [h9]
  cases h : ixOf a g.2.1 with
  | none =>
    rcases ixOf_none h (by omega) with h1 | ⟨h1, h2⟩
    · simp [h1]
    · simp [h1, h2]
  | some j =>
    obtain ⟨h1, rfl⟩ := ixOf_some h
    have n1 : ¬ nI j < 0 := nI_pos (by omega)
    have n2 : ¬ nI g.2.1 ≤ nI j := nI_ge h1 (by omega)
    have n3 : vp_in (nI j) 8 := vp_in_nI (by omega) (by decide)
    simp [n1, n2, n3, cl_nI (show j < 2 ^ 31 by omega), h1]
theorem eX_isCandidate {a : Int32} {nC : Nat} {Q : Int32 → MI → MJ → Prop} (h9 : I 0 0 11 = nI nC) (hC : nC ≤ 6) : wX11_isCandidate g a I J Q = Q (b2i ((ixOf a nC).isSome = true)) I J := by
  apply propext
  unfold wX11_isCandidate
  rw [h9]
  cases h : ixOf a nC with
  | none =>
    rcases ixOf_none h (by omega) with h1 | ⟨h1, h2⟩
    · simp [h1, b2i]
    · simp [h1, h2, b2i]
  | some j =>
    obtain ⟨h1, rfl⟩ := ixOf_some h
    have n1 : ¬ nI j < 0 := nI_pos (by omega)
    have n2 : ¬ nI nC ≤ nI j := nI_ge h1 (by omega)
    simp [n1, n2, b2i]
theorem ix_range {a : Int32} {n : Nat} (hn : n < 2 ^ 31) : (0 ≤ a ∧ a ≤ nI n - 1) ↔ (ixOf a n).isSome = true := by
  have h0 : (0 : Int32).toInt = 0 := by decide
  have h1 : (nI n - 1).toInt = (n : Int) - 1 := by
    cases n with
    | zero => decide
    | succ n => rw [show nI (n + 1) - 1 = nI n from nI_pred n, nI_toInt (by omega)]; omega
  rw [ti_le, ti_le, h0, h1]
  unfold ixOf
  by_cases hc : 0 ≤ a.toInt ∧ a.toInt < (n : Int)
  · rw [if_pos hc]; simp; omega
  · rw [if_neg hc]; simp; omega
theorem eM_isRule {a : Int32} {n : Nat} {Q : Int32 → MI → MJ → Prop} (h9 : I 17 0 7 = nI n) (hR : n < 2 ^ 31) : wX12_isRule g a I J Q = Q (b2i ((ixOf a n).isSome = true)) I J := by
  unfold wX12_isRule
  rw [eM_within, h9, b2i_c (ix_range hR)]
  simp [b2i_B]
theorem eM_isMember {a : Int32} {n : Nat} {Q : Int32 → MI → MJ → Prop} (h9 : I 17 0 0 = nI n) (hR : n < 2 ^ 31) : wX12_isMember g a I J Q = Q (b2i ((ixOf a n).isSome = true)) I J := by
  unfold wX12_isMember
  rw [eM_within, h9, b2i_c (ix_range hR)]
  simp [b2i_B]
theorem eM_isCandidate {a : Int32} {n : Nat} {Q : Int32 → MI → MJ → Prop} (h9 : I 17 0 4 = nI n) (hR : n < 2 ^ 31) : wX12_isCandidate g a I J Q = Q (b2i ((ixOf a n).isSome = true)) I J := by
  unfold wX12_isCandidate
  rw [eM_within, h9, b2i_c (ix_range hR)]
  simp [b2i_B]
theorem part_c {a : Int32} : (0 ≤ a ∧ a ≤ 1) ↔ (a = 0 ∨ a = 1) := by
  have h0 : (0 : Int32).toInt = 0 := by decide
  have h1 : (1 : Int32).toInt = 1 := by decide
  rw [ti_le, ti_le, h0, h1]
  constructor
  · intro h
    rcases (show a.toInt = 0 ∨ a.toInt = 1 by omega) with e | e
    · exact Or.inl (Int32.toInt_inj.mp (by rw [e, h0]))
    · exact Or.inr (Int32.toInt_inj.mp (by rw [e, h1]))
  · rintro (rfl | rfl)
    · rw [h0]; omega
    · rw [h1]; omega
theorem eM_isPart {a : Int32} {Q : Int32 → MI → MJ → Prop} : wX12_isPart g a I J Q = Q (b2i (a = 0 ∨ a = 1)) I J := by
  unfold wX12_isPart
  rw [eM_within, b2i_c part_c]
  simp [b2i_B]
theorem eX_isPart {a : Int32} {Q : Int32 → MI → MJ → Prop} : wX11_isPart g a I J Q = Q (b2i (a = 0 ∨ a = 1)) I J := by
  apply propext
  unfold wX11_isPart
  by_cases h0 : a = 0
  · simp [h0, b2i]
  · by_cases h1 : a = 1
    · simp [h1, b2i]
    · simp [h0, h1, b2i]
/-- the set of comers, as bits below n -/
def csOf (a : Int32) (n : Nat) : Option Nat := if 1 ≤ a.toInt ∧ a.toInt < 2 ^ n then some a.toInt.toNat else none
theorem csOf_some {a : Int32} {n cs : Nat} (h : csOf a n = some cs) : 0 < cs ∧ cs < 2 ^ n ∧ a = nI cs := by
  unfold csOf at h
  split at h
  · rename_i hc
    have e := Option.some.inj h
    have h2 : ((2 ^ n : Nat) : Int) = 2 ^ n := by simp
    refine ⟨by omega, by omega, ?_⟩
    rw [← e]
    exact nI_of_toInt (by omega)
  · cases h
theorem pow8 {n : Nat} (h : n ≤ 8) : 2 ^ n ≤ 256 := Nat.pow_le_pow_right (n := 2) (by decide) h
theorem shl_all : ∀ n, n < 9 → (1 : Int32) <<< (nI n &&& 31) - 1 = nI (2 ^ n - 1) := by decide
theorem cs_range {a : Int32} {n : Nat} (hn : n ≤ 8) : (1 ≤ a ∧ a ≤ (1 : Int32) <<< (nI n &&& 31) - 1) ↔ (csOf a n).isSome = true := by
  rw [shl_all n (by omega)]
  have hp := pow8 hn
  have h1 : (1 : Int32).toInt = 1 := by decide
  have h2 : 0 < 2 ^ n := Nat.pow_pos (by decide)
  have h3 : ((2 ^ n : Nat) : Int) = 2 ^ n := by simp
  rw [ti_le, ti_le, h1, nI_toInt (by omega)]
  unfold csOf
  by_cases hc : 1 ≤ a.toInt ∧ a.toInt < 2 ^ n
  · rw [if_pos hc]; simp; omega
  · rw [if_neg hc]; simp; omega
theorem eM_areComers {a : Int32} {n : Nat} {Q : Int32 → MI → MJ → Prop} (h9 : I 17 0 0 = nI n) (hn : n ≤ 8) : wX12_areComers g a I J Q = Q (b2i ((csOf a n).isSome = true)) I J := by
  unfold wX12_areComers
  rw [eM_within, h9, b2i_c (cs_range hn)]
  simp [b2i_B]
theorem eX_areComers {a : Int32} {n : Nat} {Q : Int32 → MI → MJ → Prop} (h9 : I 0 0 10 = nI n) (hn : n ≤ 8) : wX11_areComers g a I J Q = Q (b2i ((csOf a n).isSome = true)) I J := by
  apply propext
  unfold wX11_areComers wX11_everybody
  rw [h9, ← b2i_c (cs_range (a := a) hn)]
  have h1 : (1 : Int32).toInt = 1 := by decide
  have h0 : (0 : Int32).toInt = 0 := by decide
  by_cases ha : a ≤ 0
  · have : ¬ (1 ≤ a ∧ a ≤ (1 : Int32) <<< (nI n &&& 31) - 1) := by
      rintro ⟨h, -⟩
      rw [ti_le] at h ha
      omega
    simp [ha, b2i_f this]
  · have hb : 1 ≤ a := by rw [ti_le] at ha ⊢; omega
    by_cases hc : (1 : Int32) <<< (nI n &&& 31) - 1 < a
    · have : ¬ (1 ≤ a ∧ a ≤ (1 : Int32) <<< (nI n &&& 31) - 1) := by
        rintro ⟨-, h⟩
        rw [ti_le] at h
        rw [ti_lt] at hc
        omega
      simp [ha, hc, b2i_f this]
    · have : 1 ≤ a ∧ a ≤ (1 : Int32) <<< (nI n &&& 31) - 1 := ⟨hb, by rw [ti_lt] at hc; rw [ti_le]; omega⟩
      simp [ha, hc, b2i_t this]
def cnt (f : Nat → Bool) : Nat → Nat
  | 0 => 0
  | n + 1 => cnt f n + (if f n then 1 else 0)
theorem bit_ok : ∀ cs, cs < 256 → ∀ m, m < 8 → (((nI cs >>> (nI m &&& 31)) &&& 1) = 1 ↔ cs.testBit m = true) := by decide +kernel
theorem eM_has {cs m : Nat} {Q : Int32 → MI → MJ → Prop} (hc : cs < 256) (hm : m < 8) : wX12_has g (nI cs) (nI m) I J Q = Q (b2i (cs.testBit m = true)) I J := by
  apply propext
  unfold wX12_has
  simp only [bit_ok cs hc m hm]
  by_cases h : cs.testBit m = true <;> simp [h, b2i]
theorem eX_isOneOf {cs m : Nat} {Q : Int32 → MI → MJ → Prop} (hc : cs < 256) (hm : m < 8) : wX11_isOneOf g (nI cs) (nI m) I J Q = Q (b2i (cs.testBit m = true)) I J := by
  apply propext
  unfold wX11_isOneOf
  have n1 : ¬ nI m < 0 := nI_pos (by omega)
  have n2 : ¬ (8 : Int32) ≤ nI m := nI_ge (b := 8) hm (by decide)
  simp only [n1, n2, bit_ok cs hc m hm]
  by_cases h : cs.testBit m = true <;> simp [h, b2i]
def bcF (a0 : Int32) : Int32 :=
  let a := a0 - (((a0.toUInt32 >>> (Int32.toUInt32 1 &&& Int32.toUInt32 31)).toInt32) &&& 1431655765)
  let b := (a &&& 858993459) + (((a.toUInt32 >>> (Int32.toUInt32 2 &&& Int32.toUInt32 31)).toInt32) &&& 858993459)
  let c := (b + ((b.toUInt32 >>> (Int32.toUInt32 4 &&& Int32.toUInt32 31)).toInt32)) &&& 252645135
  let d := c + ((c.toUInt32 >>> (Int32.toUInt32 8 &&& Int32.toUInt32 31)).toInt32)
  let f := d + ((d.toUInt32 >>> (Int32.toUInt32 16 &&& Int32.toUInt32 31)).toInt32)
  f &&& 63
theorem eX_bc {a : Int32} {Q : Int32 → MI → MJ → Prop} : wJ6_bitCount_0f7a4 g a I J Q = Q (bcF a) I J := rfl
theorem bc_ok : ∀ cs, cs < 1024 → bcF (nI cs) = nI (cnt cs.testBit 10) := by decide +kernel
def onesF : Nat → Int32 → Int32 → Option Int32
  | 0, _, _ => none
  | n + 1, r, x => if x = 0 then some r else onesF n (r + 1) (x &&& (x - 1))
theorem ones_ok : ∀ cs, cs < 1024 → onesF 12 0 (nI cs) = some (nI (cnt cs.testBit 10)) := by decide +kernel
theorem onesF_w {Q : Int32 → MI → MJ → Prop} : ∀ (n : Nat) (r x v : Int32), onesF n r x = some v → Q v I J → wX12_ones_b4 g Q n r x I J
  | 0, _, _, _, h, _ => by cases h
  | n + 1, r, x, v, h, hq => by
    unfold onesF at h
    unfold wX12_ones_b4
    by_cases hx : x = 0
    · rw [if_pos hx] at h
      cases h
      exact br_t hx hq
    · rw [if_neg hx] at h
      exact br_f hx (onesF_w n _ _ v h hq)
theorem s_ones {cs : Nat} {Q : Int32 → MI → MJ → Prop} (hc : cs < 1024) (h : Q (nI (cnt cs.testBit 10)) I J) : wX12_ones g (nI cs) I J Q := ⟨12, onesF_w 12 0 _ _ (ones_ok cs hc) h⟩
theorem s_bc {cs : Nat} {Q : Int32 → MI → MJ → Prop} (hc : cs < 1024) (h : Q (nI (cnt cs.testBit 10)) I J) : wJ6_bitCount_0f7a4 g (nI cs) I J Q := by rw [eX_bc, bc_ok cs hc]; exact h
theorem cnt_hi {f : Nat → Bool} {a : Nat} : ∀ b, a ≤ b → (∀ m, a ≤ m → m < b → f m = false) → cnt f b = cnt f a
  | 0, h, _ => by rw [show a = 0 by omega]
  | b + 1, h, hf => by
    by_cases e : a = b + 1
    · rw [e]
    · rw [cnt, hf b (by omega) (by omega), cnt_hi b (by omega) (fun m h1 h2 => hf m h1 (by omega))]
      simp
theorem cnt_cs {cs n : Nat} (h : cs < 2 ^ n) (hn : n ≤ 10) : cnt cs.testBit 10 = cnt cs.testBit n := cnt_hi 10 hn (fun m h1 _ => Nat.testBit_lt_two_pow (Nat.lt_of_lt_of_le h (Nat.pow_le_pow_right (by decide) h1)))
theorem cnt_le (f : Nat → Bool) : ∀ n, cnt f n ≤ n
  | 0 => Nat.le_refl _
  | n + 1 => by
    have := cnt_le f n
    rw [cnt]
    split <;> omega
/-- ten to the n -/
def t10 : Nat → Int64
  | 0 => 1
  | n + 1 => t10 n * 10
theorem s_tens {n : Nat} {Q : Int64 → MI → MJ → Prop} (hn : n ≤ 100) (h : Q (t10 n) I J) : wX12_tens g (nI n) I J Q := by
  have key : ∀ d i, i + d = n → wX12_tens_b4 g Q (d + 1) (nI n) (t10 i) (nI i) I J := by
    intro d
    induction d with
    | zero =>
      intro i hi
      have : i = n := by omega
      subst this
      unfold wX12_tens_b4
      exact br_t (nI_le (Nat.le_refl i) (by omega)) h
    | succ d ih =>
      intro i hi
      unfold wX12_tens_b4
      refine br_f (nI_ge (by omega) (by omega)) ?_
      rw [show nI i + 1 = nI (i + 1) from nI_1 i]
      exact ih (i + 1) (by omega)
  exact ⟨n + 1, key n 0 (by omega)⟩
theorem s_power {n : Nat} {Q : Int64 → MI → MJ → Prop} (hn : n ≤ 100) (h : Q (t10 n) I J) : wX11_power g 10 (nI n) I J Q := by
  have key : ∀ d i, i + d = n → wX11_power_b5 g Q (d + 1) 10 (nI n) (t10 i) (nI i) I J := by
    intro d
    induction d with
    | zero =>
      intro i hi
      have : i = n := by omega
      subst this
      unfold wX11_power_b5
      exact br_t (nI_le (Nat.le_refl i) (by omega)) h
    | succ d ih =>
      intro i hi
      unfold wX11_power_b5
      refine br_f (nI_ge (by omega) (by omega)) ?_
      rw [show nI i + 1 = nI (i + 1) from nI_1 i]
      exact ih (i + 1) (by omega)
  exact ⟨n + 1, key n 0 (by omega)⟩
end Small
