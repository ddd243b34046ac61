/-! large: who may come -/
def sumL (f : Nat → Int64) : Nat → Int64
  | 0 => 0
  | n + 1 => sumL f n + f n
theorem sumL_s (f : Nat → Int64) (n : Nat) : sumL f (n + 1) = sumL f n + f n := rfl
theorem sumL_c {f h : Nat → Int64} : ∀ n, (∀ i, i < n → f i = h i) → sumL f n = sumL h n
  | 0, _ => rfl
  | n + 1, e => by rw [sumL_s, sumL_s, sumL_c n (fun i hi => e i (by omega)), e n (by omega)]
theorem sumL_0 : ∀ n, sumL (fun _ => 0) n = 0
  | 0 => rfl
  | n + 1 => by rw [sumL_s, sumL_0 n]; rfl
theorem sumL_mul {f : Nat → Int64} {k : Int64} : ∀ n, sumL (fun i => f i * k) n = sumL f n * k
  | 0 => by rw [show sumL f 0 = 0 from rfl, Int64.zero_mul]; rfl
  | n + 1 => by rw [sumL_s, sumL_s, sumL_mul n]; grind
theorem sumL_add {f h : Nat → Int64} : ∀ n, sumL (fun i => f i + h i) n = sumL f n + sumL h n
  | 0 => rfl
  | n + 1 => by rw [sumL_s, sumL_s, sumL_s, sumL_add n]; grind
theorem sumL_split {f : Nat → Int64} {a : Nat} : ∀ b, sumL f (a + b) = sumL f a + sumL (fun i => f (a + i)) b
  | 0 => by rw [show sumL (fun i => f (a + i)) 0 = 0 from rfl, Int64.add_zero]; rfl
  | b + 1 => by rw [show a + (b + 1) = (a + b) + 1 from rfl, sumL_s, sumL_split b, sumL_s, Int64.add_assoc]
theorem sumL_swap {H : Nat → Nat → Int64} {N : Nat} : ∀ M, sumL (fun a => sumL (fun i => H a i) N) M = sumL (fun i => sumL (fun a => H a i) M) N
  | 0 => (sumL_0 N).symm
  | M + 1 => by
    rw [sumL_s, sumL_swap M, ← sumL_add]
    rfl
theorem sumS_swap {G : Nat → Nat → Int64} {f : Nat → Bool} {N : Nat} : ∀ n, sumS (fun b => sumL (fun i => G b i) N) f n = sumL (fun i => sumS (fun b => G b i) f n) N
  | 0 => (sumL_0 N).symm
  | n + 1 => by
    rw [sumS_s, sumS_swap n]
    by_cases e : f n = true
    · rw [if_pos e, ← sumL_add]
      exact sumL_c N (fun i _ => by rw [sumS_s, if_pos e])
    · rw [if_neg e, Int64.add_zero]
      exact sumL_c N (fun i _ => by rw [sumS_s, if_neg e, Int64.add_zero])
theorem sumL_pick {h : Nat → Int64} {p : Nat} : ∀ M, sumL (fun a => if p = a then h a else 0) M = if p < M then h p else 0
  | 0 => by rw [if_neg (Nat.not_lt_zero p)]; rfl
  | M + 1 => by
    rw [sumL_s, sumL_pick M]
    by_cases e : p < M
    · rw [if_pos e, if_neg (by omega), if_pos (by omega), Int64.add_zero]
    · rw [if_neg e]
      by_cases e2 : p = M
      · rw [if_pos e2, if_pos (by omega), e2, Int64.zero_add]
      · rw [if_neg e2, if_neg (by omega), Int64.add_zero]
theorem sumS_mul {W : Nat → Int64} {f : Nat → Bool} {k : Int64} : ∀ n, sumS (fun b => k * W b) f n = k * sumS W f n
  | 0 => by rw [show sumS W f 0 = 0 from rfl, Int64.mul_zero]; rfl
  | n + 1 => by
    rw [sumS_s, sumS_s, sumS_mul n]
    by_cases e : f n = true
    · rw [if_pos e, if_pos e]; grind
    · rw [if_neg e, if_neg e, Int64.add_zero, Int64.add_zero]
theorem sumS_no {W : Nat → Int64} {f : Nat → Bool} : ∀ n, (∀ b, b < n → f b = false) → sumS W f n = 0
  | 0, _ => rfl
  | n + 1, h => by rw [sumS_s, sumS_no n (fun b hb => h b (by omega)), h n (by omega)]; rfl
theorem sumS_neg {W : Nat → Int64} {f h : Nat → Bool} : ∀ n, (∀ b, b < n → h b = !f b) → sumS W h n = sumL W n - sumS W f n
  | 0, _ => by show (0 : Int64) = 0 - 0; decide
  | n + 1, e => by
    rw [sumS_s, sumS_s, sumL_s, sumS_neg n (fun b hb => e b (by omega)), e n (by omega)]
    cases f n <;> simp <;> grind
section LargeId
variable (bl : Nat → Int32) (c c' : Nat → Int64)
def tT (X Y Z : Nat → Int64) : Nat → Nat → Nat → Int64
  | 0, a, b => if a = 0 ∧ b = 0 then 1 else 0
  | n + 1, a, b => (tT X Y Z n a b * X n + (if a = 0 then 0 else tT X Y Z n (a - 1) b) * Y n) + (if a = 0 ∨ b = 0 then 0 else tT X Y Z n (a - 1) (b - 1)) * Z n
def cmP : Nat → Nat → Int64
  | 0, _ => 1
  | n + 1, cs => cmP n cs * (if cs.testBit n then c n else c' n)
def tF (n cs a b : Nat) : Int64 := if cnt cs.testBit n = a then cmP c c' n cs * t10 (n - a) * dpM bl cs.testBit n b else 0
theorem cmP_c : ∀ n cs ds, (∀ m, m < n → cs.testBit m = ds.testBit m) → cmP c c' n cs = cmP c c' n ds
  | 0, _, _, _ => rfl
  | n + 1, cs, ds, h => by rw [cmP, cmP, h n (by omega), cmP_c n cs ds (fun m hm => h m (by omega))]
theorem tF_lo {n cs a b : Nat} (h : cs < 2 ^ n) : tF bl c c' (n + 1) cs a b = tF bl c c' n cs a b * (c' n * 10) := by
  have hb : cs.testBit n = false := Nat.testBit_lt_two_pow h
  have hl := cnt_le cs.testBit n
  unfold tF
  rw [cnt_s, cmP, dpM, hb]
  simp only [Bool.false_eq_true, if_false, Nat.add_zero]
  by_cases e : cnt cs.testBit n = a
  · rw [if_pos e, if_pos e, show n + 1 - a = (n - a) + 1 by omega, t10]
    grind
  · rw [if_neg e, if_neg e, Int64.zero_mul]
theorem tF_hi {n cs a b : Nat} (h : cs < 2 ^ n) : tF bl c c' (n + 1) (2 ^ n + cs) a b = (if a = 0 then 0 else tF bl c c' n cs (a - 1) b) * (c n * Int32.toInt64 (10 - bl n)) + (if a = 0 ∨ b = 0 then 0 else tF bl c c' n cs (a - 1) (b - 1)) * (c n * Int32.toInt64 (bl n)) := by
  have hb : (2 ^ n + cs).testBit n = true := by rw [Nat.testBit_two_pow_add_eq, Nat.testBit_lt_two_pow h]; rfl
  have hm : ∀ m, m < n → (2 ^ n + cs).testBit m = cs.testBit m := fun m hm => Nat.testBit_two_pow_add_gt hm cs
  unfold tF
  rw [cnt_s, cmP, dpM, hb, cnt_c n hm, cmP_c c c' n _ _ hm, dpM_c n hm]
  simp only [if_true]
  cases a with
  | zero =>
    rw [if_neg (by omega), if_pos rfl, if_pos (Or.inl rfl)]
    grind
  | succ a =>
    rw [if_neg (show ¬ a + 1 = 0 by omega), show a + 1 - 1 = a from rfl, show n + 1 - (a + 1) = n - a by omega]
    by_cases e : cnt cs.testBit n = a
    · rw [if_pos (by omega), if_pos e, if_pos e]
      unfold dpS
      by_cases e0 : b = 0
      · rw [if_pos e0, if_pos (Or.inr e0)]
        grind
      · rw [if_neg e0, if_neg (by omega)]
        grind
    · rw [if_neg (by omega), if_neg e, if_neg e]
      simp
theorem tT_eq {X Y Z : Nat → Int64} (hX : ∀ n, X n = c' n * 10) (hY : ∀ n, Y n = c n * Int32.toInt64 (10 - bl n)) (hZ : ∀ n, Z n = c n * Int32.toInt64 (bl n)) : ∀ n a b, tT X Y Z n a b = sumL (fun cs => tF bl c c' n cs a b) (2 ^ n)
  | 0, a, b => by
    show (if a = 0 ∧ b = 0 then 1 else 0) = 0 + (if 0 = a then 1 * t10 (0 - a) * dp0 b else 0)
    unfold dp0
    by_cases e : a = 0
    · subst e
      by_cases e2 : b = 0 <;> simp [e2, t10]
    · rw [if_neg (fun h => e h.1), if_neg (fun h => e h.symm)]; rfl
  | n + 1, a, b => by
    rw [tT, hX, hY, hZ, Nat.pow_succ, Nat.mul_two, sumL_split, sumL_c (2 ^ n) (fun cs h => tF_lo bl c c' h), sumL_mul, sumL_c (2 ^ n) (fun cs h => tF_hi bl c c' h), sumL_add, sumL_mul, sumL_mul, ← tT_eq hX hY hZ n a b, Int64.add_assoc]
    congr 1
    congr 1
    · congr 1
      by_cases e : a = 0
      · simp only [if_pos e]; exact (sumL_0 _).symm
      · simp only [if_neg e]; exact tT_eq hX hY hZ n _ _
    · congr 1
      by_cases e : a = 0 ∨ b = 0
      · simp only [if_pos e]; exact (sumL_0 _).symm
      · simp only [if_neg e]; exact tT_eq hX hY hZ n _ _
end LargeId
theorem tT_hi {X Y Z : Nat → Int64} : ∀ n a b, n < a → tT X Y Z n a b = 0
  | 0, a, b, h => by rw [tT, if_neg (by omega)]
  | n + 1, a, b, h => by
    rw [tT, tT_hi n a b (by omega), if_neg (by omega), tT_hi n (a - 1) b (by omega)]
    by_cases e : a = 0 ∨ b = 0
    · rw [if_pos e]; simp
    · rw [if_neg e, tT_hi n (a - 1) (b - 1) (by omega)]; simp
theorem tT_b {X Y Z : Nat → Int64} : ∀ n a b, a < b → tT X Y Z n a b = 0
  | 0, a, b, h => by rw [tT, if_neg (by omega)]
  | n + 1, a, b, h => by
    rw [tT, tT_b n a b h]
    by_cases e : a = 0
    · rw [if_pos e, if_pos (Or.inl e)]; simp
    · rw [if_neg e, if_neg (by omega), tT_b n (a - 1) b (by omega), tT_b n (a - 1) (b - 1) (by omega)]; simp
