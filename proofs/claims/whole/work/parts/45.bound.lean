/-! the ways are few: no sum goes over -/
def vbN (V : MV) (w : Bool) (c m : Nat) : Nat := (vBlack V w c m).toNatClampNeg
theorem fear_ok : ∀ z, z < 11 → (nI z / 2 = nI (z / 2)) := by decide
theorem contr_ok : ∀ z, z < 11 → ∀ n, n < 6 → ((nI z * (10 - nI n) + nI n * (10 - nI z)) / 10 = nI ((z * (10 - n) + n * (10 - z)) / 10) ∧ (z * (10 - n) + n * (10 - z)) / 10 ≤ 10) := by decide +kernel
theorem vb10 {g : GS} {V : MV} {nC len : Nat} {w : Bool} {c m : Nat} (hV : VOK g V nC len) (hm : m < g.2.1) (hc : c < 6) : ∃ z, z ≤ 10 ∧ vBlack V w c m = nI z := by
  obtain ⟨kd, n, cm, h1, h2, h3, h4, h5, h6, h7, h8, h9⟩ := hV.2.2.2.1 m hm
  obtain ⟨z, hz, ez⟩ := h9 c hc
  unfold vBlack
  rw [ez, h4, h5]
  by_cases e0 : V 21 c = nI m
  · rw [if_pos e0]; exact ⟨0, by omega, rfl⟩
  · rw [if_neg e0]
    have hy : ∃ y, y ≤ 10 ∧ nI z = nI y := ⟨z, hz, rfl⟩
    rcases (show kd = 0 ∨ kd = 1 ∨ kd = 2 ∨ kd = 3 ∨ kd = 4 by omega) with rfl | rfl | rfl | rfl | rfl
    · exact hy
    · rw [if_pos (by decide)]
      cases w
      · exact hy
      · exact ⟨z / 2, by omega, fear_ok z (by omega)⟩
    · rw [if_neg (by decide), if_pos (by decide)]
      have hn : n ≤ 5 := h8 rfl
      exact ⟨_, (contr_ok z (by omega) n (by omega)).2, (contr_ok z (by omega) n (by omega)).1⟩
    · rw [if_neg (by decide), if_neg (by decide), if_pos (by decide)]
      by_cases e : V 21 c = nI n
      · rw [if_pos e]; exact ⟨10, by omega, rfl⟩
      · rw [if_neg e]; exact hy
    · rw [if_neg (by decide), if_neg (by decide), if_neg (by decide), if_pos (by decide)]
      by_cases e : V 21 c = nI n
      · rw [if_pos e]; exact ⟨0, by omega, rfl⟩
      · rw [if_neg e]; exact hy
theorem vbN_ok {g : GS} {V : MV} {nC len : Nat} {w : Bool} {c m : Nat} (hV : VOK g V nC len) (hm : m < g.2.1) (hc : c < 6) : vBlack V w c m = nI (vbN V w c m) ∧ vbN V w c m ≤ 10 := by
  obtain ⟨z, hz, ez⟩ := vb10 (w := w) hV hm hc
  unfold vbN
  rw [ez, cl_nI (by omega)]
  exact ⟨rfl, hz⟩
def dpNS (b : Nat) (W : Nat → Nat) (k : Nat) : Nat := W k * (10 - b) + (if k = 0 then 0 else W (k - 1) * b)
def dpN (b : Nat → Nat) (sel : Nat → Bool) : Nat → Nat → Nat
  | 0 => fun k => if k = 0 then 1 else 0
  | n + 1 => if sel n then dpNS (b n) (dpN b sel n) else dpN b sel n
theorem ten_sub {z : Nat} (h : z ≤ 10) : (10 : Int32) - nI z = nI (10 - z) := pk_sub (a := 10) h
theorem dpM_N {bl : Nat → Int32} {b : Nat → Nat} {sel : Nat → Bool} : ∀ n, (∀ m, m < n → bl m = nI (b m) ∧ b m ≤ 10) → ∀ k, dpM bl sel n k = lN (dpN b sel n k)
  | 0, _, k => by
    unfold dpM dpN dp0
    by_cases e : k = 0 <;> simp [e] <;> rfl
  | n + 1, h, k => by
    have ih := dpM_N (sel := sel) n (fun m hm => h m (by omega))
    obtain ⟨e1, e2⟩ := h n (by omega)
    unfold dpM dpN
    by_cases e : sel n = true
    · rw [if_pos e, if_pos e]
      unfold dpS dpNS
      rw [ih k, ih (k - 1), e1, ten_sub e2, nI_l (by omega), nI_l (by omega), lN_mul, lN_mul]
      by_cases e3 : k = 0
      · rw [if_pos e3, if_pos e3, show (0 : Int64) = lN 0 from rfl, lN_add]
      · rw [if_neg e3, if_neg e3, lN_add]
    · rw [if_neg e, if_neg e]
      exact ih k
def sumN (W : Nat → Nat) : Nat → Nat
  | 0 => 0
  | n + 1 => sumN W n + W n
def sumNf (W : Nat → Nat) (f : Nat → Bool) : Nat → Nat
  | 0 => 0
  | n + 1 => sumNf W f n + (if f n then W n else 0)
theorem sumNf_le (W : Nat → Nat) (f : Nat → Bool) : ∀ n, sumNf W f n ≤ sumN W n
  | 0 => Nat.le_refl _
  | n + 1 => by
    have := sumNf_le W f n
    unfold sumNf sumN
    split <;> omega
theorem sumN_S {b : Nat} {W : Nat → Nat} (hb : b ≤ 10) : ∀ K, sumN (dpNS b W) K = (10 - b) * sumN W K + b * sumN W (K - 1)
  | 0 => by simp [sumN]
  | K + 1 => by
    rw [show sumN (dpNS b W) (K + 1) = sumN (dpNS b W) K + dpNS b W K from rfl, sumN_S hb K, show sumN W (K + 1) = sumN W K + W K from rfl, Nat.mul_add]
    unfold dpNS
    cases K with
    | zero => simp [sumN, Nat.mul_comm]
    | succ K =>
      rw [if_neg (by omega), show K + 1 + 1 - 1 = K + 1 from rfl, show K + 1 - 1 = K from rfl, show sumN W (K + 1) = sumN W K + W K from rfl, Nat.mul_add, Nat.mul_add, Nat.mul_comm (W (K + 1)), Nat.mul_comm (W K) b]
      omega
theorem sumN_p (W : Nat → Nat) (K : Nat) : sumN W (K - 1) ≤ sumN W K := by
  cases K with
  | zero => exact Nat.le_refl _
  | succ K => exact Nat.le_add_right _ _
theorem sumN_le {b : Nat → Nat} {sel : Nat → Bool} : ∀ n, (∀ m, m < n → b m ≤ 10) → ∀ K, sumN (dpN b sel n) K ≤ 10 ^ cnt sel n
  | 0, _, K => by
    show sumN (fun k => if k = 0 then 1 else 0) K ≤ 1
    have : ∀ K, sumN (fun k => if k = 0 then 1 else 0) (K + 1) = 1 := by
      intro K
      induction K with
      | zero => rfl
      | succ K ih => rw [sumN, ih]; simp
    cases K with
    | zero => exact Nat.zero_le _
    | succ K => rw [this]; exact Nat.le_refl _
  | n + 1, h, K => by
    have ih := sumN_le (sel := sel) n (fun m hm => h m (by omega))
    rw [cnt_s]
    unfold dpN
    by_cases e : sel n = true
    · rw [if_pos e, if_pos e, sumN_S (h n (by omega)), Nat.pow_succ]
      have h1 := ih K
      have h2 := sumN_p (dpN b sel n) K
      have h3 := h n (by omega)
      have h4 : b n * sumN (dpN b sel n) (K - 1) ≤ b n * sumN (dpN b sel n) K := Nat.mul_le_mul_left _ h2
      have h5 : (10 - b n) * sumN (dpN b sel n) K + b n * sumN (dpN b sel n) K = 10 * sumN (dpN b sel n) K := by
        rw [← Nat.add_mul, show 10 - b n + b n = 10 by omega]
      omega
    · rw [if_neg e, if_neg e]
      exact ih K
theorem sumS_N {W : Nat → Int64} {Wn : Nat → Nat} {f : Nat → Bool} (h : ∀ k, W k = lN (Wn k)) : ∀ n, sumS W f n = lN (sumNf Wn f n)
  | 0 => rfl
  | n + 1 => by
    rw [sumS_s, sumS_N h n, sumNf, h n]
    by_cases e : f n = true
    · rw [if_pos e, if_pos e, lN_add]
    · rw [if_neg e, if_neg e, Int64.add_zero]
      rfl
theorem t10_N : ∀ n, t10 n = lN (10 ^ n)
  | 0 => rfl
  | n + 1 => by rw [t10, t10_N n, show (10 : Int64) = lN 10 from rfl, lN_mul, Nat.pow_succ]
theorem outV_N {g : GS} {V : MV} {nC len r c cs th : Nat} (hV : VOK g V nC len) (hc : c < nC) (hcs : cs < 2 ^ g.2.1) : ∃ o, o ≤ 10 ^ pc cs ∧ outV V r c cs g.2.1 th = lN o := by
  have hc6 := vok_c hV
  unfold outV
  have h1 := dpM_N (bl := vBlack V (wat V r th) c) (b := vbN V (wat V r th) c) (sel := cs.testBit) g.2.1 (fun m hm => vbN_ok hV hm (by omega))
  rw [sumS_N h1, pc_n hcs (vok_p hV)]
  exact ⟨_, Nat.le_trans (sumNf_le _ _ 9) (sumN_le g.2.1 (fun m hm => (vbN_ok hV hm (by omega)).2) 9), rfl⟩
theorem inV_N {g : GS} {V : MV} {nC len r c cs : Nat} (hV : VOK g V nC len) (hc : c < nC) (hcs : cs < 2 ^ g.2.1) : ∃ x, x ≤ 10 ^ pc cs * 10 ^ pc cs ∧ inV V r c cs g.2.1 = lN x := by
  obtain ⟨o, ho, eo⟩ := outV_N (r := r) (th := pc cs) hV hc hcs
  unfold inV
  rw [eo, t10_N, lN_mul, lN_mul]
  split
  · exact ⟨0, Nat.zero_le _, rfl⟩
  · split
    · rw [lN_sub ho, lN_mul]
      exact ⟨_, Nat.mul_le_mul_right _ (Nat.sub_le _ _), rfl⟩
    · rw [lN_sub (Nat.mul_le_mul ho ho)]
      exact ⟨_, Nat.sub_le _ _, rfl⟩
/-- the set without m -/
def cut (cs m : Nat) : Nat := cs &&& (255 ^^^ 2 ^ m)
theorem cut_ok : ∀ cs, cs < 256 → ∀ m, m < 8 → nI cs &&& ((1 <<< (nI m &&& 31)) ^^^ (-1)) = nI (cut cs m) := by decide +kernel
theorem cut_pc : ∀ cs, cs < 256 → ∀ m, m < 8 → cs.testBit m = true → pc (cut cs m) + 1 = pc cs := by decide +kernel
theorem cut_bit : ∀ m, m < 8 → ∀ j, j < 8 → (255 ^^^ 2 ^ m).testBit j = decide (¬ j = m) := by decide
theorem cut_sel {cs m j : Nat} (hm : m < 8) (hj : j < 8) : (cut cs m).testBit j = selO cs (nI m) j := by
  unfold cut selO
  rw [Nat.testBit_and, cut_bit m hm j hj]
  congr 1
  exact decide_eq_decide.mpr (not_congr (nI_eq (by omega) (by omega)).symm)
theorem cut_lt {cs m n : Nat} (h : cs < 2 ^ n) : cut cs m < 2 ^ n := Nat.lt_of_le_of_lt Nat.and_le_left h
