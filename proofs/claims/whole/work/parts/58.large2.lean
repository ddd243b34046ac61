theorem sumL_dpS {b : Int32} {W : Nat → Int64} : ∀ K, sumL (dpS b W) (K + 1) = sumL W (K + 1) * Int32.toInt64 (10 - b) + sumL W K * Int32.toInt64 b
  | 0 => by
    show (0 : Int64) + (W 0 * Int32.toInt64 (10 - b) + 0) = (0 + W 0) * Int32.toInt64 (10 - b) + 0 * Int32.toInt64 b
    grind
  | K + 1 => by
    rw [sumL_s, sumL_dpS K, sumL_s W (K + 1), sumL_s W K]
    unfold dpS
    rw [if_neg (by omega), show K + 1 - 1 = K from rfl]
    grind
theorem dpM_tot {bl : Nat → Int32} {sel : Nat → Bool} : ∀ n K, cnt sel n < K → (∀ m, m < n → Int32.toInt64 (10 - bl m) + Int32.toInt64 (bl m) = 10) → sumL (dpM bl sel n) K = t10 (cnt sel n)
  | 0, K, h, _ => by
    have : ∀ K, sumL dp0 (K + 1) = 1 := by
      intro K
      induction K with
      | zero => rfl
      | succ K ih => rw [sumL_s, ih]; rfl
    obtain ⟨K, rfl⟩ : ∃ m, K = m + 1 := ⟨K - 1, by omega⟩
    exact this K
  | n + 1, K, h, hb => by
    rw [cnt_s] at h ⊢
    unfold dpM
    by_cases e : sel n = true
    · rw [if_pos e] at h ⊢
      rw [if_pos e]
      obtain ⟨K, rfl⟩ : ∃ m, K = m + 1 := ⟨K - 1, by omega⟩
      rw [sumL_dpS, dpM_tot n (K + 1) (by omega) (fun m hm => hb m (by omega)), dpM_tot n K (by omega) (fun m hm => hb m (by omega)), t10, ← hb n (by omega)]
      grind
    · rw [if_neg e] at h ⊢
      rw [if_neg e]
      exact dpM_tot n K h (fun m hm => hb m (by omega))
abbrev laC (V : MV) : Nat → Int64 := fun n => Int32.toInt64 (V 20 n)
abbrev laC' (V : MV) : Nat → Int64 := fun n => Int32.toInt64 (10 - V 20 n)
abbrev laB (V : MV) (r c nP : Nat) : Nat → Int32 := vBlack V (wat V r nP) c
def laT (V : MV) (r c nP : Nat) : Nat → Nat → Nat → Int64 := tT (fun n => laC' V n * 10) (fun n => laC V n * Int32.toInt64 (10 - laB V r c nP n)) (fun n => laC V n * Int32.toInt64 (laB V r c nP n))
def laX (V : MV) (r c nP a : Nat) : Int64 := if a = 0 then 0 else sumS (fun b => laT V r c nP nP a b) (fun b => inB V r b a) (a + 1)
def laM (V : MV) (r c nP cs : Nat) : Int64 := if cs = 0 ∨ nI (pc cs) < V 25 r then 0 else (cmP (laC V) (laC' V) nP cs * (t10 (pc cs) - outV V r c cs nP nP)) * t10 (nP - pc cs)
theorem la_eq {V : MV} {r c nP : Nat} (hp : nP ≤ 8) (hb : ∀ m, m < nP → Int32.toInt64 (10 - laB V r c nP m) + Int32.toInt64 (laB V r c nP m) = 10) : sumL (laX V r c nP) (nP + 1) = sumL (laM V r c nP) (2 ^ nP) := by
  have h1 : ∀ a, a < nP + 1 → laX V r c nP a = sumL (fun cs => if a = 0 then 0 else sumS (fun b => tF (laB V r c nP) (laC V) (laC' V) nP cs a b) (fun b => inB V r b a) (a + 1)) (2 ^ nP) := by
    intro a _
    unfold laX
    by_cases e : a = 0
    · simp only [if_pos e]; exact (sumL_0 _).symm
    · simp only [if_neg e]
      rw [← sumS_swap]
      congr 1
      funext b
      exact tT_eq (laB V r c nP) (laC V) (laC' V) (fun _ => rfl) (fun _ => rfl) (fun _ => rfl) nP a b
  rw [sumL_c _ h1, sumL_swap]
  refine sumL_c _ (fun cs hcs => ?_)
  have hpc := pc_n hcs hp
  have h256 := lt256 hcs hp
  have h8 := pc8 hcs hp
  have hle : pc cs ≤ nP := by rw [hpc]; exact cnt_le _ _
  have h2 : ∀ a, a < nP + 1 → (if a = 0 then 0 else sumS (fun b => tF (laB V r c nP) (laC V) (laC' V) nP cs a b) (fun b => inB V r b a) (a + 1)) = if pc cs = a then (if a = 0 then 0 else sumS (fun b => (cmP (laC V) (laC' V) nP cs * t10 (nP - a)) * dpM (laB V r c nP) cs.testBit nP b) (fun b => inB V r b a) (a + 1)) else 0 := by
    intro a _
    unfold tF
    rw [← hpc]
    by_cases e : pc cs = a
    · simp only [if_pos e]
    · simp only [if_neg e]
      by_cases e0 : a = 0
      · rw [if_pos e0]
      · rw [if_neg e0]
        have z : ∀ n, sumS (fun _ => (0 : Int64)) (fun b => inB V r b a) n = 0 := by
          intro n
          induction n with
          | zero => rfl
          | succ n ih =>
            rw [sumS_s, ih]
            split <;> rfl
        exact z _
  rw [sumL_c _ h2, sumL_pick, if_pos (by omega)]
  unfold laM
  by_cases hc0 : cs = 0
  · subst hc0
    rw [if_pos (Or.inl rfl), if_pos (show pc 0 = 0 by decide)]
  · have hpp := pc_pos cs h256 (by omega)
    rw [if_neg (by omega)]
    by_cases hq : nI (pc cs) < V 25 r
    · rw [if_pos (Or.inr hq)]
      exact sumS_no _ (fun b _ => by simp [inB, hq])
    · rw [if_neg (by simp [hc0, hq]), sumS_mul, sumS_neg (f := fun b => shB V r b (pc cs)) _ (fun b _ => by simp [inB, hq]; omega), dpM_tot nP (pc cs + 1) (by omega) hb, ← hpc]
      have ho : outV V r c cs nP nP = sumS (dpM (laB V r c nP) cs.testBit nP) (fun b => shB V r b (pc cs)) (pc cs + 1) := by
        unfold outV
        exact sumS_hi (fun k hk => dpM_hi nP k (by omega)) 9 (by omega)
      rw [ho]
      grind
