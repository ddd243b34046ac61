/-! veto, worth -/
def e11 : Nat → Int64
  | 0 => 1
  | n + 1 => e11 n * 11
def vstep (E a b : Int64) (v : Nat) : Int64 := if b < Int32.toInt64 (nI v) * E + a then Int32.toInt64 (nI v) * E + a else b
def vsum (E a b : Int64) : Nat → Int64
  | 0 => 0
  | v + 1 => vsum E a b v + vstep E a b v
def vT : Nat → Nat → Int64
  | 0, _ => 0
  | _ + 1, 0 => 0
  | n + 1, k + 1 => vsum (e11 n) (vT n k) (vT n (k + 1)) 11
theorem vT_0 : ∀ n, vT n 0 = 0
  | 0 => rfl
  | _ + 1 => rfl
theorem e11_ne : ∀ n, n < 9 → ¬ e11 n = 0 := by decide
section Veto
variable {g : GS} {V : MV} {nC len : Nat} {I : MI} {J : MJ}
theorem s_elevens {n : Nat} {Q : Int64 → MI → MJ → Prop} (hn : n ≤ 100) (h : Q (e11 n) I J) : wX12_elevens g (nI n) I J Q := by
  unfold wX12_elevens
  refine loop_0 (fun f i (s : Int64) => wX12_elevens_b4 g Q f (nI n) s (nI i) I J) (fun i s => s = e11 i) n 1 rfl (fun f s hs => ?_) (fun f i s hi hs ih => ?_)
  · unfold wX12_elevens_b4
    rw [hs]
    exact br_t (nI_le (Nat.le_refl _) (by omega)) h
  · unfold wX12_elevens_b4
    rw [hs, nI_1]
    exact br_f (nI_ge hi (by omega)) (ih _ rfl)
theorem sX_expect {N : Nat} {Q : Int64 → MI → MJ → Prop} (hN : N ≤ 8) (h : ∀ J1, (∀ k, k < 4 → J1 14 0 k = vT N k) → Q (e11 N) I J1) : wX11_expectVetoes g (nI N) I J Q := by
  unfold wX11_expectVetoes wJ7_fill_d0a16
  have f0 : ∀ k, k < 4 → (u3 J 14 0 (fun t => if t < 4 then 0 else J 14 0 t)) 14 0 k = vT 0 k := by
    intro k hk
    rw [u3_same]
    show (if k < 4 then 0 else J 14 0 k) = vT 0 k
    rw [if_pos hk]; rfl
  revert f0
  generalize u3 J 14 0 (fun t => if t < 4 then 0 else J 14 0 t) = J00
  intro f0
  refine loop_0 (fun f n (s : Int64 × MJ) => wX11_expectVetoes_b13 g Q f (nI N) s.1 (nI n) I s.2) (fun n s => s.1 = e11 n ∧ ∀ k, k < 4 → s.2 14 0 k = vT n k) N (1, J00) ⟨rfl, f0⟩ (fun f s hs => ?_) (fun f n s hn hs ih => ?_)
  · unfold wX11_expectVetoes_b13
    rw [hs.1]
    exact br_t (nI_le (Nat.le_refl _) (by omega)) (h _ hs.2)
  · unfold wX11_expectVetoes_b13
    refine br_f (nI_ge hn (by omega)) ⟨4, ?_⟩
    obtain ⟨d, J0⟩ := s
    obtain ⟨e1, e2⟩ := hs
    have e1 : d = e11 n := e1
    subst e1
    have key : ∀ k J1, k < 4 → (∀ j, j < 4 → J1 14 0 j = if j ≤ k then vT n j else vT (n + 1) j) → wX11_expectVetoes_b22 g (fun v1 v2 v4 I J => wX11_expectVetoes_b13 g Q f v1 v2 v4 I J) Q (k + 1) (nI N) (e11 n) (nI n) (nI k) I J1 := by
      intro k
      induction k with
      | zero =>
        intro J1 _ hJ
        unfold wX11_expectVetoes_b22
        rw [nI_1]
        refine br_t (nI_lt (a := 0) (b := 1) (by decide) (by decide)) (ih (e11 n * 11, J1) ⟨rfl, fun j hj => ?_⟩)
        show J1 14 0 j = vT (n + 1) j
        rw [hJ j hj]
        by_cases e : j ≤ 0
        · rw [if_pos e, show j = 0 by omega, vT_0, vT_0]
        · rw [if_neg e]
      | succ k ihk =>
        intro J1 hk hJ
        unfold wX11_expectVetoes_b22
        refine br_f (nI_nlt (a := k + 1) (b := 1) (by omega) (by omega)) ?_
        refine loop_0 (fun f2 v (s : Int64) => wX11_expectVetoes_b34 g (fun v1 v2 v4 I J => wX11_expectVetoes_b13 g Q f v1 v2 v4 I J) (fun v1 v2 v4 v5 I J => wX11_expectVetoes_b22 g (fun v1 v2 v4 I J => wX11_expectVetoes_b13 g Q f v1 v2 v4 I J) Q (k + 1) v1 v2 v4 v5 I J) Q f2 (nI N) (e11 n) (nI n) (nI (k + 1)) s (nI v) I J1) (fun v s => s = vsum (e11 n) (vT n k) (vT n (k + 1)) v) 11 0 rfl (fun f2 s hs => ?_) (fun f2 v s hv hs ih2 => ?_)
        · unfold wX11_expectVetoes_b34
          rw [pk_m1, cl_nI (by omega)]
          refine br_t (nI_lt (a := 10) (by decide) (by decide)) ⟨vp_in_nI (by omega) (by decide), ihk _ (by omega) (fun j hj => ?_)⟩
          rw [u3_same]
          by_cases e : j = k + 1
          · subst e
            rw [pk_uLs, if_neg (by omega), hs]
            rfl
          · rw [pk_uLn e, hJ j hj]
            by_cases e2 : j ≤ k
            · rw [if_pos (by omega), if_pos e2]
            · rw [if_neg (by omega), if_neg e2]
        · unfold wX11_expectVetoes_b34
          have hA : J1 14 0 (k + 1) = vT n (k + 1) := by rw [hJ _ hk, if_pos (Nat.le_refl _)]
          have hB : J1 14 0 k = vT n k := by rw [hJ k (by omega), if_pos (by omega)]
          rw [nI_pred, cl_nI (by omega), cl_nI (by omega), hA, hB, nI_1]
          exact br_f (nI_nlt (b := v) (a := 10) (by omega) (by decide)) ⟨vp_in_nI (by omega) (by decide), vp_in_nI (by omega) (by decide), ih2 _ (by rw [hs]; rfl)⟩
    refine key 3 J0 (by decide) (fun j hj => ?_)
    rw [if_pos (by omega)]
    exact e2 j hj
theorem ix4 (n k : Nat) : 4 * nI n + nI k = nI (4 * n + k) := by rw [show (4 : Int32) = nI 4 from rfl, pk_mul, nI_add]
theorem sM_isUsed {n k v : Nat} {Q : Int32 → MI → MJ → Prop} (hn : n < 8) (hk : k < 4) (hJ : ∀ j, j < 4 → J 32 0 (4 * n + j) = vT n j) (h : Q (b2i (0 < k ∧ vT n k < Int32.toInt64 (nI v) * e11 n + vT n (k - 1))) I J) : wX12_isUsed g (nI (n + 1)) (nI k) (nI v) I J Q := by
  unfold wX12_isUsed
  rw [nI_pred, ix4]
  cases k with
  | zero =>
    rw [b2i_f (by omega)] at h
    exact br_t (by decide) h
  | succ k =>
    refine br_f (nI_nle (by omega) (by omega)) (s_elevens (by omega) ?_)
    rw [show 4 * n + (k + 1) = 4 * n + k + 1 from rfl, nI_pred, cl_nI (by omega), cl_nI (by omega), hJ k (by omega), show 4 * n + k + 1 = 4 * n + (k + 1) from rfl, hJ (k + 1) hk]
    refine ⟨vp_in_nI (by omega) (by decide), vp_in_nI (by omega) (by decide), ?_⟩
    by_cases e : vT n (k + 1) < Int32.toInt64 (nI v) * e11 n + vT n k
    · rw [b2i_t ⟨by omega, e⟩] at h
      exact br_f (fun z => lg_le.mp z e) h
    · rw [b2i_f (fun z => e z.2)] at h
      exact br_t (lg_le.mpr e) h
def TT (J : MJ) (n kk : Nat) : Prop := ∀ i j, j < 4 → (i < n ∨ (i = n ∧ j < kk)) → J 32 0 (4 * i + j) = vT i j
theorem sM_layVetoes {N : Nat} {Q : MI → MJ → Prop} (hN : N ≤ 8) (h : ∀ J1, (∀ i j, i ≤ N → j < 4 → J1 32 0 (4 * i + j) = vT i j) → Q I J1) : wX12_layVetoes g (nI N) I J Q := by
  unfold wX12_layVetoes
  refine loop_0 (fun f k (s : MJ) => wX12_layVetoes_b2 g Q f (nI N) (nI k) I s) (fun k s => TT s 0 k) 4 J (fun i j hj hij => absurd hij (by omega)) (fun f s hs => ?_) (fun f k s hk hs ih => ?_)
  case refine_2 =>
    unfold wX12_layVetoes_b2
    rw [cl_nI (by omega), nI_1]
    refine br_f (nI_ge (b := 4) hk (by decide)) ⟨vp_in_nI (by omega) (by decide), ih _ (fun i j hj hij => ?_)⟩
    have : i = 0 := by omega
    subst this
    rw [u3_same]
    by_cases e : j = k
    · rw [show 4 * 0 + j = k by omega, pk_uLs]; rfl
    · rw [pk_uLn (by omega)]; exact hs 0 j hj (by omega)
  unfold wX12_layVetoes_b2
  refine br_t (nI_le (a := 4) (Nat.le_refl _) (by decide)) ?_
  refine pk_loop (fun f n (s : MJ) => wX12_layVetoes_b22 g Q f (nI N) (nI n) I s) (fun n s => 1 ≤ n ∧ TT s n 0) (N + 1) 1 s (by omega) ⟨Nat.le_refl _, fun i j hj hij => hs i j hj (by omega)⟩ (fun f s hs => ?_) (fun f n s hn hs ih => ?_)
  case refine_1 =>
    unfold wX12_layVetoes_b22
    exact br_t (nI_lt (by omega) (by omega)) (h s (fun i j hi hj => hs.2 i j hj (by omega)))
  unfold wX12_layVetoes_b22
  refine br_f (nI_nlt (by omega) (by omega)) ?_
  obtain ⟨hn0, hs⟩ := hs
  obtain ⟨n, rfl⟩ : ∃ m, n = m + 1 := ⟨n - 1, by omega⟩
  refine loop_0 (fun f2 k (s2 : MJ) => wX12_layVetoes_b29 g (fun v1 v2 I J => wX12_layVetoes_b22 g Q f v1 v2 I J) Q f2 (nI N) (nI (n + 1)) (nI k) I s2) (fun k s2 => TT s2 (n + 1) k) 4 s hs (fun f2 s2 hs2 => ?_) (fun f2 k s2 hk hs2 ih2 => ?_)
  · unfold wX12_layVetoes_b29
    rw [nI_1]
    exact br_t (nI_le (a := 4) (Nat.le_refl _) (by decide)) (ih s2 ⟨by omega, fun i j hj hij => hs2 i j hj (by omega)⟩)
  · unfold wX12_layVetoes_b29
    refine br_f (nI_ge (b := 4) hk (by decide)) ?_
    have row : ∀ j, j < 4 → s2 32 0 (4 * n + j) = vT n j := fun j hj => hs2 n j hj (by omega)
    refine loop_0 (fun f3 v (d : Int64) => wX12_layVetoes_b40 g (fun v1 v2 I J => wX12_layVetoes_b22 g Q f v1 v2 I J) (fun v1 v2 v3 I J => wX12_layVetoes_b29 g (fun v1 v2 I J => wX12_layVetoes_b22 g Q f v1 v2 I J) Q f2 v1 v2 v3 I J) Q f3 (nI N) (nI (n + 1)) (nI k) d (nI v) I s2) (fun v d => d = if k = 0 then 0 else vsum (e11 n) (vT n (k - 1)) (vT n k) v) 11 0 (by split <;> rfl) (fun f3 d hd => ?_) (fun f3 v d hv hd ih3 => ?_)
    · unfold wX12_layVetoes_b40
      rw [ix4, cl_nI (by omega), nI_1]
      refine br_t (nI_le (a := 11) (Nat.le_refl _) (by decide)) ⟨vp_in_nI (by omega) (by decide), ih2 _ (fun i j hj hij => ?_)⟩
      rw [u3_same]
      by_cases e : 4 * i + j = 4 * (n + 1) + k
      · have e1 : i = n + 1 := by omega
        have e2 : j = k := by omega
        subst e1 e2
        rw [pk_uLs, hd]
        cases j with
        | zero => rfl
        | succ j => rfl
      · rw [pk_uLn e]; exact hs2 i j hj (by omega)
    · unfold wX12_layVetoes_b40
      refine br_f (nI_ge (b := 11) hv (by decide)) (sM_isUsed (by omega) hk row ?_)
      unfold wX12_layVetoes_b100
      rw [nI_pred, ix4, nI_1]
      by_cases e : 0 < k ∧ vT n k < Int32.toInt64 (nI v) * e11 n + vT n (k - 1)
      · rw [b2i_t e]
        refine br_f (by decide) (s_elevens (by omega) ?_)
        obtain ⟨k, rfl⟩ : ∃ m, k = m + 1 := ⟨k - 1, by omega⟩
        rw [show 4 * n + (k + 1) = 4 * n + k + 1 from rfl, nI_pred, cl_nI (by omega), row k (by omega)]
        refine ⟨vp_in_nI (by omega) (by decide), ih3 _ ?_⟩
        rw [hd, if_neg (by omega), if_neg (by omega)]
        show _ = vsum _ _ _ v + vstep _ _ _ v
        unfold vstep
        rw [if_pos e.2]
        rfl
      · rw [b2i_f e, cl_nI (by omega), row k hk]
        refine br_t rfl ⟨vp_in_nI (by omega) (by decide), ih3 _ ?_⟩
        rw [hd]
        by_cases e0 : k = 0
        · rw [if_pos e0, if_pos e0, e0, vT_0]; rfl
        · rw [if_neg e0, if_neg e0]
          show _ = vsum _ _ _ v + vstep _ _ _ v
          unfold vstep
          rw [if_neg (fun z => e ⟨by omega, z⟩)]
theorem ti_1 : (1 : Int32).toInt = 1 := by decide
theorem rng1 {a : Int32} {n : Nat} (hn : n < 2 ^ 31) (h : 1 ≤ a ∧ a ≤ nI n) : ∃ k, k + 1 ≤ n ∧ a = nI (k + 1) := by
  rw [ti_le, ti_le, nI_toInt hn, ti_1] at h
  refine ⟨a.toInt.toNat - 1, by omega, ?_⟩
  rw [show a.toInt.toNat - 1 + 1 = a.toInt.toNat by omega]
  exact nI_of_toInt (by omega)
theorem p_op25 : op25 Inv := by
  rintro g I J a1 a2 a3 ⟨V, nC, len, hV, hS⟩
  have hi : ∀ J, Inv g I J := fun J => hS.inv (J := J) hV
  unfold wX11_veto
  rw [eX_within]
  by_cases h1 : 1 ≤ a1 ∧ a1 ≤ 8
  case neg => simp [wX12_veto, eM_within, h1, b2i, hi]
  rw [b2i_t h1]
  refine br_f (by decide) ?_
  rw [eX_within]
  by_cases h2 : 0 ≤ a2 ∧ a2 ≤ 3
  case neg => simp [wX12_veto, eM_within, h1, h2, b2i, hi]
  rw [b2i_t h2]
  refine br_f (by decide) ?_
  rw [eX_within]
  by_cases h3 : 0 ≤ a3 ∧ a3 ≤ 10
  case neg => simp [wX12_veto, eM_within, h1, h2, h3, b2i, hi]
  rw [b2i_t h3]
  obtain ⟨n, hn, rfl⟩ := rng1 (n := 8) (by decide) h1
  obtain ⟨k, hk, rfl⟩ := rng (n := 3) (by decide) h2
  obtain ⟨v, hv, rfl⟩ := rng (n := 10) (by decide) h3
  refine br_t' (by decide) ?_
  have fin : ∀ J1, wX12_veto g (nI (n + 1)) (nI k) (nI v) I J1 (fun r2 I2 J2 => b2i (0 < k ∧ vT n k < Int32.toInt64 (nI v) * e11 n + vT n (k - 1)) = r2 ∧ Inv g I2 J2) := by
    intro J1
    unfold wX12_veto
    rw [eM_within, b2i_t h1]
    refine br_f (by decide) ?_
    rw [eM_within, b2i_t h2]
    refine br_f (by decide) ?_
    rw [eM_within, b2i_t h3]
    refine br_t' (by decide) (sM_layVetoes (by omega) (fun J2 hJ2 => sM_isUsed (by omega) (by omega) (fun j hj => hJ2 n j (by omega) hj) ?_))
    by_cases e : 0 < k ∧ vT n k < Int32.toInt64 (nI v) * e11 n + vT n (k - 1)
    · rw [b2i_t e]
      exact br_f (by decide) ⟨rfl, hi _⟩
    · rw [b2i_f e]
      exact br_t rfl ⟨rfl, hi _⟩
  cases k with
  | zero =>
    refine br_f' rfl ?_
    have F := fin J
    rw [b2i_f (by omega)] at F
    exact F
  | succ k =>
    refine br_t' (nI_ne0 (by omega) (by omega)) ?_
    rw [nI_pred]
    refine sX_expect (by omega) (fun J1 hJ1 => ?_)
    rw [nI_pred, cl_nI (by omega), cl_nI (by omega), hJ1 k (by omega), hJ1 (k + 1) (by omega)]
    refine ⟨vp_in_nI (by omega) (by decide), vp_in_nI (by omega) (by decide), ?_⟩
    have F := fin J1
    by_cases e : vT n (k + 1) < Int32.toInt64 (nI v) * e11 n + vT n k
    · rw [b2i_t ⟨by omega, e⟩] at F
      exact br_f (fun z => lg_le.mp z e) F
    · rw [b2i_f (fun z => e z.2)] at F
      exact br_t (lg_le.mpr e) F
theorem p_op26 : op26 Inv := by
  rintro g I J a1 a2 a3 ⟨V, nC, len, hV, hS⟩
  have hi : ∀ J, Inv g I J := fun J => hS.inv (J := J) hV
  unfold wX11_worth
  rw [eX_within]
  by_cases h1 : 1 ≤ a1 ∧ a1 ≤ 8
  case neg => simp [wX12_worth, eM_within, h1, b2i, hi]
  rw [b2i_t h1]
  refine br_f (by decide) ?_
  rw [eX_within]
  by_cases h2 : 0 ≤ a2 ∧ a2 ≤ 3
  case neg => simp [wX12_worth, eM_within, h1, h2, b2i, hi]
  rw [b2i_t h2]
  refine br_f (by decide) ?_
  rw [eX_isPart]
  by_cases hp : a3 = 0 ∨ a3 = 1
  case neg => simp [wX12_worth, eM_within, h1, h2, eM_isPart, hp, b2i, hi]
  rw [b2i_t hp]
  obtain ⟨n, hn, rfl⟩ := rng1 (n := 8) (by decide) h1
  obtain ⟨k, hk, rfl⟩ := rng (n := 3) (by decide) h2
  refine br_t' (by decide) (sX_expect hn (fun J1 hJ1 => ?_))
  rw [cl_nI (by omega), hJ1 k (by omega)]
  refine ⟨vp_in_nI (by omega) (by decide), sX_lowest (e11_ne _ (by omega)) ?_⟩
  try dsimp only
  unfold wX12_worth
  rw [eM_within, b2i_t h1]
  refine br_f (by decide) ?_
  rw [eM_within, b2i_t h2]
  refine br_f (by decide) ?_
  rw [eM_isPart, b2i_t hp]
  refine br_t' (by decide) (sM_layVetoes hn (fun J2 hJ2 => ?_))
  rw [ix4, cl_nI (by omega), hJ2 (n + 1) k (Nat.le_refl _) (by omega)]
  exact ⟨vp_in_nI (by omega) (by decide), s_elevens (by omega) (sM_lowest (e11_ne _ (by omega)) ⟨rfl, hi _⟩)⟩
end Veto
