/-! the ways of the balls: the class's tally and the model's table -/
def dpS (b : Int32) (W : Nat → Int64) (k : Nat) : Int64 := W k * Int32.toInt64 (10 - b) + (if k = 0 then 0 else W (k - 1) * Int32.toInt64 b)
def dp0 : Nat → Int64 := fun k => if k = 0 then 1 else 0
def dpM (bl : Nat → Int32) (sel : Nat → Bool) : Nat → Nat → Int64
  | 0 => dp0
  | n + 1 => if sel n then dpS (bl n) (dpM bl sel n) else dpM bl sel n
theorem dpS_hi {b : Int32} {W : Nat → Int64} {n : Nat} (h : ∀ k, n < k → W k = 0) : ∀ k, n + 1 < k → dpS b W k = 0 := by
  intro k hk
  unfold dpS
  rw [h k (by omega), if_neg (by omega), h (k - 1) (by omega)]
  simp
theorem dpM_hi {bl : Nat → Int32} {sel : Nat → Bool} : ∀ n k, cnt sel n < k → dpM bl sel n k = 0
  | 0, k, h => by
    unfold dpM dp0
    rw [if_neg (by unfold cnt at h; omega)]
  | n + 1, k, h => by
    rw [cnt_s] at h
    unfold dpM
    by_cases e : sel n = true
    · rw [if_pos e] at h ⊢
      exact dpS_hi (dpM_hi n) k h
    · rw [if_neg e] at h ⊢
      exact dpM_hi n k h
/-- the class's tally holds n balls, W ways -/
def Tal (I : MI) (J : MJ) (W : Nat → Int64) (n : Nat) : Prop := I 6 0 1 = nI n ∧ n ≤ 8 ∧ (∀ k, k ≤ n → J 7 0 k = W k) ∧ (∀ k, n < k → W k = 0) ∧ J 6 0 2 = t10 n
section Tally
variable {g : GS} {V : MV} {nC len : Nat} {I : MI} {J : MJ}
theorem sX_begin {Q : MI → MJ → Prop} (hS : St g V nC len I) (h : ∀ I1 J1, St g V nC len I1 → Tal I1 J1 dp0 0 → Q I1 J1) : wX7_begin g I J Q := by
  unfold wX7_begin
  refine ⟨vp_in_nI (n := 0) (by decide) (by decide), nm_e (h _ _ (hS.x (by decide)) ⟨?_, by decide, ?_, ?_, ?_⟩)⟩
  · rw [u3_same, pk_us]; rfl
  · intro k hk
    rw [show k = 0 by omega, u3_same, show Int32.toNatClampNeg 0 = 0 from rfl, pk_uLs]
    rfl
  · intro k hk
    unfold dp0
    rw [if_neg (by omega)]
  · rw [u3_ne _ _ (by decide), u3_same, pk_uLs]
    rfl
theorem sX_put {b : Int32} {W : Nat → Int64} {n : Nat} {Q : MI → MJ → Prop} (hS : St g V nC len I) (hT : Tal I J W n) (hn : n < 8) (h : ∀ I1 J1, St g V nC len I1 → Tal I1 J1 (dpS b W) (n + 1) → Q I1 J1) : wX7_put g b I J Q := by
  obtain ⟨t1, t2, t3, t4, t5⟩ := hT
  unfold wX7_put
  have e1 : (u3 I 6 0 (upd (I 6 0) 1 ((I 6 0 1) + 1))) 6 0 1 = nI (n + 1) := by rw [u3_same, pk_us, t1, nI_1]
  rw [e1, cl_nI (by omega)]
  refine br_t (by rw [t1]; exact nI_lt (b := 8) hn (by decide)) ⟨vp_in_nI (by omega) (by decide), n + 2, ?_⟩
  have hS1 : St g V nC len (u3 I 6 0 (upd (I 6 0) 1 ((I 6 0 1) + 1))) := hS.x (by decide)
  revert hS1 e1
  generalize (u3 I 6 0 (upd (I 6 0) 1 ((I 6 0 1) + 1))) = I2
  intro e1 hS1
  have key : ∀ i J2, i ≤ n + 1 → (∀ k, k ≤ n + 1 → J2 7 0 k = if k ≤ i then W k else dpS b W k) → J2 6 0 2 = t10 n → wX7_put_b40 g Q (i + 1) b (10 - b) (nI i) I2 J2 := by
    intro i
    induction i with
    | zero =>
      intro J2 hi hJ h6
      unfold wX7_put_b40
      have e0 : Int32.toNatClampNeg 0 = 0 := rfl
      refine br_t (nI_lt (a := 0) (b := 1) (by decide) (by decide)) ⟨vp_in_nI (n := 0) (by decide) (by decide), vp_in_nI (n := 0) (by decide) (by decide), nm_e ?_⟩
      rw [e0]
      refine h _ _ hS1 ⟨e1, by omega, ?_, dpS_hi t4, ?_⟩
      · intro k hk
        rw [u3_ne _ _ (by decide), u3_same]
        by_cases e : k = 0
        · subst e
          rw [pk_uLs, hJ 0 (by omega), if_pos (by omega)]
          unfold dpS
          simp
        · rw [pk_uLn e, hJ k hk, if_neg (by omega)]
      · rw [u3_same, pk_uLs, u3_ne _ _ (by decide), h6]
        rfl
    | succ i ih =>
      intro J2 hi hJ h6
      unfold wX7_put_b40
      rw [nI_pred, pk_m1, cl_nI (by omega), cl_nI (by omega)]
      refine br_f (nI_nlt (a := i + 1) (b := 1) (by omega) (by omega)) ⟨vp_in_nI (by omega) (by decide), vp_in_nI (by omega) (by decide), vp_in_nI (by omega) (by decide), nm_e ?_⟩
      refine ih _ (by omega) ?_ ?_
      · intro k hk
        rw [u3_same]
        by_cases e : k = i + 1
        · subst e
          rw [pk_uLs, if_neg (by omega), hJ _ hk, hJ i (by omega), if_pos (by omega), if_pos (by omega)]
          unfold dpS
          rw [if_neg (by omega)]
          rfl
        · rw [pk_uLn e, hJ k hk]
          by_cases e2 : k ≤ i
          · rw [if_pos (by omega), if_pos e2]
          · rw [if_neg (by omega), if_neg e2]
      · rw [u3_ne _ _ (by decide)]
        exact h6
  refine key (n + 1) _ (by omega) ?_ ?_
  · intro k hk
    rw [u3_same, if_pos hk]
    by_cases e : k = n + 1
    · subst e
      rw [pk_uLs, t4 _ (by omega)]
    · rw [pk_uLn e]
      exact t3 k (by omega)
  · rw [u3_ne _ _ (by decide)]
    exact t5
theorem sX_waysTo {W : Nat → Int64} {n k : Nat} {Q : Int64 → MI → MJ → Prop} (hT : Tal I J W n) (hk : k < 2 ^ 31) (h : Q (W k) I J) : wX7_waysTo g (nI k) I J Q := by
  obtain ⟨t1, t2, t3, t4, t5⟩ := hT
  unfold wX7_waysTo
  rw [t1]
  refine br_f (nI_pos hk) ?_
  by_cases e : n < k
  · rw [t4 k e] at h
    exact br_t (nI_lt e hk) h
  · refine br_f (nI_nlt (by omega) (by omega)) ⟨vp_in_nI (by omega) (by decide), ?_⟩
    rw [cl_nI hk, t3 k (by omega)]
    exact h
theorem cnt_mono (f : Nat → Bool) {a : Nat} : ∀ b, a ≤ b → cnt f a ≤ cnt f b
  | 0, h => by rw [show a = 0 by omega]; exact Nat.le_refl _
  | b + 1, h => by
    by_cases e : a = b + 1
    · rw [e]; exact Nat.le_refl _
    · rw [cnt_s]
      exact Nat.le_trans (cnt_mono f b (by omega)) (Nat.le_add_right _ _)
theorem sX_tallyBalls {c cs : Nat} {w : Int32} {Q : MI → MJ → Prop} (hV : VOK g V nC len) (hS : St g V nC len I) (hc : c < nC) (hcs : cs < 256) (h : ∀ I1 J1, St g V nC len I1 → Tal I1 J1 (dpM (vBlack V (decide (¬ w = 0)) c) cs.testBit g.2.1) (cnt cs.testBit g.2.1) → Q I1 J1) : wX11_tallyBalls g (nI c) (nI cs) w I J Q := by
  have hp8 := vok_p hV
  unfold wX11_tallyBalls
  refine sX_begin hS (fun I1 J1 hS1 hT1 => ⟨g.2.1 + 1, ?_⟩)
  have key : ∀ d i I J, i + d = g.2.1 → St g V nC len I → Tal I J (dpM (vBlack V (decide (¬ w = 0)) c) cs.testBit i) (cnt cs.testBit i) → wX11_tallyBalls_b10 g Q (d + 1) (nI c) (nI cs) w (nI i) I J := by
    intro d
    induction d with
    | zero =>
      intro i I J hi hS hT
      have : i = g.2.1 := by omega
      subst this
      unfold wX11_tallyBalls_b10
      rw [x10 hS]
      exact br_t (nI_le (Nat.le_refl _) (by omega)) (h _ _ hS hT)
    | succ d ih =>
      intro i I J hi hS hT
      unfold wX11_tallyBalls_b10
      rw [x10 hS, eX_isOneOf hcs (by omega), cl_nI (by omega)]
      refine br_f (nI_ge (by omega) (by omega)) ?_
      have h1 := cnt_le cs.testBit i
      by_cases hm : cs.testBit i = true
      · rw [b2i_t hm]
        refine br_f (by decide) ⟨vp_in_nI (by omega) (by decide), br_f' (by omega) (sX_blackOf hV hS (by omega) hc ?_)⟩
        refine sX_put hS hT (by omega) (fun I3 J3 hS3 hT3 => ?_)
        unfold wX11_tallyBalls_b48
        rw [nI_1]
        refine ih (i + 1) I3 J3 (by omega) hS3 ?_
        rw [cnt_s, if_pos hm]
        unfold dpM
        rw [if_pos hm]
        exact hT3
      · rw [b2i_f hm]
        refine br_t rfl ?_
        unfold wX11_tallyBalls_b48
        rw [nI_1]
        refine ih (i + 1) I J (by omega) hS ?_
        rw [cnt_s, if_neg hm]
        unfold dpM
        rw [if_neg hm]
        exact hT
  exact key g.2.1 0 I1 J1 (by omega) hS1 hT1
/-- who puts a ball: those who came, but one that may be left out -/
def selO (cs : Nat) (lo : Int32) : Nat → Bool := fun m => cs.testBit m && decide (¬ nI m = lo)
theorem sM_layWaysF {r c cs came : Nat} {lo : Int32} {Q : MI → MJ → Prop} (hV : VOK g V nC len) (hS : St g V nC len I) (hr : r < g.2.2) (hc : c < nC) (hcs : cs < 256) (hcm : came ≤ 100) (h : ∀ J1, (∀ k, k < 9 → J1 31 0 k = dpM (vBlack V (wat V r came) c) (selO cs lo) g.2.1 k) → J1 17 = J 17 → Q I J1) : wX12_layWays g (nI r) (nI c) (nI cs) (nI came) lo I J Q := by
  have hp8 := vok_p hV
  obtain ⟨F, hF0⟩ : ∃ F, J 17 = F := ⟨_, rfl⟩
  rw [hF0] at h
  have key : ∀ d i J, i + d = g.2.1 → (∀ k, k < 9 → J 31 0 k = dpM (vBlack V (wat V r came) c) (selO cs lo) i k) → J 17 = F → wX12_layWays_b36 g Q (d + 1) (nI r) (nI c) (nI cs) (nI came) lo (nI i) I J := by
    intro d
    induction d with
    | zero =>
      intro i J hi hT hF
      have : i = g.2.1 := by omega
      subst this
      unfold wX12_layWays_b36
      rw [m0 hV hS]
      exact br_t (nI_le (Nat.le_refl _) (by omega)) (h _ hT hF)
    | succ d ih =>
      intro i J hi hT hF
      unfold wX12_layWays_b36
      rw [m0 hV hS, eM_has hcs (by omega)]
      refine br_f (nI_ge (by omega) (by omega)) ?_
      have skip : selO cs lo i = false → wX12_layWays_b132 g (fun v1 v2 v3 v4 v5 v6 I J => wX12_layWays_b36 g Q (d + 1) v1 v2 v3 v4 v5 v6 I J) Q (nI r) (nI c) (nI cs) (nI came) lo (nI i) I J := by
        intro e
        unfold wX12_layWays_b132
        rw [nI_1]
        refine ih (i + 1) J (by omega) ?_ hF
        unfold dpM
        rw [e]
        exact hT
      by_cases hm : cs.testBit i = true
      · rw [b2i_t hm]
        refine br_f (by decide) ?_
        by_cases hl : nI i = lo
        · exact br_t hl (skip (by simp [selO, hl]))
        · refine br_f hl (sM_blackBy hV hS hr (by omega) hc hcm ⟨10, ?_⟩)
          have se : selO cs lo i = true := by simp [selO, hm, hl]
          have key2 : ∀ e J2, e ≤ 9 → (∀ k, k < 9 → J2 31 0 k = if k < e then dpM (vBlack V (wat V r came) c) (selO cs lo) i k else dpM (vBlack V (wat V r came) c) (selO cs lo) (i + 1) k) → J2 17 = F → wX12_layWays_b77 g (fun v1 v2 v3 v4 v5 v6 I J => wX12_layWays_b36 g Q (d + 1) v1 v2 v3 v4 v5 v6 I J) Q (e + 1) (nI r) (nI c) (nI cs) (nI came) lo (nI i) (vBlack V (wat V r came) c i) (nI e - 1) I J2 := by
            intro e
            induction e with
            | zero =>
              intro J2 _ hJ2 hF2
              unfold wX12_layWays_b77
              refine br_t (by decide) ?_
              unfold wX12_layWays_b132
              rw [nI_1]
              refine ih (i + 1) J2 (by omega) (fun k hk => ?_) hF2
              rw [hJ2 k hk, if_neg (by omega)]
            | succ e ih2 =>
              intro J2 he hJ2 hF2
              unfold wX12_layWays_b77
              rw [nI_pred]
              have up : ∀ (t : Int64), t = dpM (vBlack V (wat V r came) c) (selO cs lo) (i + 1) e → wX12_layWays_b77 g (fun v1 v2 v3 v4 v5 v6 I J => wX12_layWays_b36 g Q (d + 1) v1 v2 v3 v4 v5 v6 I J) Q (e + 1) (nI r) (nI c) (nI cs) (nI came) lo (nI i) (vBlack V (wat V r came) c i) (nI e + (-1)) I (u3 J2 31 0 (vp_updL (J2 31 0) e t)) := by
                intro t ht
                have := ih2 (u3 J2 31 0 (vp_updL (J2 31 0) e t)) (by omega) (fun k hk => by
                  rw [u3_same]
                  by_cases ee : k = e
                  · subst ee
                    rw [pk_uLs, if_neg (by omega), ht]
                  · rw [pk_uLn ee, hJ2 k hk]
                    by_cases e2 : k < e
                    · rw [if_pos (by omega), if_pos e2]
                    · rw [if_neg (by omega), if_neg e2]) (by rw [← hF2]; funext b; exact u3_ne _ _ (by omega))
                rw [show nI e + (-1) = nI e - 1 from (Int32.sub_eq_add_neg _ _).symm]
                exact this
              refine br_f (nI_pos (by omega)) ⟨vp_in_nI (by omega) (by decide), ?_⟩
              have hE : dpM (vBlack V (wat V r came) c) (selO cs lo) (i + 1) e = dpS (vBlack V (wat V r came) c i) (dpM (vBlack V (wat V r came) c) (selO cs lo) i) e := by
                rw [dpM, if_pos se]
              cases e with
              | zero =>
                refine br_f' rfl ?_
                unfold wX12_layWays_b124
                rw [cl_nI (by decide)]
                refine ⟨vp_in_nI (by omega) (by decide), up _ ?_⟩
                rw [hE, hJ2 0 (by omega), if_pos (by omega)]
                unfold dpS
                rw [if_pos rfl]
              | succ e =>
                refine br_t' (nI_ne0 (by omega) (by omega)) ⟨by rw [nI_pred]; exact vp_in_nI (by omega) (by decide), ?_⟩
                unfold wX12_layWays_b124
                rw [nI_pred, cl_nI (by omega), cl_nI (by omega)]
                refine ⟨vp_in_nI (by omega) (by decide), up _ ?_⟩
                rw [hE, hJ2 e (by omega), if_pos (by omega), hJ2 (e + 1) (by omega), if_pos (by omega)]
                unfold dpS
                rw [if_neg (by omega)]
                rfl
          refine key2 9 J (by omega) (fun k hk => ?_) hF
          rw [if_pos hk, hT k hk]
      · rw [b2i_f hm]
        exact br_t rfl (skip (by simp [selO, hm]))
  have key0 : ∀ d i J, i + d = 9 → (∀ k, k < i → J 31 0 k = dp0 k) → J 17 = F → wX12_layWays_b3 g Q (d + 1) (nI r) (nI c) (nI cs) (nI came) lo (nI i) I J := by
    intro d
    induction d with
    | zero =>
      intro i J hi hT hF
      have : i = 9 := by omega
      subst this
      unfold wX12_layWays_b3
      exact br_t (nI_le (a := 9) (Nat.le_refl _) (by omega)) ⟨g.2.1 + 1, key g.2.1 0 J (by omega) (fun k hk => hT k hk) hF⟩
    | succ d ih =>
      intro i J hi hT hF
      unfold wX12_layWays_b3
      refine br_f (nI_ge (b := 9) (by omega) (by omega)) ?_
      have up : ∀ t : Int64, t = dp0 i → wX12_layWays_b26 g (fun v1 v2 v3 v4 v5 v6 I J => wX12_layWays_b3 g Q (d + 1) v1 v2 v3 v4 v5 v6 I J) Q (nI r) (nI c) (nI cs) (nI came) lo (nI i) t (nI i) I J := by
        intro t ht
        unfold wX12_layWays_b26
        rw [cl_nI (by omega), nI_1]
        refine ⟨vp_in_nI (by omega) (by decide), ih (i + 1) _ (by omega) (fun k hk => ?_) (by rw [← hF]; funext b; exact u3_ne _ _ (by omega))⟩
        rw [u3_same]
        by_cases e : k = i
        · rw [e, pk_uLs, ht]
        · rw [pk_uLn e]
          exact hT k (by omega)
      by_cases e : i = 0
      · subst e
        exact br_f' rfl (up 1 rfl)
      · exact br_t' (nI_ne0 (by omega) (by omega)) (up 0 (by unfold dp0; rw [if_neg e]))
  exact ⟨10, key0 9 0 J (by omega) (fun k hk => absurd hk (Nat.not_lt_zero k)) hF0⟩
theorem sM_layWays {r c cs came : Nat} {lo : Int32} {Q : MI → MJ → Prop} (hV : VOK g V nC len) (hS : St g V nC len I) (hr : r < g.2.2) (hc : c < nC) (hcs : cs < 256) (hcm : came ≤ 100) (h : ∀ J1, (∀ k, k < 9 → J1 31 0 k = dpM (vBlack V (wat V r came) c) (selO cs lo) g.2.1 k) → Q I J1) : wX12_layWays g (nI r) (nI c) (nI cs) (nI came) lo I J Q := sM_layWaysF hV hS hr hc hcs hcm (fun J1 h1 _ => h J1 h1)
end Tally
