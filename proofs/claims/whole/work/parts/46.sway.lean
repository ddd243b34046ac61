/-! sway, who, heard -/
theorem lg_le {a b : Int64} : lg_cmp a b ≤ 0 ↔ ¬ b < a := by
  unfold lg_cmp
  by_cases h : b < a
  · simp only [if_pos h]
    simp [h]
  · rw [if_neg h]
    by_cases h2 : a = b
    · rw [if_pos h2]; simp [h]
    · rw [if_neg h2]; simp [h]
theorem lg_ge {a b : Int64} : 0 ≤ lg_cmp a b ↔ (b < a ∨ a = b) := by
  unfold lg_cmp
  by_cases h : b < a
  · simp only [if_pos h]
    simp [h]
  · rw [if_neg h]
    by_cases h2 : a = b
    · rw [if_pos h2]; simp [h, h2]
    · rw [if_neg h2]; simp [h, h2]
def gapV (V : MV) (r c cs nP m : Nat) : Int64 := if 0 < inV V r c cs nP - 100 * inV V r c (cut cs m) nP then inV V r c cs nP - 100 * inV V r c (cut cs m) nP else -(inV V r c cs nP - 100 * inV V r c (cut cs m) nP)
def swV (V : MV) (r c cs nP : Nat) : Nat → Int32 × Int64
  | 0 => (-1, 0)
  | m + 1 => if cs.testBit m = true ∧ ((swV V r c cs nP m).1 = -1 ∨ ¬ lg_cmp (gapV V r c cs nP m) (swV V r c cs nP m).2 ≤ 0) then (nI m, gapV V r c cs nP m) else swV V r c cs nP m
theorem swV_s (V : MV) (r c cs nP m : Nat) : swV V r c cs nP (m + 1) = if cs.testBit m = true ∧ ((swV V r c cs nP m).1 = -1 ∨ ¬ lg_cmp (gapV V r c cs nP m) (swV V r c cs nP m).2 ≤ 0) then (nI m, gapV V r c cs nP m) else swV V r c cs nP m := rfl
section Sway
variable {g : GS} {V : MV} {nC len : Nat} {I : MI} {J : MJ}
theorem gap_pos {r c cs m : Nat} (hV : VOK g V nC len) (hc : c < nC) (hcs : cs < 2 ^ g.2.1) (hm : m < g.2.1) (hb : cs.testBit m = true) : (-1 : Int64) < gapV V r c cs g.2.1 m := by
  have hp8 := vok_p hV
  obtain ⟨x, hx, ex⟩ := inV_N (r := r) hV hc hcs
  obtain ⟨y, hy, ey⟩ := inV_N (r := r) hV hc (cut_lt (m := m) hcs)
  have e1 := cut_pc cs (lt256 hcs hp8) m (by omega) hb
  have h8 := pc8 hcs hp8
  have b1 : 10 ^ pc cs ≤ 10 ^ 8 := Nat.pow_le_pow_right (by decide) h8
  have b2 : 10 ^ pc (cut cs m) ≤ 10 ^ 8 := Nat.pow_le_pow_right (by decide) (by omega)
  have b3 : 10 ^ pc cs * 10 ^ pc cs ≤ 10 ^ 8 * 10 ^ 8 := Nat.mul_le_mul b1 b1
  have b4 : 10 ^ pc (cut cs m) * 10 ^ pc (cut cs m) ≤ 10 ^ 8 * 10 ^ 8 := Nat.mul_le_mul b2 b2
  have hd : (inV V r c cs g.2.1 - 100 * inV V r c (cut cs m) g.2.1).toInt = (x : Int) - 100 * y := by
    rw [ex, ey, show (100 : Int64) = lN 100 from rfl, lN_mul, Int64.toInt_sub, pk_lT (by omega), pk_lT (by omega)]
    rw [Int.bmod_eq_of_le (by omega) (by omega)]
    omega
  unfold gapV
  have m1 : (-1 : Int64).toInt = -1 := by decide
  have z0 : (0 : Int64).toInt = 0 := by decide
  split
  · rename_i h
    rw [Int64.lt_iff_toInt_lt, z0] at h
    rw [Int64.lt_iff_toInt_lt, m1]
    omega
  · rename_i h
    rw [Int64.lt_iff_toInt_lt, z0] at h
    rw [Int64.lt_iff_toInt_lt, m1, Int64.toInt_neg, hd]
    rw [hd] at h
    rw [Int.bmod_eq_of_le (by omega) (by omega)]
    omega
theorem p_op20 : op20 Inv := by
  rintro g I J a1 a2 a3 ⟨V, nC, len, hV, hS⟩
  have hr6 := vok_r hV
  have hp8 := vok_p hV
  have hc6 := vok_c hV
  have hi : ∀ J, Inv g I J := fun J => hS.inv (J := J) hV
  unfold wX11_sway
  rw [eX_ruleAt (x9 hS) hr6]
  cases h : ixOf a1 g.2.2 with
  | none => simp [wX12_sway, eM_areThere hV hS, h, b2i, hi]
  | some r =>
    obtain ⟨hr, rfl⟩ := ixOf_some h
    refine ⟨fun k => (by cases k), fun r' hr' => ?_⟩
    cases hr'
    rw [eX_isCandidate (x11 hS) hc6]
    cases h2 : ixOf a2 nC with
    | none => simp [wX12_sway, eM_areThere hV hS, h2, b2i, hi]
    | some c =>
      obtain ⟨hc, rfl⟩ := ixOf_some h2
      rw [bs_some]
      refine br_t' (by decide) ?_
      rw [eX_areComers (x10 hS) hp8]
      cases h3 : csOf a3 g.2.1 with
      | none => simp [wX12_sway, eM_areThere hV hS, h, h2, eM_areComers (m0 hV hS) hp8, h3, b2i, hi]
      | some cs =>
        obtain ⟨q1, q2, rfl⟩ := csOf_some h3
        have q3 := lt256 q2 hp8
        have h8 := pc8 q2 hp8
        rw [bs_some]
        refine br_t' (by decide) (sX_inWays hV hS hr hc q2 (fun I1 J1 hS1 => ⟨g.2.1 + 1, ?_⟩))
        have keyM : ∀ (Q : Int32 → MI → MJ → Prop) (I : MI), St g V nC len I → (∀ J1, Q (swV V r c cs g.2.1 g.2.1).1 I J1) → ∀ d i J, i + d = g.2.1 → wX12_sway_b41 g Q (d + 1) (nI r) (nI c) (nI cs) (inV V r c cs g.2.1) (swV V r c cs g.2.1 i).1 (swV V r c cs g.2.1 i).2 (nI i) I J := by
          intro Q I hS h d
          induction d with
          | zero =>
            intro i J hi
            have : i = g.2.1 := by omega
            subst this
            unfold wX12_sway_b41
            rw [m0 hV hS]
            exact br_t (nI_le (Nat.le_refl _) (by omega)) (h _)
          | succ d ih =>
            intro i J hi
            unfold wX12_sway_b41
            rw [m0 hV hS, eM_has q3 (by omega)]
            refine br_f (nI_ge (by omega) (by omega)) ?_
            have ih2 := fun J1 => ih (i + 1) J1 (by omega)
            rw [swV_s] at ih2
            by_cases hb : cs.testBit i = true
            case neg =>
              rw [b2i_f hb]
              rw [if_neg (by simp [hb])] at ih2
              unfold wX12_sway_b148
              rw [nI_1]
              exact br_t rfl (ih2 J)
            rw [b2i_t hb, cut_ok cs q3 i (by omega)]
            refine br_f (by decide) (sM_inBy hV hS hr hc (cut_lt q2) (fun J1 => ?_))
            have ih2 := ih2 J1
            have go : wX12_sway_b97 g (fun v1 v2 v3 v4 v6 v7 v9 I J => wX12_sway_b41 g Q (d + 1) v1 v2 v3 v4 v6 v7 v9 I J) Q (nI r) (nI c) (nI cs) (inV V r c cs g.2.1) (swV V r c cs g.2.1 i).1 (swV V r c cs g.2.1 i).2 (nI i) (gapV V r c cs g.2.1 i) I J1 := by
              unfold wX12_sway_b97
              have yes : ((swV V r c cs g.2.1 i).1 = -1 ∨ ¬ lg_cmp (gapV V r c cs g.2.1 i) (swV V r c cs g.2.1 i).2 ≤ 0) → wX12_sway_b113 g (fun v1 v2 v3 v4 v6 v7 v9 I J => wX12_sway_b41 g Q (d + 1) v1 v2 v3 v4 v6 v7 v9 I J) Q (nI r) (nI c) (nI cs) (inV V r c cs g.2.1) (swV V r c cs g.2.1 i).1 (swV V r c cs g.2.1 i).2 (nI i) (gapV V r c cs g.2.1 i) I J1 := by
                intro hy
                rw [if_pos ⟨hb, hy⟩] at ih2
                unfold wX12_sway_b113 wX12_sway_b118 wX12_sway_b132 wX12_sway_b146 wX12_sway_b148
                rw [nI_1]
                exact br_f (by decide) (br_f (by decide) ih2)
              by_cases e1 : (swV V r c cs g.2.1 i).1 = -1
              · exact br_t e1 (yes (Or.inl e1))
              · refine br_f e1 ?_
                by_cases e2 : lg_cmp (gapV V r c cs g.2.1 i) (swV V r c cs g.2.1 i).2 ≤ 0
                · refine br_t e2 ?_
                  rw [if_neg (by simp [e1, e2])] at ih2
                  unfold wX12_sway_b118 wX12_sway_b132 wX12_sway_b146 wX12_sway_b148
                  rw [nI_1]
                  exact br_t rfl (br_t rfl ih2)
                · exact br_f e2 (yes (Or.inr e2))
            unfold gapV at go
            by_cases hz : 0 < inV V r c cs g.2.1 - 100 * inV V r c (cut cs i) g.2.1
            · rw [if_pos hz] at go
              exact br_t (lg_ge.mpr (Or.inl hz)) go
            · rw [if_neg hz] at go
              by_cases hz2 : inV V r c cs g.2.1 - 100 * inV V r c (cut cs i) g.2.1 = 0
              · rw [hz2] at go ⊢
                exact br_t (lg_ge.mpr (Or.inr rfl)) go
              · exact br_f (fun k => (lg_ge.mp k).elim hz hz2) go
        have fin : ∀ I1 J1, St g V nC len I1 → wX12_sway g (nI r) (nI c) (nI cs) I1 J1 (fun r2 I2 J2 => (swV V r c cs g.2.1 g.2.1).1 = r2 ∧ Inv g I2 J2) := by
          intro I1 J1 hS1
          unfold wX12_sway
          rw [eM_areThere hV hS1, h, h2, b2i_t (by simp)]
          refine br_t' (by decide) ?_
          rw [eM_areComers (m0 hV hS1) hp8, h3, bs_some]
          exact br_t' (by decide) (sM_inBy hV hS1 hr hc q2 (fun J2 => ⟨g.2.1 + 1, keyM _ I1 hS1 (fun J1 => ⟨rfl, hS1.inv hV⟩) g.2.1 0 J2 (by omega)⟩))
        have key : ∀ d i I J v, i + d = g.2.1 → St g V nC len I → v = (if (swV V r c cs g.2.1 i).1 = -1 then -1 else (swV V r c cs g.2.1 i).2) → wX11_sway_b55 g (fun r1 I1 J1 => wX12_sway g (nI r) (nI c) (nI cs) I1 J1 (fun r2 I2 J2 => r1 = r2 ∧ Inv g I2 J2)) (d + 1) (nI c) (nI cs) r (inV V r c cs g.2.1) (swV V r c cs g.2.1 i).1 v (nI i) I J := by
          intro d
          induction d with
          | zero =>
            intro i I J v hi hS hv
            have : i = g.2.1 := by omega
            subst this
            unfold wX11_sway_b55
            rw [x10 hS]
            exact br_t (nI_le (Nat.le_refl _) (by omega)) (fin I J hS)
          | succ d ih =>
            intro i I J v hi hS hv
            unfold wX11_sway_b55
            rw [x10 hS, eX_isOneOf q3 (by omega)]
            refine br_f (nI_ge (by omega) (by omega)) ?_
            have ih2 := fun I1 J1 v hS1 => ih (i + 1) I1 J1 v (by omega) hS1
            unfold wX11_sway_b120
            rw [nI_1]
            by_cases hb : cs.testBit i = true
            case neg =>
              rw [b2i_f hb]
              rw [show swV V r c cs g.2.1 (i + 1) = swV V r c cs g.2.1 i by rw [swV_s, if_neg (by simp [hb])]] at ih2
              exact br_t rfl (ih2 I J v hS hv)
            rw [b2i_t hb, cut_ok cs q3 i (by omega)]
            refine br_f (by decide) (sX_inWays hV hS hr hc (cut_lt q2) (fun I1 J1 hS1 => ?_))
            have hg := gap_pos (r := r) hV hc q2 (show i < g.2.1 by omega) hb
            have ge : (if 0 < inV V r c cs g.2.1 - 100 * inV V r c (cut cs i) g.2.1 then inV V r c cs g.2.1 - 100 * inV V r c (cut cs i) g.2.1 else -(inV V r c cs g.2.1 - 100 * inV V r c (cut cs i) g.2.1)) = gapV V r c cs g.2.1 i := rfl
            rw [ge]
            have n1 : ¬ nI i = -1 := nI_neg i (by omega)
            by_cases e1 : (swV V r c cs g.2.1 i).1 = -1
            · rw [if_pos e1] at hv
              rw [show swV V r c cs g.2.1 (i + 1) = (nI i, gapV V r c cs g.2.1 i) by rw [swV_s, if_pos ⟨hb, Or.inl e1⟩]] at ih2
              refine br_f (by rw [hv, lg_le]; simp [hg]) (ih2 I1 J1 _ hS1 ?_)
              rw [if_neg n1]
            · rw [if_neg e1] at hv
              rw [hv]
              by_cases e2 : lg_cmp (gapV V r c cs g.2.1 i) (swV V r c cs g.2.1 i).2 ≤ 0
              · rw [show swV V r c cs g.2.1 (i + 1) = swV V r c cs g.2.1 i by rw [swV_s, if_neg (by simp [e1, e2])]] at ih2
                refine br_t e2 (ih2 I1 J1 _ hS1 ?_)
                rw [if_neg e1]
              · rw [show swV V r c cs g.2.1 (i + 1) = (nI i, gapV V r c cs g.2.1 i) by rw [swV_s, if_pos ⟨hb, Or.inr e2⟩]] at ih2
                refine br_f e2 (ih2 I1 J1 _ hS1 ?_)
                rw [if_neg n1]
        exact key g.2.1 0 I1 J1 (-1) (by omega) hS1 rfl
end Sway
