/-! who, heard -/
def whA (W : Nat → Int64) (b : Int32) (k : Nat) : Int64 := if k = 0 then 0 else W (k - 1) * Int32.toInt64 b
def whB (W : Nat → Int64) (b : Int32) (k : Nat) : Int64 := W k * Int32.toInt64 (10 - b)
def whF (V : MV) (r came : Nat) (a : Int32) (k : Nat) : Bool := if a = -1 then shB V r k came else decide (nI k = a)
theorem sumS_add {A B : Nat → Int64} {f : Nat → Bool} : ∀ n, sumS (fun k => A k + B k) f n = sumS A f n + sumS B f n
  | 0 => rfl
  | n + 1 => by
    rw [sumS_s, sumS_s, sumS_s, sumS_add n]
    by_cases e : f n = true
    · rw [if_pos e, if_pos e, if_pos e, Int64.add_assoc, Int64.add_assoc, ← Int64.add_assoc (A n), ← Int64.add_assoc (sumS B f n), Int64.add_comm (sumS B f n) (A n), Int64.add_assoc (A n)]
    · rw [if_neg e, if_neg e, if_neg e, Int64.add_zero, Int64.add_zero, Int64.add_zero]
theorem sumN_mono {f g : Nat → Nat} (h : ∀ k, f k ≤ g k) : ∀ n, sumN f n ≤ sumN g n
  | 0 => Nat.le_refl _
  | n + 1 => by
    have := sumN_mono h n
    have := h n
    rw [sumN, sumN]
    omega
theorem lN0 {a : Nat} (h : a < 2 ^ 63) (e : lN a = 0) : a = 0 := (pk_lEQ (b := 0) h (by decide)).mp e
theorem wh_zero {W : Nat → Int64} {Wn : Nat → Nat} {z : Nat} {f : Nat → Bool} (hz : z ≤ 10) (hW : ∀ k, W k = lN (Wn k)) (hs : sumN Wn 9 ≤ 10 ^ 8) (h : sumS (whA W (nI z)) f 9 + sumS (whB W (nI z)) f 9 = 0) : sumS (whA W (nI z)) f 9 = 0 := by
  have eA : ∀ k, whA W (nI z) k = lN (if k = 0 then 0 else Wn (k - 1) * z) := by
    intro k
    unfold whA
    by_cases e : k = 0
    · rw [if_pos e, if_pos e]; rfl
    · rw [if_neg e, if_neg e, hW, nI_l (by omega), lN_mul]
  have eB : ∀ k, whB W (nI z) k = lN (Wn k * (10 - z)) := by
    intro k
    unfold whB
    rw [hW, ten_sub hz, nI_l (by omega), lN_mul]
  rw [sumS_N eA, sumS_N eB, lN_add] at h
  rw [sumS_N eA]
  have b0 : sumN (dpNS z Wn) 9 ≤ 10 * 10 ^ 8 := by
    rw [sumN_S hz]
    have h1 := sumN_p Wn 9
    have h2 : z * sumN Wn (9 - 1) ≤ z * sumN Wn 9 := Nat.mul_le_mul_left _ h1
    have h3 : (10 - z) * sumN Wn 9 + z * sumN Wn 9 = 10 * sumN Wn 9 := by
      rw [← Nat.add_mul, show 10 - z + z = 10 by omega]
    omega
  have b1 : sumNf (fun k => if k = 0 then 0 else Wn (k - 1) * z) f 9 ≤ 10 * 10 ^ 8 := Nat.le_trans (sumNf_le _ _ 9) (Nat.le_trans (sumN_mono (fun k => Nat.le_add_left _ _) 9) b0)
  have b2 : sumNf (fun k => Wn k * (10 - z)) f 9 ≤ 10 * 10 ^ 8 := Nat.le_trans (sumNf_le _ _ 9) (Nat.le_trans (sumN_mono (fun k => Nat.le_add_right _ _) 9) b0)
  have := lN0 (by omega) h
  rw [show sumNf (fun k => if k = 0 then 0 else Wn (k - 1) * z) f 9 = 0 by omega]
  rfl
def whoV (sa sb : Int64) (p : Int32) : Int32 := if sa + sb = 0 then -1 else Int64.toInt32 (lowV sa (sa + sb) p)
theorem i64_0 {x : Int32} : Int32.toInt64 x = 0 ↔ x = 0 := by
  constructor
  · intro h
    apply Int32.toInt_inj.mp
    rw [← Int32.toInt_toInt64, h]
    rfl
  · rintro rfl
    rfl
theorem hear_ok : ∀ z, z < 11 → ∀ t, t < 11 → nI z * nI t + (10 - nI z) * (10 - nI t) = 0 → nI z * nI t = 0 := by decide +kernel
theorem ten_ten : ∀ t, t < 11 → (10 : Int32) - (10 - nI t) = nI t := by decide
section Who
variable {g : GS} {V : MV} {nC len : Nat} {I : MI} {J : MJ}
theorem sX_lowest0 {p : Int32} {Q : Int64 → MI → MJ → Prop} (h : Q (-1) I J) : wX11_lowest g 0 0 p I J Q := by
  unfold wX11_lowest wX11_commonDivisor
  exact ⟨1, sX_cd 1 0 0 0 0 rfl (by decide) (br_f' (by decide) h)⟩
theorem sX_low2 {a b : Int64} {p : Int32} {Q : Int64 → MI → MJ → Prop} (h0 : b = 0 → a = 0) (h : Q (if b = 0 then -1 else lowV a b p) I J) : wX11_lowest g a b p I J Q := by
  by_cases e : b = 0
  · rw [if_pos e] at h
    rw [h0 e, e]
    exact sX_lowest0 h
  · rw [if_neg e] at h
    exact sX_lowest e h
theorem sX_waysN {Q : Int64 → MI → MJ → Prop} (h : Q 0 I J) : wX7_waysTo g (-1) I J Q := br_t (by decide) h
theorem sX_who {r came n : Nat} {a p b : Int32} {W : Nat → Int64} {Q : Int32 → MI → MJ → Prop} (hS : St g V nC len I) (hr : r < g.2.2) (hT : Tal I J W n) (hn : n + 1 = came) (h8 : came ≤ 8)
    (hz : sumS (whA W b) (whF V r came a) 9 + sumS (whB W b) (whF V r came a) 9 = 0 → sumS (whA W b) (whF V r came a) 9 = 0) (h : Q (whoV (sumS (whA W b) (whF V r came a) 9) (sumS (whB W b) (whF V r came a) 9) p) I J) : ∃ n, wX11_who_b124 g Q n a p r b (nI came) 0 0 0 I J := by
  have hA : ∀ k, came + 1 ≤ k → whA W b k = 0 := by
    intro k hk
    unfold whA
    rw [if_neg (by omega), hT.2.2.2.1 _ (by omega), Int64.zero_mul]
  have hB : ∀ k, came + 1 ≤ k → whB W b k = 0 := by
    intro k hk
    unfold whB
    rw [hT.2.2.2.1 _ (by omega), Int64.zero_mul]
  rw [sumS_hi hA 9 (by omega), sumS_hi hB 9 (by omega)] at h hz
  have key : ∀ d i, i + d = came + 1 → wX11_who_b124 g Q (d + 1) a p r b (nI came) (sumS (whA W b) (whF V r came a) i) (sumS (whB W b) (whF V r came a) i) (nI i) I J := by
    intro d
    induction d with
    | zero =>
      intro i hi
      have : i = came + 1 := by omega
      subst this
      unfold wX11_who_b124
      refine br_t (nI_lt (by omega) (by omega)) (sX_low2 hz ?_)
      unfold whoV at h
      by_cases e : sumS (whA W b) (whF V r came a) (came + 1) + sumS (whB W b) (whF V r came a) (came + 1) = 0
      · rw [if_pos e] at h ⊢
        exact h
      · rw [if_neg e] at h ⊢
        exact h
    | succ d ih =>
      intro i hi
      unfold wX11_who_b124
      refine br_f (nI_nlt (by omega) (by omega)) ?_
      have ih2 := ih (i + 1) (by omega)
      rw [sumS_s, sumS_s] at ih2
      have yes : whF V r came a i = true → wX11_who_b159 g (fun v5 v6 v7 v10 v11 v12 v14 v16 I J => wX11_who_b124 g Q (d + 1) v5 v6 v7 v10 v11 v12 v14 v16 I J) Q a p r b (nI came) (sumS (whA W b) (whF V r came a) i) (sumS (whB W b) (whF V r came a) i) (nI i) I J := by
        intro e
        rw [if_pos e, if_pos e] at ih2
        unfold wX11_who_b159 wX11_who_b200
        rw [nI_1]
        cases i with
        | zero =>
          rw [show nI 0 - 1 = -1 from rfl]
          refine sX_waysN ?_
          refine sX_waysTo (k := 0) hT (by decide) ?_
          rw [Int64.mul_zero, Int64.mul_comm _ (W 0)]
          exact ih2
        | succ i =>
          rw [nI_pred]
          refine sX_waysTo hT (by omega) (sX_waysTo hT (by omega) ?_)
          rw [Int64.mul_comm _ (W i), Int64.mul_comm _ (W (i + 1))]
          exact ih2
      have no : ¬ whF V r came a i = true → wX11_who_b200 g (fun v5 v6 v7 v10 v11 v12 v14 v16 I J => wX11_who_b124 g Q (d + 1) v5 v6 v7 v10 v11 v12 v14 v16 I J) Q a p r b (nI came) (sumS (whA W b) (whF V r came a) i) (sumS (whB W b) (whF V r came a) i) (nI i) I J := by
        intro e
        rw [if_neg e, if_neg e, Int64.add_zero, Int64.add_zero] at ih2
        unfold wX11_who_b200
        rw [nI_1]
        exact ih2
      by_cases e1 : a = -1
      · refine br_f' e1 (sX_shutsOut hS hr ?_)
        by_cases e2 : shB V r i came = true
        · rw [b2i_t e2]
          exact br_f (by decide) (yes (by simp [whF, e1, e2]))
        · rw [b2i_f e2]
          exact br_t rfl (no (by simp [whF, e1, e2]))
      · refine br_t' e1 ?_
        by_cases e2 : nI i = a
        · exact br_f' e2 (yes (by simp [whF, e1, e2]))
        · exact br_t' e2 (no (by simp [whF, e1, e2]))
  exact ⟨came + 2, key (came + 1) 0 (by omega)⟩
theorem sM_who {r came : Nat} {a p b : Int32} {W : Nat → Int64} {Q : Int32 → MI → MJ → Prop} (hV : VOK g V nC len) (hS : St g V nC len I) (hr : r < g.2.2) (hJ : ∀ k, k < 9 → J 31 0 k = W k) (h : Q (whoV (sumS (whA W b) (whF V r came a) 9) (sumS (whB W b) (whF V r came a) 9) p) I J) : ∃ n, wX12_who_b85 g Q n (nI r) a p (nI came) b 0 0 0 I J := by
  have key : ∀ d i, i + d = 9 → wX12_who_b85 g Q (d + 1) (nI r) a p (nI came) b (sumS (whA W b) (whF V r came a) i) (sumS (fun k => whA W b k + whB W b k) (whF V r came a) i) (nI i) I J := by
    intro d
    induction d with
    | zero =>
      intro i hi
      have : i = 9 := by omega
      subst this
      unfold wX12_who_b85
      rw [sumS_add]
      refine br_t (nI_le (a := 9) (Nat.le_refl _) (by omega)) ?_
      unfold whoV at h
      by_cases e : sumS (whA W b) (whF V r came a) 9 + sumS (whB W b) (whF V r came a) 9 = 0
      · rw [if_pos e] at h
        exact br_f' (lg0.mpr e) h
      · rw [if_neg e] at h
        exact br_t' (fun k => e (lg0.mp k)) (sM_lowest e h)
    | succ d ih =>
      intro i hi
      unfold wX12_who_b85
      refine br_f (nI_ge (b := 9) (by omega) (by omega)) ?_
      have ih2 := ih (i + 1) (by omega)
      rw [sumS_s, sumS_s] at ih2
      have go : ∀ t : Int32, t = b2i (whF V r came a i = true) → wX12_who_b122 g (fun v1 v5 v6 v7 v8 v9 v11 v13 I J => wX12_who_b85 g Q (d + 1) v1 v5 v6 v7 v8 v9 v11 v13 I J) Q (nI r) a p (nI came) b (sumS (whA W b) (whF V r came a) i) (sumS (fun k => whA W b k + whB W b k) (whF V r came a) i) (nI i) t I J := by
        intro t ht
        unfold wX12_who_b122
        have go2 : ∀ t0 : Int64, t0 = whA W b i → wX12_who_b146 g (fun v1 v5 v6 v7 v8 v9 v11 v13 I J => wX12_who_b85 g Q (d + 1) v1 v5 v6 v7 v8 v9 v11 v13 I J) Q (nI r) a p (nI came) b (sumS (whA W b) (whF V r came a) i) (sumS (fun k => whA W b k + whB W b k) (whF V r came a) i) (nI i) t t0 I J := by
          intro t0 h0
          unfold wX12_who_b146 wX12_who_b161 wX12_who_b192
          rw [nI_1, cl_nI (by omega), hJ i (by omega)]
          by_cases e : whF V r came a i = true
          · rw [if_pos e, if_pos e] at ih2
            rw [b2i_t e] at ht
            rw [ht, h0]
            exact br_f (by decide) (br_f (by decide) ⟨vp_in_nI (by omega) (by decide), ih2⟩)
          · rw [if_neg e, if_neg e] at ih2
            rw [b2i_f e] at ht
            rw [ht]
            exact br_t rfl (br_t rfl ih2)
        cases i with
        | zero => exact br_f' rfl (go2 0 rfl)
        | succ i =>
          refine br_t' (nI_ne0 (by omega) (by omega)) ⟨by rw [nI_pred]; exact vp_in_nI (by omega) (by decide), go2 _ ?_⟩
          rw [nI_pred, cl_nI (by omega), hJ i (by omega)]
          rfl
      by_cases e1 : a = -1
      · refine br_f' e1 (sM_shuts hV hS hr (go _ ?_))
        simp [whF, e1]
      · refine br_t' e1 ?_
        by_cases e2 : nI i = a
        · exact br_f' e2 (go 1 (by simp [whF, e1, e2, b2i]))
        · exact br_t' e2 (go 0 (by simp [whF, e1, e2, b2i]))
  exact ⟨10, key 9 0 (by omega)⟩
theorem p_op18 : op18 Inv := by
  rintro g I J a1 a2 a3 a4 a5 a6 ⟨V, nC, len, hV, hS⟩
  have hr6 := vok_r hV
  have hp8 := vok_p hV
  have hc6 := vok_c hV
  have hi : ∀ J, Inv g I J := fun J => hS.inv (J := J) hV
  have lp : g.2.1 < 2 ^ 31 := by omega
  unfold wX11_who
  rw [eX_ruleAt (x9 hS) hr6]
  cases h : ixOf a1 g.2.2 with
  | none => cases h4 : ixOf a4 g.2.1 <;> simp [wX12_who, eM_areThere hV hS, eX_personAt (x10 hS) hp8, h, h4, b2i, hi]
  | some r =>
    obtain ⟨hr, rfl⟩ := ixOf_some h
    refine ⟨fun k => (by cases k), fun r' hr' => ?_⟩
    cases hr'
    rw [eX_personAt (x10 hS) hp8]
    cases h4 : ixOf a4 g.2.1 with
    | none => cases h2 : ixOf a2 nC <;> simp [wX12_who, eM_areThere hV hS, eM_isMember (m0 hV hS) lp, h, h2, h4, b2i, hi]
    | some m =>
      obtain ⟨hm, rfl⟩ := ixOf_some h4
      refine ⟨fun k => (by cases k), fun r' hr' => ?_⟩
      cases hr'
      rw [eX_isCandidate (x11 hS) hc6]
      cases h2 : ixOf a2 nC with
      | none => simp [wX12_who, eM_areThere hV hS, h2, b2i, hi]
      | some c =>
        obtain ⟨hc, rfl⟩ := ixOf_some h2
        rw [bs_some]
        refine br_t' (by decide) ?_
        rw [eX_areComers (x10 hS) hp8]
        cases h3 : csOf a3 g.2.1 with
        | none => simp [wX12_who, wX12_isAsked, eM_areThere hV hS, eM_isMember (m0 hV hS) lp, h, h2, h4, eM_areComers (m0 hV hS) hp8, h3, b2i, hi]
        | some cs =>
          obtain ⟨q1, q2, rfl⟩ := csOf_some h3
          have q3 := lt256 q2 hp8
          have h8 := pc8 q2 hp8
          rw [bs_some]
          refine br_f (by decide) ?_
          rw [eX_isOneOf q3 (by omega)]
          by_cases hb : cs.testBit m = true
          case neg => simp [wX12_who, wX12_isAsked, eM_areThere hV hS, eM_isMember (m0 hV hS) lp, h, h2, h4, eM_areComers (m0 hV hS) hp8, h3, eM_has q3 (show m < 8 by omega), hb, b2i, hi]
          rw [b2i_t hb]
          refine br_f (by decide) ?_
          rw [eX_within]
          by_cases hw : -1 ≤ a5 ∧ a5 ≤ 8
          case neg => by_cases hp : a6 = 0 ∨ a6 = 1 <;> simp [wX12_who, wX12_isAsked, eM_areThere hV hS, eM_isMember (m0 hV hS) lp, h, h2, h4, eM_areComers (m0 hV hS) hp8, h3, eM_has q3 (show m < 8 by omega), hb, eM_within, hw, eM_isPart, hp, b2i, hi]
          rw [b2i_t hw]
          refine br_f (by decide) ?_
          rw [eX_isPart]
          by_cases hp : a6 = 0 ∨ a6 = 1
          case neg => simp [wX12_who, wX12_isAsked, eM_areThere hV hS, eM_isMember (m0 hV hS) lp, h, h2, h4, eM_areComers (m0 hV hS) hp8, h3, eM_has q3 (show m < 8 by omega), hb, eM_isPart, hp, b2i, hi]
          rw [b2i_t hp]
          have e1 := cut_pc cs q3 m (by omega) hb
          have q4 := cut_lt (m := m) q2
          have hsel : dpM (vBlack V (wat V r (pc cs)) c) (cut cs m).testBit g.2.1 = dpM (vBlack V (wat V r (pc cs)) c) (selO cs (nI m)) g.2.1 := dpM_c g.2.1 (fun j hj => cut_sel (by omega) (by omega))
          obtain ⟨ez, hz⟩ := vbN_ok (w := wat V r (pc cs)) hV hm (show c < 6 by omega)
          refine br_t' (by decide) (sX_isWatched hS hr (by omega) (sX_blackOf hV hS hm hc (s_bcp (by omega) ?_)))
          rw [cut_ok cs q3 m (by omega), b2i_dec]
          refine sX_tallyBalls hV hS hc (lt256 q4 hp8) (fun I1 J1 hS1 hT1 => ?_)
          rw [b2i_dec, ← pc_n q4 hp8] at hT1
          refine sX_who hS1 hr hT1 e1 h8 ?_ ?_
          · rw [ez]
            refine wh_zero hz (fun k => dpM_N g.2.1 (fun j hj => vbN_ok hV hj (by omega)) k) ?_
            refine Nat.le_trans (sumN_le g.2.1 (fun j hj => (vbN_ok hV hj (by omega)).2) 9) ?_
            rw [← pc_n q4 hp8]
            exact Nat.pow_le_pow_right (by decide) (by omega)
          · try dsimp only
            unfold wX12_who
            rw [eM_areThere hV hS1, h, h2, b2i_t (by simp)]
            refine br_f (by decide) ?_
            rw [eM_isMember (m0 hV hS1) lp, h4, bs_some]
            refine br_t' (by decide) ?_
            unfold wX12_isAsked
            rw [eM_areComers (m0 hV hS1) hp8, h3, bs_some]
            refine br_f (by decide) ?_
            rw [eM_has q3 (by omega), b2i_t hb]
            refine br_f (by decide) ?_
            rw [eM_isPart, b2i_t hp]
            refine br_f (by decide) (br_f (by decide) ?_)
            rw [eM_within, b2i_t hw]
            refine br_t' (by decide) (s_onesp (by omega) (sM_blackBy hV hS1 hr hm hc (by omega) (sM_layWays hV hS1 hr hc q3 (by omega) (fun J2 hJ2 => ?_))))
            rw [hsel]
            exact sM_who hV hS1 hr hJ2 ⟨rfl, hS1.inv hV⟩
theorem p_op19 : op19 Inv := by
  rintro g I J a1 a2 a3 a4 a5 a6 a7 hB ⟨V, nC, len, hV, hS⟩
  have hr6 := vok_r hV
  have hp8 := vok_p hV
  have hc6 := vok_c hV
  have hi : ∀ J, Inv g I J := fun J => hS.inv (J := J) hV
  have lp : g.2.1 < 2 ^ 31 := by omega
  unfold wX11_heard
  rw [eX_ruleAt (x9 hS) hr6]
  cases h : ixOf a1 g.2.2 with
  | none => cases h4 : ixOf a4 g.2.1 <;> simp [wX12_heard, eM_areThere hV hS, eX_personAt (x10 hS) hp8, h, h4, b2i, hi]
  | some r =>
    obtain ⟨hr, rfl⟩ := ixOf_some h
    refine ⟨fun k => (by cases k), fun r' hr' => ?_⟩
    cases hr'
    rw [eX_personAt (x10 hS) hp8]
    cases h4 : ixOf a4 g.2.1 with
    | none => cases h2 : ixOf a2 nC <;> simp [wX12_heard, eM_areThere hV hS, eM_isMember (m0 hV hS) lp, h, h2, h4, b2i, hi]
    | some m =>
      obtain ⟨hm, rfl⟩ := ixOf_some h4
      refine ⟨fun k => (by cases k), fun r' hr' => ?_⟩
      cases hr'
      rw [eX_isCandidate (x11 hS) hc6]
      cases h2 : ixOf a2 nC with
      | none => simp [wX12_heard, eM_areThere hV hS, h2, b2i, hi]
      | some c =>
        obtain ⟨hc, rfl⟩ := ixOf_some h2
        rw [bs_some]
        refine br_t' (by decide) ?_
        rw [eX_areComers (x10 hS) hp8]
        cases h3 : csOf a3 g.2.1 with
        | none => simp [wX12_heard, wX12_isAsked, eM_areThere hV hS, eM_isMember (m0 hV hS) lp, h, h2, h4, eM_areComers (m0 hV hS) hp8, h3, b2i, hi]
        | some cs =>
          obtain ⟨q1, q2, rfl⟩ := csOf_some h3
          have q3 := lt256 q2 hp8
          have h8 := pc8 q2 hp8
          rw [bs_some]
          refine br_f (by decide) ?_
          rw [eX_isOneOf q3 (by omega)]
          by_cases hb : cs.testBit m = true
          case neg => simp [wX12_heard, wX12_isAsked, eM_areThere hV hS, eM_isMember (m0 hV hS) lp, h, h2, h4, eM_areComers (m0 hV hS) hp8, h3, eM_has q3 (show m < 8 by omega), hb, b2i, hi]
          rw [b2i_t hb]
          refine br_f (by decide) ?_
          rw [eX_within]
          by_cases hw : 0 ≤ a5 ∧ a5 ≤ 10
          case neg => by_cases hp : a7 = 0 ∨ a7 = 1 <;> simp [wX12_heard, wX12_isAsked, eM_areThere hV hS, eM_isMember (m0 hV hS) lp, h, h2, h4, eM_areComers (m0 hV hS) hp8, h3, eM_has q3 (show m < 8 by omega), hb, eM_within, hw, eM_isPart, hp, b2i, hi]
          rw [b2i_t hw]
          refine br_f (by decide) ?_
          rw [eX_isPart]
          by_cases hp : a7 = 0 ∨ a7 = 1
          case neg => simp [wX12_heard, wX12_isAsked, eM_areThere hV hS, eM_isMember (m0 hV hS) lp, h, h2, h4, eM_areComers (m0 hV hS) hp8, h3, eM_has q3 (show m < 8 by omega), hb, eM_isPart, hp, b2i, hi]
          rw [b2i_t hp]
          obtain ⟨ez, hz⟩ := vbN_ok (w := wat V r (pc cs)) hV hm (show c < 6 by omega)
          obtain ⟨k, hk, rfl⟩ := rng (n := 10) (by decide) hw
          refine br_t' (by decide) (sX_isWatched hS hr (by omega) (sX_blackOf hV hS hm hc ?_))
          rw [b2i_dec, ez]
          have K : ∀ v, (∀ Q : Int32 → MI → MJ → Prop, Q v I J → ((a6 = 0 → wX12_heard_b78 g Q (nI k) a6 a7 (nI (vbN V (wat V r (pc cs)) c m)) (10 - nI k) (nI (vbN V (wat V r (pc cs)) c m)) I J) ∧ (¬ a6 = 0 → wX12_heard_b78 g Q (nI k) a6 a7 (nI (vbN V (wat V r (pc cs)) c m)) (nI k) (nI (vbN V (wat V r (pc cs)) c m)) I J))) → wX12_heard g (nI r) (nI c) (nI cs) (nI m) (nI k) a6 a7 I J (fun r2 I2 J2 => v = r2 ∧ Inv g I2 J2) := by
            intro v hv
            unfold wX12_heard
            rw [eM_areThere hV hS, h, h2, b2i_t (by simp)]
            refine br_f (by decide) ?_
            rw [eM_isMember (m0 hV hS) lp, h4, bs_some]
            refine br_t' (by decide) ?_
            unfold wX12_isAsked
            rw [eM_areComers (m0 hV hS) hp8, h3, bs_some]
            refine br_f (by decide) ?_
            rw [eM_has q3 (by omega), b2i_t hb]
            refine br_f (by decide) ?_
            rw [eM_isPart, b2i_t hp]
            refine br_f (by decide) (br_f (by decide) ?_)
            rw [eM_within, b2i_t hw]
            refine br_t' (by decide) (s_onesp (by omega) (sM_blackBy hV hS hr hm hc (by omega) ?_))
            rw [ez]
            exact hv (fun r2 I2 J2 => v = r2 ∧ Inv g I2 J2) ⟨rfl, hi J⟩
          revert hz K
          generalize vbN V (wat V r (pc cs)) c m = z
          intro hz K
          have L : ∀ (Q : Int32 → MI → MJ → Prop) (a b : Int32), Q (if Int32.toInt64 b = 0 then -1 else Int64.toInt32 (lowV (Int32.toInt64 a) (Int32.toInt64 b) a7)) I J → ((¬ b = 0 → wX12_lowest g (Int32.toInt64 a) (Int32.toInt64 b) a7 I J (fun r124 I124 J124 => Q (Int64.toInt32 r124) I124 J124)) ∧ (b = 0 → Q ((-1)) I J)) := by
            intro Q a b hq
            by_cases e : b = 0
            · rw [if_pos (i64_0.mpr e)] at hq
              exact br_f' e hq
            · rw [if_neg (fun k => e (i64_0.mp k))] at hq
              exact br_t' e (sM_lowest (fun k => e (i64_0.mp k)) hq)
          have F : ∀ b : Int64, ∀ y : Int64, (Int64.toInt32 (if b = 0 then -1 else y)) = (if b = 0 then -1 else Int64.toInt32 y) := by
            intro b y
            by_cases e : b = 0
            · rw [if_pos e, if_pos e]; rfl
            · rw [if_neg e, if_neg e]
          unfold wX11_heard_b105
          by_cases e6 : a6 = 0
          · refine br_t e6 (sX_low2 ?_ ?_)
            · rw [i64_0, i64_0, ten_sub hk]
              exact hear_ok z (by omega) (10 - k) (by omega)
            · rw [F]
              refine K _ (fun Q hQ => br_t e6 ?_)
              unfold wX12_heard_b78 wX12_heard_b103
              refine br_t e6 (L Q _ _ ?_)
              rw [ten_ten k (by omega)] at hQ
              exact hQ
          · refine br_f e6 (sX_low2 ?_ ?_)
            · rw [i64_0, i64_0]
              exact hear_ok z (by omega) k (by omega)
            · rw [F]
              refine K _ (fun Q hQ => br_f e6 ?_)
              unfold wX12_heard_b78 wX12_heard_b103
              exact br_f e6 (L Q _ _ hQ)
end Who
