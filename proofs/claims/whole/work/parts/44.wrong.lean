/-! wrong, best, word, seen -/
def wroV (V : MV) (r cs nP : Nat) : Nat → Int64
  | 0 => 0
  | c + 1 => wroV V r cs nP c + (if isMin V nP c then inV V r c cs nP else t10 (pc cs + pc cs) - inV V r c cs nP)
theorem wroV_s (V : MV) (r cs nP c : Nat) : wroV V r cs nP (c + 1) = wroV V r cs nP c + (if isMin V nP c then inV V r c cs nP else t10 (pc cs + pc cs) - inV V r c cs nP) := rfl
def bstV (V : MV) (cs nP nC : Nat) : Nat → Int32 × Int64
  | 0 => (-1, 0)
  | r + 1 => if (bstV V cs nP nC r).1 = -1 ∨ ¬ 0 ≤ lg_cmp (wroV V r cs nP nC) (bstV V cs nP nC r).2 then (nI r, wroV V r cs nP nC) else bstV V cs nP nC r
theorem bstV_s (V : MV) (cs nP nC r : Nat) : bstV V cs nP nC (r + 1) = if (bstV V cs nP nC r).1 = -1 ∨ ¬ 0 ≤ lg_cmp (wroV V r cs nP nC) (bstV V cs nP nC r).2 then (nI r, wroV V r cs nP nC) else bstV V cs nP nC r := rfl
abbrev wdr (V : MV) (r c cs nP : Nat) (a : Int32) : Prop := ¬ 0 ≤ lg_cmp (10 * inV V r c cs nP) (Int32.toInt64 a * t10 (pc cs + pc cs))
def wrdV (V : MV) (r cs nP : Nat) (a : Int32) : Nat → Int32
  | 0 => 0
  | c + 1 => if wdr V r c cs nP a then wrdV V r cs nP a c ||| (1 <<< (nI c &&& 31)) else wrdV V r cs nP a c
theorem wrdV_s (V : MV) (r cs nP : Nat) (a : Int32) (c : Nat) : wrdV V r cs nP a (c + 1) = if wdr V r c cs nP a then wrdV V r cs nP a c ||| (1 <<< (nI c &&& 31)) else wrdV V r cs nP a c := rfl
def senV (V : MV) (r cs nP : Nat) (a : Int32) : Nat → Int64
  | 0 => 0
  | c + 1 => if wdr V r c cs nP a then senV V r cs nP a c else senV V r cs nP a c + (t10 (pc cs + pc cs) - inV V r c cs nP)
theorem senV_s (V : MV) (r cs nP : Nat) (a : Int32) (c : Nat) : senV V r cs nP a (c + 1) = if wdr V r c cs nP a then senV V r cs nP a c else senV V r cs nP a c + (t10 (pc cs + pc cs) - inV V r c cs nP) := rfl
section Wrong
variable {g : GS} {V : MV} {nC len : Nat} {I : MI} {J : MJ}
theorem sX_wrongWays {r cs : Nat} {Q : Int64 → MI → MJ → Prop} (hV : VOK g V nC len) (hS : St g V nC len I) (hr : r < g.2.2) (hcs : cs < 2 ^ g.2.1) (h : ∀ I1 J1, St g V nC len I1 → Q (wroV V r cs g.2.1 nC) I1 J1) : wX11_wrongWays g r (nI cs) I J Q := by
  have hp8 := vok_p hV
  have hc6 := vok_c hV
  have h256 := lt256 hcs hp8
  unfold wX11_wrongWays
  refine sX_squaredTens (by omega) ⟨nC + 1, ?_⟩
  have key : ∀ d i I J, i + d = nC → St g V nC len I → wX11_wrongWays_b11 g Q (d + 1) r (nI cs) (t10 (pc cs + pc cs)) (wroV V r cs g.2.1 i) (nI i) I J := by
    intro d
    induction d with
    | zero =>
      intro i I J hi hS
      have : i = nC := by omega
      subst this
      unfold wX11_wrongWays_b11
      rw [x11 hS]
      exact br_t (nI_le (Nat.le_refl _) (by omega)) (h _ _ hS)
    | succ d ih =>
      intro i I J hi hS
      unfold wX11_wrongWays_b11
      rw [x11 hS]
      refine br_f (nI_ge (by omega) (by omega)) (sX_inWays hV hS hr (by omega) hcs (fun I1 J1 hS1 => sX_isMinded hV hS1 (by omega) ?_))
      have ih2 := ih (i + 1) I1 J1 (by omega) hS1
      rw [wroV_s] at ih2
      unfold wX11_wrongWays_b50
      rw [nI_1]
      by_cases hm : isMin V g.2.1 i = true
      · rw [b2i_t hm]
        rw [if_pos hm] at ih2
        exact br_f (by decide) ih2
      · rw [b2i_f hm]
        rw [if_neg hm] at ih2
        exact br_t rfl ih2
  exact key nC 0 I J (by omega) hS
theorem sM_wrongBy {r cs : Nat} {Q : Int64 → MI → MJ → Prop} (hV : VOK g V nC len) (hS : St g V nC len I) (hr : r < g.2.2) (hcs : cs < 2 ^ g.2.1) (h : ∀ J1, Q (wroV V r cs g.2.1 nC) I J1) : wX12_wrongBy g (nI r) (nI cs) I J Q := by
  have hp8 := vok_p hV
  have hc6 := vok_c hV
  have h256 := lt256 hcs hp8
  have h8 := pc8 hcs hp8
  have key : ∀ d i J, i + d = nC → wX12_wrongBy_b5 g Q (d + 1) (nI r) (nI cs) (wroV V r cs g.2.1 i) (nI i) I J := by
    intro d
    induction d with
    | zero =>
      intro i J hi
      have : i = nC := by omega
      subst this
      unfold wX12_wrongBy_b5
      rw [m4 hV hS]
      exact br_t (nI_le (Nat.le_refl _) (by omega)) (h _)
    | succ d ih =>
      intro i J hi
      unfold wX12_wrongBy_b5
      rw [m4 hV hS]
      refine br_f (nI_ge (by omega) (by omega)) (sM_inBy hV hS hr (by omega) hcs (fun J1 => sM_isMinded hV hS (by omega) ?_))
      have ih2 := ih (i + 1) J1 (by omega)
      rw [wroV_s] at ih2
      unfold wX12_wrongBy_b51
      rw [nI_1]
      by_cases hm : isMin V g.2.1 i = true
      · rw [b2i_t hm]
        rw [if_pos hm] at ih2
        exact br_f (by decide) ih2
      · rw [b2i_f hm]
        rw [if_neg hm] at ih2
        refine br_t rfl (s_onesp (by omega) ?_)
        rw [two_mul_nI]
        exact s_tens (by omega) ih2
  exact ⟨nC + 1, key nC 0 J (by omega)⟩
theorem p_op16 : op16 Inv := by
  rintro g I J a1 a2 ⟨V, nC, len, hV, hS⟩
  have hr6 := vok_r hV
  have hp8 := vok_p hV
  have hi : ∀ J, Inv g I J := fun J => hS.inv (J := J) hV
  unfold wX11_wrong
  rw [eX_ruleAt (x9 hS) hr6]
  cases h : ixOf a1 g.2.2 with
  | none => simp [wX12_wrong, eM_isRule (m7 hV hS) (show g.2.2 < 2 ^ 31 by omega), h, b2i, hi]
  | some r =>
    obtain ⟨hr, rfl⟩ := ixOf_some h
    refine ⟨fun k => (by cases k), fun r' hr' => ?_⟩
    cases hr'
    rw [eX_areComers (x10 hS) hp8]
    cases h3 : csOf a2 g.2.1 with
    | none => simp [wX12_wrong, eM_isRule (m7 hV hS) (show g.2.2 < 2 ^ 31 by omega), h, eM_areComers (m0 hV hS) hp8, h3, b2i, hi]
    | some cs =>
      obtain ⟨q1, q2, rfl⟩ := csOf_some h3
      rw [bs_some]
      refine br_t' (by decide) (sX_wrongWays hV hS hr q2 (fun I1 J1 hS1 => ?_))
      try dsimp only
      unfold wX12_wrong
      rw [eM_isRule (m7 hV hS1) (by omega), h, bs_some]
      refine br_t' (by decide) ?_
      rw [eM_areComers (m0 hV hS1) hp8, h3, bs_some]
      exact br_f (by decide) (sM_wrongBy hV hS1 hr q2 (fun J2 => ⟨rfl, hS1.inv hV⟩))
theorem p_op17 : op17 Inv := by
  rintro g I J a1 ⟨V, nC, len, hV, hS⟩
  have hr6 := vok_r hV
  have hp8 := vok_p hV
  have hi : ∀ J, Inv g I J := fun J => hS.inv (J := J) hV
  unfold wX11_best
  rw [eX_areComers (x10 hS) hp8]
  cases h3 : csOf a1 g.2.1 with
  | none => simp [wX12_best, eM_areComers (m0 hV hS) hp8, h3, b2i, hi]
  | some cs =>
    obtain ⟨q1, q2, rfl⟩ := csOf_some h3
    rw [bs_some]
    refine br_t' (by decide) ⟨g.2.2 + 1, ?_⟩
    have keyM : ∀ (Q : Int32 → MI → MJ → Prop) (I : MI), St g V nC len I → (∀ J1, Q (bstV V cs g.2.1 nC g.2.2).1 I J1) → ∀ d i J, i + d = g.2.2 → wX12_best_b18 g Q (d + 1) (nI cs) (bstV V cs g.2.1 nC i).1 (bstV V cs g.2.1 nC i).2 (nI i) I J := by
      intro Q I hS h d
      induction d with
      | zero =>
        intro i J hi
        have : i = g.2.2 := by omega
        subst this
        unfold wX12_best_b18
        rw [m7 hV hS]
        exact br_t (nI_le (Nat.le_refl _) (by omega)) (h _)
      | succ d ih =>
        intro i J hi
        unfold wX12_best_b18
        rw [m7 hV hS]
        refine br_f (nI_ge (by omega) (by omega)) (sM_wrongBy hV hS (by omega) q2 (fun J1 => ?_))
        have ih2 := ih (i + 1) J1 (by omega)
        rw [bstV_s] at ih2
        have yes : ((bstV V cs g.2.1 nC i).1 = -1 ∨ ¬ 0 ≤ lg_cmp (wroV V i cs g.2.1 nC) (bstV V cs g.2.1 nC i).2) → wX12_best_b48 g (fun v1 v2 v3 v5 I J => wX12_best_b18 g Q (d + 1) v1 v2 v3 v5 I J) Q (nI cs) (bstV V cs g.2.1 nC i).1 (bstV V cs g.2.1 nC i).2 (nI i) (wroV V i cs g.2.1 nC) I J1 := by
          intro hy
          rw [if_pos hy] at ih2
          unfold wX12_best_b48 wX12_best_b53 wX12_best_b66 wX12_best_b78
          rw [nI_1]
          exact br_f (by decide) (br_f (by decide) ih2)
        by_cases e1 : (bstV V cs g.2.1 nC i).1 = -1
        · exact br_t e1 (yes (Or.inl e1))
        · refine br_f e1 ?_
          by_cases e2 : 0 ≤ lg_cmp (wroV V i cs g.2.1 nC) (bstV V cs g.2.1 nC i).2
          · refine br_t e2 ?_
            rw [if_neg (by simp [e1, e2])] at ih2
            unfold wX12_best_b53 wX12_best_b66 wX12_best_b78
            rw [nI_1]
            exact br_t rfl (br_t rfl ih2)
          · exact br_f e2 (yes (Or.inr e2))
    have fin : ∀ I1 J1, St g V nC len I1 → wX12_best g (nI cs) I1 J1 (fun r2 I2 J2 => (bstV V cs g.2.1 nC g.2.2).1 = r2 ∧ Inv g I2 J2) := by
      intro I1 J1 hS1
      unfold wX12_best
      rw [eM_areComers (m0 hV hS1) hp8, h3, bs_some]
      exact br_t' (by decide) ⟨g.2.2 + 1, keyM _ I1 hS1 (fun J1 => ⟨rfl, hS1.inv hV⟩) g.2.2 0 J1 (by omega)⟩
    have key : ∀ d i I J, i + d = g.2.2 → St g V nC len I → wX11_best_b18 g (fun r I1 J1 => wX12_best g (nI cs) I1 J1 (fun r2 I2 J2 => r = r2 ∧ Inv g I2 J2)) (d + 1) (nI cs) (bstV V cs g.2.1 nC i).1 (bstV V cs g.2.1 nC i).2 (nI i) I J := by
      intro d
      induction d with
      | zero =>
        intro i I J hi hS
        have : i = g.2.2 := by omega
        subst this
        unfold wX11_best_b18
        rw [x9 hS]
        exact br_t (nI_le (Nat.le_refl _) (by omega)) (fin I J hS)
      | succ d ih =>
        intro i I J hi hS
        unfold wX11_best_b18
        rw [x9 hS, cl_nI (by omega)]
        refine br_f (nI_ge (by omega) (by omega)) ⟨vp_in_nI (by omega) (by decide), br_f' (by omega) (sX_wrongWays hV hS (by omega) q2 (fun I1 J1 hS1 => ?_))⟩
        have ih2 := ih (i + 1) I1 J1 (by omega) hS1
        rw [bstV_s] at ih2
        unfold wX11_best_b53 wX11_best_b59
        rw [nI_1]
        by_cases e1 : (bstV V cs g.2.1 nC i).1 = -1
        · rw [if_pos (Or.inl e1)] at ih2
          exact br_t e1 ih2
        · refine br_f e1 ?_
          by_cases e2 : 0 ≤ lg_cmp (wroV V i cs g.2.1 nC) (bstV V cs g.2.1 nC i).2
          · rw [if_neg (by simp [e1, e2])] at ih2
            exact br_t e2 ih2
          · rw [if_pos (Or.inr e2)] at ih2
            exact br_f e2 ih2
    exact key g.2.2 0 I J (by omega) hS
theorem sX_withdraws {v : Int64} {cs : Nat} {a : Int32} {Q : Int32 → MI → MJ → Prop} (hcs : cs < 1024) (h : Q (b2i (¬ 0 ≤ lg_cmp (10 * v) (Int32.toInt64 a * t10 (pc cs + pc cs)))) I J) : wX11_withdraws g v (nI cs) a I J Q := by
  unfold wX11_withdraws
  refine sX_squaredTens hcs ?_
  rw [Int64.mul_comm v 10]
  by_cases e : 0 ≤ lg_cmp (10 * v) (Int32.toInt64 a * t10 (pc cs + pc cs))
  · rw [b2i_f (by simp [e])] at h
    exact br_t e h
  · rw [b2i_t e] at h
    exact br_f e h
theorem sM_withdraws {r c cs : Nat} {a : Int32} {Q : Int32 → MI → MJ → Prop} (hV : VOK g V nC len) (hS : St g V nC len I) (hr : r < g.2.2) (hc : c < nC) (hcs : cs < 2 ^ g.2.1) (h : ∀ J1, Q (b2i (wdr V r c cs g.2.1 a)) I J1) : wX12_withdraws g (nI r) (nI c) (nI cs) a I J Q := by
  have hp8 := vok_p hV
  have h256 := lt256 hcs hp8
  have h8 := pc8 hcs hp8
  unfold wX12_withdraws
  refine sM_inBy hV hS hr hc hcs (fun J1 => s_onesp (by omega) ?_)
  rw [two_mul_nI]
  refine s_tens (by omega) ?_
  have h := h J1
  by_cases e : 0 ≤ lg_cmp (10 * inV V r c cs g.2.1) (Int32.toInt64 a * t10 (pc cs + pc cs))
  · rw [b2i_f (by simp [wdr, e])] at h
    exact br_t e h
  · rw [b2i_t (show wdr V r c cs g.2.1 a from e)] at h
    exact br_f e h
theorem p_op21 : op21 Inv := by
  rintro g I J a1 a2 a3 ⟨V, nC, len, hV, hS⟩
  have hr6 := vok_r hV
  have hp8 := vok_p hV
  have hc6 := vok_c hV
  have hi : ∀ J, Inv g I J := fun J => hS.inv (J := J) hV
  unfold wX11_word
  rw [eX_ruleAt (x9 hS) hr6]
  cases h : ixOf a1 g.2.2 with
  | none => simp [wX12_word, eM_isRule (m7 hV hS) (show g.2.2 < 2 ^ 31 by omega), h, b2i, hi]
  | some r =>
    obtain ⟨hr, rfl⟩ := ixOf_some h
    refine ⟨fun k => (by cases k), fun r' hr' => ?_⟩
    cases hr'
    rw [eX_areComers (x10 hS) hp8]
    cases h3 : csOf a2 g.2.1 with
    | none => simp [wX12_word, eM_isRule (m7 hV hS) (show g.2.2 < 2 ^ 31 by omega), h, eM_areComers (m0 hV hS) hp8, h3, b2i, hi]
    | some cs =>
      obtain ⟨q1, q2, rfl⟩ := csOf_some h3
      have q3 := lt256 q2 hp8
      rw [bs_some]
      refine br_f (by decide) ?_
      rw [eX_within]
      by_cases hw : 0 ≤ a3 ∧ a3 ≤ 10
      case neg => simp [wX12_word, eM_isRule (m7 hV hS) (show g.2.2 < 2 ^ 31 by omega), h, eM_areComers (m0 hV hS) hp8, h3, eM_within, hw, b2i, hi]
      rw [b2i_t hw]
      refine br_t' (by decide) ⟨nC + 1, ?_⟩
      have keyM : ∀ (Q : Int32 → MI → MJ → Prop) (I : MI), St g V nC len I → (∀ J1, Q (wrdV V r cs g.2.1 a3 nC) I J1) → ∀ d i J, i + d = nC → wX12_word_b38 g Q (d + 1) (nI r) (nI cs) a3 (wrdV V r cs g.2.1 a3 i) (nI i) I J := by
        intro Q I hS h d
        induction d with
        | zero =>
          intro i J hi
          have : i = nC := by omega
          subst this
          unfold wX12_word_b38
          rw [m4 hV hS]
          exact br_t (nI_le (Nat.le_refl _) (by omega)) (h _)
        | succ d ih =>
          intro i J hi
          unfold wX12_word_b38
          rw [m4 hV hS]
          refine br_f (nI_ge (by omega) (by omega)) (sM_withdraws hV hS hr (by omega) q2 (fun J1 => ?_))
          have ih2 := ih (i + 1) J1 (by omega)
          rw [wrdV_s] at ih2
          unfold wX12_word_b69
          rw [nI_1]
          by_cases e : wdr V r i cs g.2.1 a3
          · rw [b2i_t e]
            rw [if_pos e] at ih2
            exact br_f (by decide) ih2
          · rw [b2i_f e, Int32.or_zero]
            rw [if_neg e] at ih2
            exact br_t rfl ih2
      have fin : ∀ I1 J1, St g V nC len I1 → wX12_word g (nI r) (nI cs) a3 I1 J1 (fun r2 I2 J2 => wrdV V r cs g.2.1 a3 nC = r2 ∧ Inv g I2 J2) := by
        intro I1 J1 hS1
        unfold wX12_word
        rw [eM_isRule (m7 hV hS1) (by omega), h, bs_some]
        refine br_t' (by decide) ?_
        rw [eM_areComers (m0 hV hS1) hp8, h3, bs_some]
        refine br_f (by decide) ?_
        rw [eM_within, b2i_t hw]
        exact br_t' (by decide) ⟨nC + 1, keyM _ I1 hS1 (fun J1 => ⟨rfl, hS1.inv hV⟩) nC 0 J1 (by omega)⟩
      have key : ∀ d i I J, i + d = nC → St g V nC len I → wX11_word_b42 g (fun r1 I1 J1 => wX12_word g (nI r) (nI cs) a3 I1 J1 (fun r2 I2 J2 => r1 = r2 ∧ Inv g I2 J2)) (d + 1) (nI cs) a3 r (wrdV V r cs g.2.1 a3 i) (nI i) I J := by
        intro d
        induction d with
        | zero =>
          intro i I J hi hS
          have : i = nC := by omega
          subst this
          unfold wX11_word_b42
          rw [x11 hS]
          exact br_t (nI_le (Nat.le_refl _) (by omega)) (fin I J hS)
        | succ d ih =>
          intro i I J hi hS
          unfold wX11_word_b42
          rw [x11 hS]
          refine br_f (nI_ge (by omega) (by omega)) (sX_inWays hV hS hr (by omega) q2 (fun I1 J1 hS1 => sX_withdraws (by omega) ?_))
          have ih2 := ih (i + 1) I1 J1 (by omega) hS1
          rw [wrdV_s] at ih2
          unfold wX11_word_b77
          rw [nI_1]
          by_cases e : wdr V r i cs g.2.1 a3
          · rw [b2i_t e]
            rw [if_pos e] at ih2
            exact br_f (by decide) ih2
          · rw [b2i_f e]
            rw [if_neg e] at ih2
            exact br_t rfl ih2
      exact key nC 0 I J (by omega) hS
theorem p_op22 : op22 Inv := by
  rintro g I J a1 a2 a3 a4 ⟨V, nC, len, hV, hS⟩
  have hr6 := vok_r hV
  have hp8 := vok_p hV
  have hc6 := vok_c hV
  have hi : ∀ J, Inv g I J := fun J => hS.inv (J := J) hV
  unfold wX11_seen
  rw [eX_ruleAt (x9 hS) hr6]
  cases h : ixOf a1 g.2.2 with
  | none => simp [wX12_seen, eM_isRule (m7 hV hS) (show g.2.2 < 2 ^ 31 by omega), h, b2i, hi]
  | some r =>
    obtain ⟨hr, rfl⟩ := ixOf_some h
    refine ⟨fun k => (by cases k), fun r' hr' => ?_⟩
    cases hr'
    rw [eX_areComers (x10 hS) hp8]
    cases h3 : csOf a2 g.2.1 with
    | none => simp [wX12_seen, eM_isRule (m7 hV hS) (show g.2.2 < 2 ^ 31 by omega), h, eM_areComers (m0 hV hS) hp8, h3, b2i, hi]
    | some cs =>
      obtain ⟨q1, q2, rfl⟩ := csOf_some h3
      have q3 := lt256 q2 hp8
      have h8 := pc8 q2 hp8
      rw [bs_some]
      refine br_f (by decide) ?_
      rw [eX_within]
      by_cases hw : 0 ≤ a3 ∧ a3 ≤ 10
      case neg => simp [wX12_seen, eM_isRule (m7 hV hS) (show g.2.2 < 2 ^ 31 by omega), h, eM_areComers (m0 hV hS) hp8, h3, eM_within, hw, b2i, hi]
      rw [b2i_t hw]
      refine br_f (by decide) ?_
      rw [eX_isPart]
      by_cases hp : a4 = 0 ∨ a4 = 1
      case neg => simp [wX12_seen, eM_isRule (m7 hV hS) (show g.2.2 < 2 ^ 31 by omega), h, eM_areComers (m0 hV hS) hp8, h3, eM_within, hw, eM_isPart, hp, b2i, hi]
      rw [b2i_t hp]
      refine br_t' (by decide) ⟨nC + 1, ?_⟩
      have keyM : ∀ (Q : Int64 → MI → MJ → Prop) (I : MI), St g V nC len I → (∀ J1, Q (lowV (senV V r cs g.2.1 a3 nC) (t10 (pc cs + pc cs)) a4) I J1) → ∀ d i J, i + d = nC → wX12_seen_b59 g Q (d + 1) (nI r) (nI cs) a3 a4 (t10 (pc cs + pc cs)) (senV V r cs g.2.1 a3 i) (nI i) I J := by
        intro Q I hS h d
        induction d with
        | zero =>
          intro i J hi
          have : i = nC := by omega
          subst this
          unfold wX12_seen_b59
          rw [m4 hV hS]
          exact br_t (nI_le (Nat.le_refl _) (by omega)) (sM_lowest (t10_ne _ (by omega)) (h _))
        | succ d ih =>
          intro i J hi
          unfold wX12_seen_b59
          rw [m4 hV hS]
          refine br_f (nI_ge (by omega) (by omega)) (sM_withdraws hV hS hr (by omega) q2 (fun J1 => ?_))
          have ih2 := fun J1 => ih (i + 1) J1 (by omega)
          rw [senV_s] at ih2
          unfold wX12_seen_b97
          rw [nI_1]
          by_cases e : wdr V r i cs g.2.1 a3
          · rw [b2i_t e, Int64.add_zero]
            rw [if_pos e] at ih2
            exact br_f (by decide) (ih2 J1)
          · rw [b2i_f e]
            rw [if_neg e] at ih2
            exact br_t rfl (sM_inBy hV hS hr (by omega) q2 (fun J2 => ih2 J2))
      have fin : ∀ I1 J1, St g V nC len I1 → wX12_seen g (nI r) (nI cs) a3 a4 I1 J1 (fun r2 I2 J2 => lowV (senV V r cs g.2.1 a3 nC) (t10 (pc cs + pc cs)) a4 = r2 ∧ Inv g I2 J2) := by
        intro I1 J1 hS1
        unfold wX12_seen
        rw [eM_isRule (m7 hV hS1) (by omega), h, bs_some]
        refine br_t' (by decide) ?_
        rw [eM_areComers (m0 hV hS1) hp8, h3, bs_some]
        refine br_f (by decide) ?_
        rw [eM_within, b2i_t hw]
        refine br_f (by decide) ?_
        rw [eM_isPart, b2i_t hp]
        refine br_t' (by decide) (s_onesp (by omega) ?_)
        rw [two_mul_nI]
        exact s_tens (by omega) ⟨nC + 1, keyM _ I1 hS1 (fun J1 => ⟨rfl, hS1.inv hV⟩) nC 0 J1 (by omega)⟩
      have key : ∀ d i I J, i + d = nC → St g V nC len I → wX11_seen_b52 g (fun r1 I1 J1 => wX12_seen g (nI r) (nI cs) a3 a4 I1 J1 (fun r2 I2 J2 => r1 = r2 ∧ Inv g I2 J2)) (d + 1) (nI cs) a3 a4 r (senV V r cs g.2.1 a3 i) (nI i) I J := by
        intro d
        induction d with
        | zero =>
          intro i I J hi hS
          have : i = nC := by omega
          subst this
          unfold wX11_seen_b52
          rw [x11 hS]
          exact br_t (nI_le (Nat.le_refl _) (by omega)) (sX_squaredTens (by omega) (sX_lowest (t10_ne _ (by omega)) (fin I J hS)))
        | succ d ih =>
          intro i I J hi hS
          unfold wX11_seen_b52
          rw [x11 hS]
          refine br_f (nI_ge (by omega) (by omega)) (sX_inWays hV hS hr (by omega) q2 (fun I1 J1 hS1 => sX_withdraws (by omega) ?_))
          have ih2 := ih (i + 1) I1 J1 (by omega) hS1
          rw [senV_s] at ih2
          unfold wX11_seen_b94
          rw [nI_1]
          by_cases e : wdr V r i cs g.2.1 a3
          · rw [b2i_t e]
            rw [if_pos e] at ih2
            exact br_t' (by decide) ih2
          · rw [b2i_f e]
            rw [if_neg e] at ih2
            exact br_f' rfl (sX_squaredTens (by omega) ih2)
      exact key nC 0 I J (by omega) hS
end Wrong
