def tv (V : MV) (r : Nat) (a : Int32) : Int32 := if a = 0 then V 23 r else if a = 1 then V 24 r else if a = 2 then V 25 r else if a = 3 then (if V 26 r = 0 then 0 else 1) else (if V 27 r = 0 then 0 else 1)
def av (V : MV) (p : Nat) (a : Int32) : Int32 := if a = 0 then V 18 p else if a = 1 then V 19 p else V 20 p
def fv (V : MV) (nP c : Nat) (a : Int32) : Int32 := if a = 0 then V 21 c else if a = 1 then b2i (isMin V nP c = true) else nI (cnt (much V c) nP)
section Ops1
variable {g : GS} {V : MV} {nC len : Nat} {I : MI} {J : MJ}
theorem sX_told {r : Nat} {a : Int32} {Q : Int32 → MI → MJ → Prop} (hS : St g V nC len I) (hr : r < g.2.2) (h : Q (tv V r a) I J) : wX6_told g r a I J Q := by
  obtain ⟨e0, e1, e2, e3, e4⟩ := hS.2.2.1 r hr
  unfold wX6_told
  rw [e0, e1, e2, e3, e4]
  unfold tv at h
  by_cases h0 : a = 0
  · rw [if_pos h0] at h; exact br_t h0 h
  rw [if_neg h0] at h
  refine br_f h0 ?_
  by_cases h1 : a = 1
  · rw [if_pos h1] at h; exact br_t h1 h
  rw [if_neg h1] at h
  refine br_f h1 ?_
  by_cases h2 : a = 2
  · rw [if_pos h2] at h; exact br_t h2 h
  rw [if_neg h2] at h
  refine br_f h2 ?_
  by_cases h3 : a = 3
  · rw [if_pos h3] at h
    refine br_t h3 ⟨fun k => ?_, fun k => ?_⟩
    · rw [if_pos k] at h; exact h
    · rw [if_neg k] at h; exact h
  rw [if_neg h3] at h
  refine br_f h3 ⟨fun k => ?_, fun k => ?_⟩
  · rw [if_pos k] at h; exact h
  · rw [if_neg k] at h; exact h
theorem sM_ruleNow {r : Nat} {a : Int32} {Q : Int32 → MI → MJ → Prop} (hV : VOK g V nC len) (hS : St g V nC len I) (hr : r < g.2.2) (h : Q (tv V r a) I J) : wX12_ruleNow g (nI r) a I J Q := by
  have hr6 := vok_r hV
  have i4 : vp_in (nI r) 6 := vp_in_nI (by omega) (by decide)
  unfold wX12_ruleNow
  rw [cl_nI (by omega), mv_at hS.1 r (k := 23) (by decide), mv_at hS.1 r (k := 24) (by decide), mv_at hS.1 r (k := 25) (by decide), mv_at hS.1 r (k := 26) (by decide), mv_at hS.1 r (k := 27) (by decide)]
  unfold tv at h
  by_cases h0 : a = 0
  · rw [if_pos h0] at h; exact br_t h0 ⟨i4, h⟩
  rw [if_neg h0] at h
  refine br_f h0 ?_
  by_cases h1 : a = 1
  · rw [if_pos h1] at h; exact br_t h1 ⟨i4, h⟩
  rw [if_neg h1] at h
  refine br_f h1 ?_
  by_cases h2 : a = 2
  · rw [if_pos h2] at h; exact br_t h2 ⟨i4, h⟩
  rw [if_neg h2] at h
  refine br_f h2 ?_
  by_cases h3 : a = 3
  · rw [if_pos h3] at h
    refine br_t h3 ⟨i4, fun k => ?_, fun k => ?_⟩
    · rw [if_pos k] at h; exact h
    · rw [if_neg k] at h; exact h
  rw [if_neg h3] at h
  refine br_f h3 ⟨i4, fun k => ?_, fun k => ?_⟩
  · rw [if_pos k] at h; exact h
  · rw [if_neg k] at h; exact h
theorem p_op4 : op4 Inv := by
  rintro g I J a1 a2 ⟨V, nC, len, hV, hS⟩
  have hr6 := vok_r hV
  unfold wX11_ruleTold
  rw [eX_ruleAt (x9 hS) hr6]
  cases h : ixOf a1 g.2.2 with
  | none =>
    refine ⟨fun _ => ?_, fun r hr => by cases hr⟩
    try dsimp only
    unfold wX12_ruleTold
    rw [eM_isRule (m7 hV hS) (by omega), h, bs_none]
    exact br_f' rfl ⟨rfl, hS.inv hV⟩
  | some r =>
    obtain ⟨hr, rfl⟩ := ixOf_some h
    refine ⟨fun k => (by cases k), fun r' hr' => ?_⟩
    cases hr'
    rw [eX_within]
    by_cases hw : (0 : Int32) ≤ a2 ∧ a2 ≤ 4
    · rw [b2i_t hw]
      refine br_t' (by decide) (sX_told hS hr ?_)
      try dsimp only
      unfold wX12_ruleTold
      rw [eM_isRule (m7 hV hS) (by omega), h, bs_some]
      refine br_t' (by decide) ?_
      rw [eM_within, b2i_t hw]
      exact br_f (by decide) (sM_ruleNow hV hS hr ⟨rfl, hS.inv hV⟩)
    · rw [b2i_f hw]
      refine br_f' rfl ?_
      try dsimp only
      unfold wX12_ruleTold
      rw [eM_isRule (m7 hV hS) (by omega), h, bs_some]
      refine br_t' (by decide) ?_
      rw [eM_within, b2i_f hw]
      exact br_t rfl ⟨rfl, hS.inv hV⟩
theorem sX_kind {p : Nat} {Q : Int32 → MI → MJ → Prop} (hV : VOK g V nC len) (hS : St g V nC len I) (hp : p < g.2.1) (h : Q (V 18 p) I J) : wv_kind g p I J Q := by
  unfold wv_kind
  rw [(hS.2.2.2.1 p hp).2.2.1]
  rcases kd_split (hV.2.2.2.1 p hp) with e | e | e | e | e
  all_goals rw [e] at h ⊢
  · exact ⟨fun k => absurd k (by decide), fun k => absurd k (by decide), fun k => absurd k (by decide), fun k => absurd k (by decide), fun _ => h⟩
  · exact ⟨fun _ => h, fun k => absurd k (by decide), fun k => absurd k (by decide), fun k => absurd k (by decide), fun k => absurd (show kcOf 1 = 2 by decide) k.1⟩
  · exact ⟨fun k => absurd k (by decide), fun _ => h, fun k => absurd k (by decide), fun k => absurd k (by decide), fun k => absurd (show kcOf 2 = 3 by decide) k.2.1⟩
  · exact ⟨fun k => absurd k (by decide), fun k => absurd k (by decide), fun k => absurd k (by decide), fun _ => h, fun k => absurd (show kcOf 3 = 10 by decide) k.2.2.2⟩
  · exact ⟨fun k => absurd k (by decide), fun k => absurd k (by decide), fun _ => h, fun k => absurd k (by decide), fun k => absurd (show kcOf 4 = 8 by decide) k.2.2.1⟩
theorem kd_n0 {V : MV} {p : Nat} (h : persV V p) (e : V 18 p = 0 ∨ V 18 p = 1) : V 19 p = 0 := by
  obtain ⟨kd, n, cm, h1, h2, h3, h4, h5, h6, h7, -⟩ := h
  have : kd < 2 := by
    rw [h4] at e
    rcases e with e | e
    · have := (nI_eq (a := kd) (b := 0) (by omega) (by omega)).mp e; omega
    · have := (nI_eq (a := kd) (b := 1) (by omega) (by omega)).mp e; omega
  rw [h5, h7 this]
  rfl
theorem sX_n {p : Nat} {Q : Int32 → MI → MJ → Prop} (hV : VOK g V nC len) (hS : St g V nC len I) (hp : p < g.2.1) (h : Q (V 19 p) I J) : wv_n g p I J Q := by
  have hx := (hS.2.2.2.1 p hp).2.2.2.1
  unfold wv_n
  rw [(hS.2.2.2.1 p hp).2.2.1]
  rcases kd_split (hV.2.2.2.1 p hp) with e | e | e | e | e
  · rw [kd_n0 (hV.2.2.2.1 p hp) (Or.inl e)] at h
    rw [e]
    exact ⟨fun k => absurd k (by decide), fun k => absurd k (by decide), fun k => absurd k (by decide), fun k => absurd k (by decide), fun _ => h⟩
  · rw [kd_n0 (hV.2.2.2.1 p hp) (Or.inr e)] at h
    rw [e]
    exact ⟨fun _ => h, fun k => absurd k (by decide), fun k => absurd k (by decide), fun k => absurd k (by decide), fun k => absurd (show kcOf 1 = 2 by decide) k.1⟩
  · rw [e] at hx ⊢
    have hx : I 40 p 6 = V 19 p := hx
    refine ⟨fun k => absurd k (by decide), fun _ => ?_, fun k => absurd k (by decide), fun k => absurd k (by decide), fun k => absurd (show kcOf 2 = 3 by decide) k.2.1⟩
    unfold wX3_n; rw [hx]; exact h
  · rw [e] at hx ⊢
    have hx : I 40 p 6 = V 19 p := hx
    refine ⟨fun k => absurd k (by decide), fun k => absurd k (by decide), fun k => absurd k (by decide), fun _ => ?_, fun k => absurd (show kcOf 3 = 10 by decide) k.2.2.2⟩
    unfold wX10_n; rw [hx]; exact h
  · rw [e] at hx ⊢
    have hx : I 40 p 6 = V 19 p := hx
    refine ⟨fun k => absurd k (by decide), fun k => absurd k (by decide), fun _ => ?_, fun k => absurd k (by decide), fun k => absurd (show kcOf 4 = 8 by decide) k.2.2.1⟩
    unfold wX10_n; rw [hx]; exact h
theorem lt3 {a : Int32} : (0 ≤ a ∧ a ≤ 2) ↔ (a = 0 ∨ a = 1 ∨ a = 2) := by
  have h0 : (0 : Int32).toInt = 0 := by decide
  have h1 : (1 : Int32).toInt = 1 := by decide
  have h2 : (2 : Int32).toInt = 2 := by decide
  rw [ti_le, ti_le, h0, h2]
  constructor
  · intro h
    rcases (show a.toInt = 0 ∨ a.toInt = 1 ∨ a.toInt = 2 by omega) with e | e | e
    · exact Or.inl (Int32.toInt_inj.mp (by rw [e, h0]))
    · exact Or.inr (Or.inl (Int32.toInt_inj.mp (by rw [e, h1])))
    · exact Or.inr (Or.inr (Int32.toInt_inj.mp (by rw [e, h2])))
  · rintro (rfl | rfl | rfl)
    · rw [h0]; omega
    · rw [h1]; omega
    · rw [h2]; omega
theorem sX_about {p : Nat} {a : Int32} {Q : Int32 → MI → MJ → Prop} (hV : VOK g V nC len) (hS : St g V nC len I) (hp : p < g.2.1) (h : Q (if a = 0 ∨ a = 1 ∨ a = 2 then av V p a else (-102)) I J) : wX11_about g (nI p) a I J Q := by
  have hp8 := vok_p hV
  unfold wX11_about
  rw [eX_personAt (x10 hS) hp8, ixOf_nI hp (by omega)]
  refine ⟨fun k => (by cases k), fun r hr => ?_⟩
  cases hr
  by_cases h0 : a = 0
  · subst h0
    exact br_t rfl (sX_kind hV hS hp h)
  refine br_f h0 ?_
  by_cases h1 : a = 1
  · subst h1
    exact br_t rfl (sX_n hV hS hp h)
  refine br_f h1 ?_
  by_cases h2 : a = 2
  · subst h2
    refine br_t rfl ?_
    rw [(hS.2.2.2.1 p hp).2.1]
    exact h
  refine br_f h2 ?_
  rw [if_neg (by simp [h0, h1, h2])] at h
  exact h
theorem sM_memberNow {p : Nat} {a : Int32} {Q : Int32 → MI → MJ → Prop} (hV : VOK g V nC len) (hS : St g V nC len I) (hp : p < g.2.1) (h : Q (av V p a) I J) : wX12_memberNow g (nI p) a I J Q := by
  have hp8 := vok_p hV
  have i3 : vp_in (nI p) 8 := vp_in_nI (by omega) (by decide)
  unfold wX12_memberNow
  rw [cl_nI (by omega), mv_at hS.1 p (k := 18) (by decide), mv_at hS.1 p (k := 19) (by decide), mv_at hS.1 p (k := 20) (by decide)]
  unfold av at h
  by_cases h0 : a = 0
  · rw [if_pos h0] at h; exact br_f' h0 ⟨i3, h⟩
  rw [if_neg h0] at h
  refine br_t' h0 ?_
  by_cases h1 : a = 1
  · rw [if_pos h1] at h; exact br_f' h1 ⟨i3, h⟩
  rw [if_neg h1] at h
  exact br_t' h1 ⟨i3, h⟩
theorem p_op7 : op7 Inv := by
  rintro g I J a1 a2 ⟨V, nC, len, hV, hS⟩
  have hp8 := vok_p hV
  cases h : ixOf a1 g.2.1 with
  | none =>
    unfold wX11_about
    rw [eX_personAt (x10 hS) hp8, h]
    refine ⟨fun _ => ?_, fun r hr => by cases hr⟩
    try dsimp only
    unfold wX12_about
    rw [eM_isMember (m0 hV hS) (by omega), h, bs_none]
    exact br_f' rfl ⟨rfl, hS.inv hV⟩
  | some p =>
    obtain ⟨hp, rfl⟩ := ixOf_some h
    refine sX_about hV hS hp ?_
    try dsimp only
    unfold wX12_about
    rw [eM_isMember (m0 hV hS) (by omega), h, bs_some]
    refine br_t' (by decide) ?_
    rw [eM_within, b2i_c lt3]
    by_cases hw : a2 = 0 ∨ a2 = 1 ∨ a2 = 2
    · rw [b2i_t hw, if_pos hw]
      exact br_f (by decide) (sM_memberNow hV hS hp ⟨rfl, hS.inv hV⟩)
    · rw [b2i_f hw, if_neg hw]
      exact br_t rfl ⟨rfl, hS.inv hV⟩
theorem p_op31 : op31 Inv := by
  rintro g I J a1 ⟨V, nC, len, hV, hS⟩
  unfold wX11_count wX12_count wX12_howMany
  rw [x10 hS, x11 hS, x9 hS, hS.2.1.2.2.2.2]
  by_cases h0 : a1 = 0
  · refine br_t h0 (br_t h0 ?_); rw [m0 hV hS]; exact ⟨rfl, hS.inv hV⟩
  refine br_f h0 ?_
  by_cases h1 : a1 = 1
  · refine br_t h1 (br_f h0 (br_t h1 ?_)); rw [m4 hV hS]; exact ⟨rfl, hS.inv hV⟩
  refine br_f h1 ?_
  by_cases h2 : a1 = 2
  · refine br_t h2 (br_f h0 (br_f h1 (br_t h2 ?_))); rw [m7 hV hS]; exact ⟨rfl, hS.inv hV⟩
  refine br_f h2 ?_
  by_cases h3 : a1 = 3
  · refine br_t h3 (br_f h0 (br_f h1 (br_f h2 (br_t h3 ?_)))); rw [m13 hV hS]; exact ⟨rfl, hS.inv hV⟩
  refine br_f h3 ?_
  by_cases h4 : a1 = 4
  · exact br_t h4 (sX_howManyMinded hV hS (br_f h0 (br_f h1 (br_f h2 (br_f h3 (br_t h4 (sM_mindedMany hV hS ⟨rfl, hS.inv hV⟩)))))))
  · exact br_f h4 (br_f h0 (br_f h1 (br_f h2 (br_f h3 (br_f h4 ⟨rfl, hS.inv hV⟩)))))
theorem sX_friend {c : Nat} {a : Int32} {Q : Int32 → MI → MJ → Prop} (hV : VOK g V nC len) (hS : St g V nC len I) (hc : c < nC) (h : Q (if a = 0 ∨ a = 1 ∨ a = 2 then fv V g.2.1 c a else (-102)) I J) : wX11_friend g (nI c) a I J Q := by
  have hc6 := vok_c hV
  unfold wX11_friend
  rw [eX_isCandidate (x11 hS) hc6, ixOf_nI hc (by omega), bs_some]
  refine br_t' (by decide) ?_
  by_cases h0 : a = 0
  · subst h0
    exact br_t rfl (sX_friendOf hV hS hc h)
  refine br_f h0 ?_
  by_cases h1 : a = 1
  · subst h1
    refine br_t rfl (sX_isMinded hV hS (by omega) ?_)
    have h : Q (b2i (isMin V g.2.1 c = true)) I J := h
    by_cases hm : isMin V g.2.1 c = true
    · rw [b2i_t hm] at h ⊢; exact br_f (by decide) h
    · rw [b2i_f hm] at h ⊢; exact br_t rfl h
  refine br_f h1 ?_
  by_cases h2 : a = 2
  · subst h2
    exact br_t rfl (sX_howManyMindMuch hV hS (by omega) h)
  refine br_f h2 ?_
  rw [if_neg (by simp [h0, h1, h2])] at h
  exact h
theorem sM_candidateNow {c : Nat} {a : Int32} {Q : Int32 → MI → MJ → Prop} (hV : VOK g V nC len) (hS : St g V nC len I) (hc : c < nC) (h : Q (fv V g.2.1 c a) I J) : wX12_candidateNow g (nI c) a I J Q := by
  have hc6 := vok_c hV
  unfold wX12_candidateNow
  unfold fv at h
  by_cases h0 : a = 0
  · rw [if_pos h0] at h
    refine br_f' h0 ⟨vp_in_nI (by omega) (by decide), ?_⟩
    rw [cl_nI (by omega), mv_at hS.1 c (k := 21) (by decide)]
    exact h
  rw [if_neg h0] at h
  refine br_t' h0 ?_
  by_cases h1 : a = 1
  · rw [if_pos h1] at h
    refine br_f' h1 (sM_isMinded hV hS (by omega) ?_)
    by_cases hm : isMin V g.2.1 c = true
    · rw [b2i_t hm] at h ⊢; exact br_f (by decide) h
    · rw [b2i_f hm] at h ⊢; exact br_t rfl h
  rw [if_neg h1] at h
  exact br_t' h1 (sM_mindedBy hV hS (by omega) h)
theorem p_op11 : op11 Inv := by
  rintro g I J a1 a2 ⟨V, nC, len, hV, hS⟩
  have hc6 := vok_c hV
  cases h : ixOf a1 nC with
  | none =>
    unfold wX11_friend
    rw [eX_isCandidate (x11 hS) hc6, h, bs_none]
    refine br_f' rfl ?_
    try dsimp only
    unfold wX12_friend
    rw [eM_isCandidate (m4 hV hS) (by omega), h, bs_none]
    exact br_f' rfl ⟨rfl, hS.inv hV⟩
  | some c =>
    obtain ⟨hc, rfl⟩ := ixOf_some h
    refine sX_friend hV hS hc ?_
    try dsimp only
    unfold wX12_friend
    rw [eM_isCandidate (m4 hV hS) (by omega), h, bs_some]
    refine br_t' (by decide) ?_
    rw [eM_within, b2i_c lt3]
    by_cases hw : a2 = 0 ∨ a2 = 1 ∨ a2 = 2
    · rw [b2i_t hw, if_pos hw]
      exact br_f (by decide) (sM_candidateNow hV hS hc ⟨rfl, hS.inv hV⟩)
    · rw [b2i_f hw, if_neg hw]
      exact br_t rfl ⟨rfl, hS.inv hV⟩
theorem p_op28 : op28 Inv := by
  rintro g I J a1 a2 ⟨V, nC, len, hV, hS⟩
  have hc6 := vok_c hV
  unfold wX11_lot
  cases h : ixOf a1 nC with
  | none =>
    rw [eX_isCandidate (x11 hS) hc6, h, bs_none]
    refine br_f' rfl ?_
    try dsimp only
    unfold wX12_lot
    rw [eM_isCandidate (m4 hV hS) (by omega), h, bs_none]
    exact br_f' rfl ⟨rfl, hS.inv hV⟩
  | some c =>
    obtain ⟨hc, rfl⟩ := ixOf_some h
    rw [eX_isCandidate (x11 hS) hc6, h, bs_some]
    refine br_t' (by decide) ?_
    rw [eX_isPart]
    have HM : wX12_lot g (nI c) a2 I J = fun Q => wX12_lot g (nI c) a2 I J Q := rfl
    by_cases hw : a2 = 0 ∨ a2 = 1
    · rw [b2i_t hw]
      refine br_t' (by decide) (sX_isMinded hV hS (by omega) ?_)
      by_cases hm : isMin V g.2.1 c = true
      · rw [b2i_t hm]
        refine br_f (by decide) ?_
        try dsimp only
        unfold wX12_lot
        rw [eM_isCandidate (m4 hV hS) (by omega), h, bs_some]
        refine br_t' (by decide) ?_
        rw [eM_isPart, b2i_t hw]
        refine br_t' (by decide) (sM_isMinded hV hS (by omega) ?_)
        rw [b2i_t hm]
        exact br_f (by decide) ⟨rfl, hS.inv hV⟩
      · rw [b2i_f hm]
        refine br_t rfl ?_
        by_cases h0 : a2 = 0
        · refine br_f' h0 ?_
          try dsimp only
          unfold wX12_lot
          rw [eM_isCandidate (m4 hV hS) (by omega), h, bs_some]
          refine br_t' (by decide) ?_
          rw [eM_isPart, b2i_t hw]
          refine br_t' (by decide) (sM_isMinded hV hS (by omega) ?_)
          rw [b2i_f hm]
          exact br_t rfl (br_f' h0 ⟨rfl, hS.inv hV⟩)
        · refine br_t' h0 (sX_howManyMinded hV hS ?_)
          try dsimp only
          unfold wX12_lot
          rw [eM_isCandidate (m4 hV hS) (by omega), h, bs_some]
          refine br_t' (by decide) ?_
          rw [eM_isPart, b2i_t hw]
          refine br_t' (by decide) (sM_isMinded hV hS (by omega) ?_)
          rw [b2i_f hm]
          refine br_t rfl (br_t' h0 (sM_mindedMany hV hS ?_))
          rw [x11 hS, m4 hV hS]
          exact ⟨rfl, hS.inv hV⟩
    · rw [b2i_f hw]
      refine br_f' rfl ?_
      try dsimp only
      unfold wX12_lot
      rw [eM_isCandidate (m4 hV hS) (by omega), h, bs_some]
      refine br_t' (by decide) ?_
      rw [eM_isPart, b2i_f hw]
      exact br_f' rfl ⟨rfl, hS.inv hV⟩
end Ops1
