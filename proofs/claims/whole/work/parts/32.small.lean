/-! who minds whom; BLACK; the small readers -/
theorem ix6 (p c : Nat) : 6 * nI p + nI c = nI (6 * p + c) := by rw [show (6 : Int32) = nI 6 from rfl, pk_mul, nI_add]
theorem br_f' {c A B : Prop} (h : c) (b : B) : (¬ c → A) ∧ (c → B) := ⟨fun k => absurd h k, fun _ => b⟩
theorem br_t' {c A B : Prop} (h : ¬ c) (b : A) : (¬ c → A) ∧ (c → B) := ⟨fun _ => b, fun k => absurd k h⟩
theorem bs_some {c : Nat} : b2i ((some c).isSome = true) = 1 := rfl
theorem bs_none : b2i ((none : Option Nat).isSome = true) = 0 := rfl
def much (V : MV) (c : Nat) : Nat → Bool := fun p => decide (¬ V 22 (6 * p + c) < 5)
def isMin (V : MV) (nP : Nat) : Nat → Bool := fun c => decide (2 ≤ cnt (much V c) nP)
theorem cnt_s (f : Nat → Bool) (n : Nat) : cnt f (n + 1) = cnt f n + (if f n then 1 else 0) := rfl
section SmallOps
variable {g : GS} {V : MV} {nC len : Nat} {I : MI} {J : MJ}
theorem vok_p (hV : VOK g V nC len) : g.2.1 ≤ 8 := hV.1.1
theorem vok_r (hV : VOK g V nC len) : g.2.2 ≤ 6 := hV.1.2.1
theorem vok_c (hV : VOK g V nC len) : nC ≤ 6 := hV.1.2.2.1
theorem x9 (hS : St g V nC len I) : I 0 0 9 = nI g.2.2 := hS.2.1.1
theorem x10 (hS : St g V nC len I) : I 0 0 10 = nI g.2.1 := hS.2.1.2.1
theorem x11 (hS : St g V nC len I) : I 0 0 11 = nI nC := hS.2.1.2.2.1
theorem m7 (hV : VOK g V nC len) (hS : St g V nC len I) : I 17 0 7 = nI g.2.2 := (mv_17 hS.1 (by decide)).trans hV.2.1.1
theorem m0 (hV : VOK g V nC len) (hS : St g V nC len I) : I 17 0 0 = nI g.2.1 := (mv_17 hS.1 (by decide)).trans hV.2.1.2.1
theorem m4 (hV : VOK g V nC len) (hS : St g V nC len I) : I 17 0 4 = nI nC := (mv_17 hS.1 (by decide)).trans hV.2.1.2.2.1
theorem m13 (hV : VOK g V nC len) (hS : St g V nC len I) : I 17 0 13 = nI len := (mv_17 hS.1 (by decide)).trans hV.2.1.2.2.2
theorem sX_mindsOf {p c : Nat} {Q : Int32 → MI → MJ → Prop} (hS : St g V nC len I) (hp : p < g.2.1) (hc : c < 6) (h : Q (V 22 (6 * p + c)) I J) : wX5_mindsOf g p (nI c) I J Q := by
  unfold wX5_mindsOf
  refine br_f (nI_pos (by omega)) (br_f (nI_ge (b := 6) hc (by decide)) ⟨vp_in_nI hc (by decide), ?_⟩)
  rw [cl_nI (by omega), (hS.2.2.2.1 p hp).2.2.2.2.1 c hc]
  exact h
theorem sX_mindsMuch {p c : Nat} {Q : Int32 → MI → MJ → Prop} (hS : St g V nC len I) (hp : p < g.2.1) (hc : c < 6) (h : Q (b2i (much V c p = true)) I J) : wX5_mindsMuch g p (nI c) I J Q := by
  unfold wX5_mindsMuch
  refine sX_mindsOf hS hp hc ?_
  by_cases hx : V 22 (6 * p + c) < 5
  · rw [b2i_f (by simp [much, hx])] at h
    exact br_t hx h
  · rw [b2i_t (by simp [much, hx])] at h
    exact br_f hx h
theorem sX_howManyMindMuch {c : Nat} {Q : Int32 → MI → MJ → Prop} (hV : VOK g V nC len) (hS : St g V nC len I) (hc : c < 6) (h : Q (nI (cnt (much V c) g.2.1)) I J) : wX11_howManyMindMuch g (nI c) I J Q := by
  have hp8 := vok_p hV
  have key : ∀ d i, i + d = g.2.1 → wX11_howManyMindMuch_b4 g Q (d + 1) (nI c) (nI (cnt (much V c) i)) (nI i) I J := by
    intro d
    induction d with
    | zero =>
      intro i hi
      have : i = g.2.1 := by omega
      subst this
      unfold wX11_howManyMindMuch_b4
      rw [x10 hS]
      exact br_t (nI_le (Nat.le_refl _) (by omega)) h
    | succ d ih =>
      intro i hi
      unfold wX11_howManyMindMuch_b4
      rw [x10 hS, cl_nI (by omega)]
      refine br_f (nI_ge (by omega) (by omega)) ⟨vp_in_nI (by omega) (by decide), br_f' (by omega) (sX_mindsMuch hS (by omega) hc ?_)⟩
      have ih2 := ih (i + 1) (by omega)
      rw [cnt_s] at ih2
      unfold wX11_howManyMindMuch_b28
      rw [nI_1]
      by_cases hm : much V c i = true
      · rw [b2i_t hm]
        rw [if_pos hm] at ih2
        refine br_f (by decide) ?_
        rw [nI_1]
        exact ih2
      · rw [b2i_f hm]
        rw [if_neg hm] at ih2
        exact br_t rfl ih2
  exact ⟨_, key g.2.1 0 (by omega)⟩
theorem sM_mindedBy {c : Nat} {Q : Int32 → MI → MJ → Prop} (hV : VOK g V nC len) (hS : St g V nC len I) (hc : c < 6) (h : Q (nI (cnt (much V c) g.2.1)) I J) : wX12_mindedBy g (nI c) I J Q := by
  have hp8 := vok_p hV
  have key : ∀ d i, i + d = g.2.1 → wX12_mindedBy_b4 g Q (d + 1) (nI c) (nI (cnt (much V c) i)) (nI i) I J := by
    intro d
    induction d with
    | zero =>
      intro i hi
      have : i = g.2.1 := by omega
      subst this
      unfold wX12_mindedBy_b4
      rw [m0 hV hS]
      exact br_t (nI_le (Nat.le_refl _) (by omega)) h
    | succ d ih =>
      intro i hi
      unfold wX12_mindedBy_b4
      rw [m0 hV hS, ix6, cl_nI (by omega), mv_at hS.1 _ (by decide)]
      refine br_f (nI_ge (by omega) (by omega)) ⟨vp_in_nI (by omega) (by decide), ?_⟩
      have ih2 := ih (i + 1) (by omega)
      rw [cnt_s] at ih2
      unfold wX12_mindedBy_b33
      rw [nI_1]
      by_cases hm : V 22 (6 * i + c) < 5
      · rw [if_neg (by simp [much, hm])] at ih2
        refine br_t hm ?_
        rw [show nI (cnt (much V c) i) + 0 = nI (cnt (much V c) i) by simp]
        exact ih2
      · rw [if_pos (by simp [much, hm])] at ih2
        refine br_f hm ?_
        rw [nI_1]
        exact ih2
  exact ⟨_, key g.2.1 0 (by omega)⟩
theorem cnt8 (hV : VOK g V nC len) (f : Nat → Bool) : cnt f g.2.1 ≤ 8 := Nat.le_trans (cnt_le f _) (vok_p hV)
theorem sX_isMinded {c : Nat} {Q : Int32 → MI → MJ → Prop} (hV : VOK g V nC len) (hS : St g V nC len I) (hc : c < 6) (h : Q (b2i (isMin V g.2.1 c = true)) I J) : wX11_isMinded g (nI c) I J Q := by
  have h8 := cnt8 hV (much V c)
  unfold wX11_isMinded
  refine sX_howManyMindMuch hV hS hc ?_
  by_cases hx : cnt (much V c) g.2.1 < 2
  · rw [b2i_f (by simp [isMin]; omega)] at h
    exact br_t (nI_lt (b := 2) hx (by decide)) h
  · rw [b2i_t (by simp [isMin]; omega)] at h
    exact br_f (nI_nlt (b := 2) (by omega) (by omega)) h
theorem sM_isMinded {c : Nat} {Q : Int32 → MI → MJ → Prop} (hV : VOK g V nC len) (hS : St g V nC len I) (hc : c < 6) (h : Q (b2i (isMin V g.2.1 c = true)) I J) : wX12_isMinded g (nI c) I J Q := by
  have h8 := cnt8 hV (much V c)
  unfold wX12_isMinded
  refine sM_mindedBy hV hS hc ?_
  by_cases hx : cnt (much V c) g.2.1 < 2
  · rw [b2i_f (by simp [isMin]; omega)] at h
    exact br_t (nI_le (b := 1) (by omega) (by decide)) h
  · rw [b2i_t (by simp [isMin]; omega)] at h
    exact br_f (nI_ge (a := 1) (by omega) (by omega)) h
theorem sX_howManyMinded {Q : Int32 → MI → MJ → Prop} (hV : VOK g V nC len) (hS : St g V nC len I) (h : Q (nI (cnt (isMin V g.2.1) nC)) I J) : wX11_howManyMinded g I J Q := by
  have hc6 := vok_c hV
  have key : ∀ d i, i + d = nC → wX11_howManyMinded_b4 g Q (d + 1) (nI (cnt (isMin V g.2.1) i)) (nI i) I J := by
    intro d
    induction d with
    | zero =>
      intro i hi
      have : i = nC := by omega
      subst this
      unfold wX11_howManyMinded_b4
      rw [x11 hS]
      exact br_t (nI_le (Nat.le_refl _) (by omega)) h
    | succ d ih =>
      intro i hi
      unfold wX11_howManyMinded_b4
      rw [x11 hS]
      refine br_f (nI_ge (by omega) (by omega)) (sX_isMinded hV hS (by omega) ?_)
      have ih2 := ih (i + 1) (by omega)
      rw [cnt_s] at ih2
      unfold wX11_howManyMinded_b23
      rw [nI_1]
      by_cases hm : isMin V g.2.1 i = true
      · rw [b2i_t hm]
        rw [if_pos hm] at ih2
        refine br_f (by decide) ?_
        rw [nI_1]
        exact ih2
      · rw [b2i_f hm]
        rw [if_neg hm] at ih2
        exact br_t rfl ih2
  exact ⟨_, key nC 0 (by omega)⟩
theorem sM_mindedMany {Q : Int32 → MI → MJ → Prop} (hV : VOK g V nC len) (hS : St g V nC len I) (h : Q (nI (cnt (isMin V g.2.1) nC)) I J) : wX12_mindedMany g I J Q := by
  have hc6 := vok_c hV
  have key : ∀ d i, i + d = nC → wX12_mindedMany_b4 g Q (d + 1) (nI (cnt (isMin V g.2.1) i)) (nI i) I J := by
    intro d
    induction d with
    | zero =>
      intro i hi
      have : i = nC := by omega
      subst this
      unfold wX12_mindedMany_b4
      rw [m4 hV hS]
      exact br_t (nI_le (Nat.le_refl _) (by omega)) h
    | succ d ih =>
      intro i hi
      unfold wX12_mindedMany_b4
      rw [m4 hV hS]
      refine br_f (nI_ge (by omega) (by omega)) (sM_isMinded hV hS (by omega) ?_)
      have ih2 := ih (i + 1) (by omega)
      rw [cnt_s] at ih2
      unfold wX12_mindedMany_b26
      rw [nI_1]
      by_cases hm : isMin V g.2.1 i = true
      · rw [b2i_t hm]
        rw [if_pos hm] at ih2
        refine br_f (by decide) ?_
        rw [nI_1]
        exact ih2
      · rw [b2i_f hm]
        rw [if_neg hm] at ih2
        refine br_t rfl ?_
        rw [show nI (cnt (isMin V g.2.1) i) + 0 = nI (cnt (isMin V g.2.1) i) by simp]
        exact ih2
  exact ⟨_, key nC 0 (by omega)⟩
/-- BLACK, in the model's words -/
def vBlack (V : MV) (w : Bool) (c m : Nat) : Int32 :=
  if V 21 c = nI m then 0
  else if V 18 m = 1 then (if w then V 22 (6 * m + c) / 2 else V 22 (6 * m + c))
  else if V 18 m = 2 then (V 22 (6 * m + c) * (10 - V 19 m) + V 19 m * (10 - V 22 (6 * m + c))) / 10
  else if V 18 m = 3 then (if V 21 c = V 19 m then 10 else V 22 (6 * m + c))
  else if V 18 m = 4 then (if V 21 c = V 19 m then 0 else V 22 (6 * m + c))
  else V 22 (6 * m + c)
theorem sX_friendOf {c : Nat} {Q : Int32 → MI → MJ → Prop} (hV : VOK g V nC len) (hS : St g V nC len I) (hc : c < nC) (h : Q (V 21 c) I J) : wX11_friendOf g (nI c) I J Q := by
  have hc6 := vok_c hV
  unfold wX11_friendOf
  rw [eX_isCandidate (x11 hS) hc6, ixOf_nI hc (by omega), bs_some]
  refine br_f (by decide) ⟨vp_in_nI (by omega) (by decide), ?_⟩
  rw [cl_nI (by omega), hS.2.2.2.2.1 c hc]
  exact h
theorem kd_split {V : MV} {p : Nat} (h : persV V p) : (V 18 p = 0 ∨ V 18 p = 1 ∨ V 18 p = 2 ∨ V 18 p = 3 ∨ V 18 p = 4) := by
  obtain ⟨kd, n, cm, h1, h2, h3, h4, h5, -⟩ := h
  rw [h4]
  rcases (show kd = 0 ∨ kd = 1 ∨ kd = 2 ∨ kd = 3 ∨ kd = 4 by omega) with rfl | rfl | rfl | rfl | rfl
  · exact Or.inl rfl
  · exact Or.inr (Or.inl rfl)
  · exact Or.inr (Or.inr (Or.inl rfl))
  · exact Or.inr (Or.inr (Or.inr (Or.inl rfl)))
  · exact Or.inr (Or.inr (Or.inr (Or.inr rfl)))
theorem sX_blackOf {m c : Nat} {w : Int32} {Q : Int32 → MI → MJ → Prop} (hV : VOK g V nC len) (hS : St g V nC len I) (hm : m < g.2.1) (hc : c < nC) (h : Q (vBlack V (decide (¬ w = 0)) c m) I J) : wX11_blackOf g m (nI c) w I J Q := by
  have hc6 := vok_c hV
  have hp := hS.2.2.2.1 m hm
  unfold wX11_blackOf
  refine sX_friendOf hV hS hc ?_
  unfold wX5_blackFor
  rw [hp.1]
  by_cases hf : V 21 c = nI m
  · simp only [vBlack, if_pos hf] at h
    exact ⟨fun hn => absurd hf hn, fun _ => h⟩
  · refine ⟨fun _ => ?_, fun hn => absurd hn hf⟩
    refine sX_mindsOf hS hm (by omega) ?_
    simp only [vBlack, if_neg hf] at h
    unfold wv_blackOfStranger
    rw [hp.2.2.1]
    rcases kd_split (hV.2.2.2.1 m hm) with e | e | e | e | e
    all_goals
      rw [e] at h ⊢
      have hx6 := hp.2.2.2.1
      rw [e] at hx6
    · refine ⟨fun k => absurd k (by decide), fun k => absurd k (by decide), fun k => absurd k (by decide), fun k => absurd k (by decide), fun _ => ?_⟩
      exact h
    · refine ⟨fun _ => ?_, fun k => absurd k (by decide), fun k => absurd k (by decide), fun k => absurd k (by decide), fun k => absurd (show kcOf 1 = 2 by decide) k.1⟩
      unfold wX2_blackOfStranger
      by_cases hw : w = 0
      · refine br_t hw ?_
        simpa [hw] using h
      · refine br_f hw ?_
        simpa [hw] using h
    · refine ⟨fun k => absurd k (by decide), fun _ => ?_, fun k => absurd k (by decide), fun k => absurd k (by decide), fun k => absurd (show kcOf 2 = 3 by decide) k.2.1⟩
      unfold wX3_blackOfStranger
      rw [hx6]
      exact h
    · refine ⟨fun k => absurd k (by decide), fun k => absurd k (by decide), fun k => absurd k (by decide), fun _ => ?_, fun k => absurd (show kcOf 3 = 10 by decide) k.2.2.2⟩
      unfold wX10_blackOfStranger
      rw [hx6]
      have h : Q (if V 21 c = V 19 m then 10 else V 22 (6 * m + c)) I J := h
      refine ⟨fun hn => ?_, fun hn => ?_⟩
      · have hn : ¬ V 21 c = V 19 m := hn
        rw [if_neg hn] at h; exact h
      · have hn : V 21 c = V 19 m := hn
        rw [if_pos hn] at h; exact h
    · refine ⟨fun k => absurd k (by decide), fun k => absurd k (by decide), fun _ => ?_, fun k => absurd k (by decide), fun k => absurd (show kcOf 4 = 8 by decide) k.2.2.1⟩
      unfold wX8_blackOfStranger wX10_n
      rw [hx6]
      have h : Q (if V 21 c = V 19 m then 0 else V 22 (6 * m + c)) I J := h
      refine ⟨fun hn => ?_, fun hn => ?_⟩
      · have hn : ¬ V 21 c = V 19 m := hn
        rw [if_neg hn] at h; exact h
      · have hn : V 21 c = V 19 m := hn
        rw [if_pos hn] at h; exact h
/-- whether a FEARED fears: the count is told, or few are thought to have come -/
def wat (V : MV) (r came : Nat) : Bool := decide (¬ V 27 r = 0 ∨ came < 4)
theorem sM_blackBy {r m c came : Nat} {Q : Int32 → MI → MJ → Prop} (hV : VOK g V nC len) (hS : St g V nC len I) (hr : r < g.2.2) (hm : m < g.2.1) (hc : c < nC) (hcm : came ≤ 100) (h : Q (vBlack V (wat V r came) c m) I J) : wX12_blackBy g (nI r) (nI c) (nI came) (nI m) I J Q := by
  have hc6 := vok_c hV
  have hp8 := vok_p hV
  have hr6 := vok_r hV
  unfold wX12_blackBy
  rw [ix6, cl_nI (show c < 2 ^ 31 by omega), cl_nI (show m < 2 ^ 31 by omega), cl_nI (show r < 2 ^ 31 by omega), cl_nI (show 6 * m + c < 2 ^ 31 by omega)]
  rw [mv_at hS.1 c (k := 21) (by decide), mv_at hS.1 m (k := 18) (by decide), mv_at hS.1 r (k := 27) (by decide), mv_at hS.1 _ (k := 22) (by decide), mv_at hS.1 m (k := 19) (by decide)]
  have i1 : vp_in (nI (6 * m + c)) 48 := vp_in_nI (by omega) (by decide)
  have i2 : vp_in (nI c) 6 := vp_in_nI (by omega) (by decide)
  have i3 : vp_in (nI m) 8 := vp_in_nI (by omega) (by decide)
  have i4 : vp_in (nI r) 6 := vp_in_nI (by omega) (by decide)
  refine ⟨i1, i2, ?_⟩
  by_cases hf : V 21 c = nI m
  · simp only [vBlack, if_pos hf] at h
    exact ⟨fun hn => absurd hf hn, fun _ => h⟩
  · refine ⟨fun _ => ⟨i3, ?_⟩, fun hn => absurd hn hf⟩
    simp only [vBlack, if_neg hf] at h
    rcases kd_split (hV.2.2.2.1 m hm) with e | e | e | e | e
    all_goals rw [e] at h ⊢
    · exact br_f (by decide) (br_f (by decide) (br_f (by decide) (br_f (by decide) h)))
    · refine br_t rfl ⟨i4, ?_⟩
      unfold wX12_blackBy_b78
      have h : Q (if wat V r came then V 22 (6 * m + c) / 2 else V 22 (6 * m + c)) I J := h
      unfold wat at h
      by_cases ht : V 27 r = 0
      · refine ⟨fun k => absurd ht k, fun _ => ?_⟩
        by_cases h4 : came < 4
        · refine br_f (nI_ge (b := 4) h4 (by decide)) ?_
          simpa [ht, h4] using h
        · refine br_t (nI_le (a := 4) (by omega) (by omega)) ?_
          simpa [ht, h4] using h
      · refine ⟨fun _ => ?_, fun k => absurd k ht⟩
        simpa [ht] using h
    · exact br_f (by decide) (br_t rfl ⟨i3, i3, h⟩)
    · refine br_f (by decide) (br_f (by decide) (br_t rfl ⟨i2, i3, ?_⟩))
      have h : Q (if V 21 c = V 19 m then 10 else V 22 (6 * m + c)) I J := h
      refine ⟨fun hn => ?_, fun hn => ?_⟩
      · rw [if_neg hn] at h; exact h
      · rw [if_pos hn] at h; exact h
    · refine br_f (by decide) (br_f (by decide) (br_f (by decide) (br_t rfl ⟨i2, i3, ?_⟩)))
      have h : Q (if V 21 c = V 19 m then 0 else V 22 (6 * m + c)) I J := h
      refine ⟨fun hn => ?_, fun hn => ?_⟩
      · rw [if_neg hn] at h; exact h
      · rw [if_pos hn] at h; exact h
end SmallOps
