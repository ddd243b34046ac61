/-! trade -/
def othF (V : MV) (c p q : Nat) : Nat → Bool := fun j => much V c j && !(decide (j = p) || decide (j = q))
def inB (V : MV) (r k nP : Nat) : Bool := !(decide (nP = 0 ∨ nI nP < V 25 r)) && !shB V r k nP
def gnV (V : MV) (r c d n1 n2 nP m k : Nat) : Int32 := (if inB V r (n1 + k / 2 % 2) nP then 5 - V 22 (6 * m + c) else 0) + (if inB V r (n2 + k % 2) nP then 5 - V 22 (6 * m + d) else 0)
def trOk (V : MV) (r c d n1 n2 nP p q k : Nat) : Prop := ¬ gnV V r c d n1 n2 nP p k < gnV V r c d n1 n2 nP p (k ^^^ 1) ∧ ¬ gnV V r c d n1 n2 nP q k < gnV V r c d n1 n2 nP q (k ^^^ 2)
abbrev trC (V : MV) (r c d n1 n2 nP p q k : Nat) : Prop := ¬ gnV V r c d n1 n2 nP p k < gnV V r c d n1 n2 nP p (k ^^^ 1) ∧ ¬ gnV V r c d n1 n2 nP q k < gnV V r c d n1 n2 nP q (k ^^^ 2)
def trV (V : MV) (r c d n1 n2 nP p q : Nat) : Nat → Int32
  | 0 => 0
  | k + 1 => if trC V r c d n1 n2 nP p q k then trV V r c d n1 n2 nP p q k ||| (1 <<< (nI k &&& 31)) else trV V r c d n1 n2 nP p q k
theorem trV_s (V : MV) (r c d n1 n2 nP p q k : Nat) : trV V r c d n1 n2 nP p q (k + 1) = if trC V r c d n1 n2 nP p q k then trV V r c d n1 n2 nP p q k ||| (1 <<< (nI k &&& 31)) else trV V r c d n1 n2 nP p q k := rfl
theorem pl_hi : ∀ k, k < 4 → (nI k >>> (1 &&& 31)) &&& 1 = nI (k / 2 % 2) := by decide
theorem pl_lo : ∀ k, k < 4 → nI k &&& 1 = nI (k % 2) := by decide
theorem pl_x1 : ∀ k, k < 4 → nI k ^^^ 1 = nI (k ^^^ 1) ∧ k ^^^ 1 < 4 := by decide
theorem pl_x2 : ∀ k, k < 4 → nI k ^^^ 2 = nI (k ^^^ 2) ∧ k ^^^ 2 < 4 := by decide
def cod (a b : Bool) : Int32 := (if a then 1 else 0) ||| (if b then 2 else 0)
theorem cod_bit : ∀ a b : Bool, ∀ t, t < 2 → ((cod a b >>> (nI t &&& 31)) &&& 1) = if (if t = 0 then a else b) then 1 else 0 := by decide
section Trade
variable {g : GS} {V : MV} {nC len : Nat} {I : MI} {J : MJ}
theorem sX_letsIn {r k n : Nat} {Q : Int32 → MI → MJ → Prop} (hS : St g V nC len I) (hr : r < g.2.2) (hn : n < 2 ^ 31) (h : Q (b2i (inB V r k n = true)) I J) : wX6_letsIn g r (nI k) (nI n) I J Q := by
  unfold wX6_letsIn
  refine sX_hasQuorum hS hr hn ?_
  by_cases hq : n = 0 ∨ nI n < V 25 r
  · rw [b2i_f (p := inB V r k n = true) (by simp [inB, hq])] at h
    rw [b2i_f (by simp [hq])]
    exact br_t rfl h
  · rw [b2i_t hq]
    refine br_f (by decide) (sX_shutsOut hS hr ?_)
    by_cases hs : shB V r k n = true
    · rw [b2i_f (p := inB V r k n = true) (by simp [inB, hs])] at h
      rw [b2i_t hs]
      exact br_t' (by decide) h
    · rw [b2i_t (p := inB V r k n = true) (by simp [inB, hs, hq])] at h
      rw [b2i_f hs]
      exact br_f' rfl h
theorem sX_letIn {r c p q : Nat} {Q : Int32 → MI → MJ → Prop} (hV : VOK g V nC len) (hS : St g V nC len I) (hr : r < g.2.2) (hc : c < 6) (hp : p < 8) (hq : q < 8) (h : Q (cod (inB V r (cnt (othF V c p q) g.2.1) g.2.1) (inB V r (cnt (othF V c p q) g.2.1 + 1) g.2.1)) I J) : wX11_letInByOneBall g r (nI c) (nI p) (nI q) I J Q := by
  have hp8 := vok_p hV
  unfold wX11_letInByOneBall
  refine loop_0 (fun n i (s : Int32) => wX11_letInByOneBall_b6 g Q n r (nI c) (nI p) (nI q) s (nI i) I J) (fun i s => s = nI (cnt (othF V c p q) i)) g.2.1 0 rfl (fun n s hs => ?_) (fun n i s hi hs ih => ?_)
  · unfold wX11_letInByOneBall_b6 wX11_letInByOneBall_b69 wX11_letInByOneBall_b91
    rw [x10 hS, hs, nI_1]
    refine br_t (nI_le (Nat.le_refl _) (by omega)) (sX_letsIn hS hr (by omega) ?_)
    unfold cod at h
    by_cases h1 : inB V r (cnt (othF V c p q) g.2.1) g.2.1 = true
    · rw [if_pos h1] at h
      rw [b2i_t h1]
      refine br_f (by decide) ?_
      try dsimp only
      rw [x10 hS]
      refine sX_letsIn hS hr (by omega) ?_
      by_cases h2 : inB V r (cnt (othF V c p q) g.2.1 + 1) g.2.1 = true
      · rw [if_pos h2] at h
        rw [b2i_t h2]
        exact br_f (by decide) h
      · rw [if_neg h2] at h
        rw [b2i_f h2]
        exact br_t rfl h
    · rw [if_neg h1] at h
      rw [b2i_f h1]
      refine br_t rfl ?_
      try dsimp only
      rw [x10 hS]
      refine sX_letsIn hS hr (by omega) ?_
      by_cases h2 : inB V r (cnt (othF V c p q) g.2.1 + 1) g.2.1 = true
      · rw [if_pos h2] at h
        rw [b2i_t h2]
        exact br_f (by decide) h
      · rw [if_neg h2] at h
        rw [b2i_f h2]
        exact br_t rfl h
  · unfold wX11_letInByOneBall_b6 wX11_letInByOneBall_b45
    rw [x10 hS, cl_nI (by omega), hs, nI_1 i]
    refine br_f (nI_ge hi (by omega)) ?_
    by_cases e1 : i = p
    · exact br_t (by rw [e1]) (ih _ (by rw [cnt_s, if_neg (by simp [othF, e1])]; rfl))
    refine br_f (fun k => e1 ((nI_eq (by omega) (by omega)).mp k)) ?_
    by_cases e2 : i = q
    · exact br_t (by rw [e2]) (ih _ (by rw [cnt_s, if_neg (by simp [othF, e2])]; rfl))
    refine br_f (fun k => e2 ((nI_eq (by omega) (by omega)).mp k)) ⟨vp_in_nI (by omega) (by decide), br_f' hi (sX_mindsMuch hS hi hc ?_)⟩
    by_cases hm : much V c i = true
    · rw [b2i_t hm]
      refine br_f (by decide) (ih _ ?_)
      rw [cnt_s, if_pos (by simp [othF, e1, e2, hm]), nI_1]
    · rw [b2i_f hm]
      refine br_t rfl (ih _ ?_)
      rw [cnt_s, if_neg (by simp [othF, hm])]
      rfl
theorem sX_gain {r c d n1 n2 m k : Nat} {Q : Int32 → MI → MJ → Prop} (hS : St g V nC len I) (hm : m < g.2.1) (hc : c < 6) (hd : d < 6) (hk : k < 4) (h : Q (gnV V r c d n1 n2 g.2.1 m k) I J) : wX11_gain g m (nI c) (cod (inB V r n1 g.2.1) (inB V r (n1 + 1) g.2.1)) (nI d) (cod (inB V r n2 g.2.1) (inB V r (n2 + 1) g.2.1)) (nI k) I J Q := by
  unfold wX11_gain
  refine sX_mindsOf hS hm hc (sX_mindsOf hS hm hd ?_)
  rw [pl_hi k hk, pl_lo k hk, cod_bit _ _ _ (by omega), cod_bit _ _ _ (by omega)]
  unfold gnV at h
  have sel : ∀ (n t : Nat) (x : Int32), t < 2 → (if (if t = 0 then inB V r n g.2.1 else inB V r (n + 1) g.2.1) = true then (1 : Int32) else 0) * x = if inB V r (n + t) g.2.1 = true then x else 0 := by
    intro n t x ht
    rcases (show t = 0 ∨ t = 1 by omega) with rfl | rfl
    · by_cases e : inB V r n g.2.1 = true <;> simp [e]
    · by_cases e : inB V r (n + 1) g.2.1 = true <;> simp [e]
  rw [sel _ _ _ (by omega), sel _ _ _ (by omega)]
  exact h
theorem sM_isInBy {r c p q b : Nat} {Q : Int32 → MI → MJ → Prop} (hV : VOK g V nC len) (hS : St g V nC len I) (hr : r < g.2.2) (hc : c < 6) (hp : p < g.2.1) (hq : q < 8) (hb : b < 2) (h : Q (b2i (inB V r (cnt (othF V c p q) g.2.1 + b) g.2.1 = true)) I J) : wX12_isInBy g (nI r) (nI c) (nI p) (nI q) (nI b) I J Q := by
  have hp8 := vok_p hV
  have hr6 := vok_r hV
  unfold wX12_isInBy
  refine loop_0 (fun n i (s : Int32) => wX12_isInBy_b7 g Q n (nI r) (nI c) (nI p) (nI q) s (nI i) I J) (fun i s => s = nI (cnt (othF V c p q) i + b)) g.2.1 (nI b) (by rw [show cnt (othF V c p q) 0 = 0 from rfl, Nat.zero_add]) (fun n s hs => ?_) (fun n i s hi hs ih => ?_)
  · unfold wX12_isInBy_b7
    rw [m0 hV hS, hs, cl_nI (by omega), mv_at hS.1 r (k := 25) (by decide)]
    refine br_t (nI_le (Nat.le_refl _) (by omega)) ⟨vp_in_nI (by omega) (by decide), ?_⟩
    by_cases hqu : nI g.2.1 < V 25 r
    · rw [b2i_f (by simp [inB, hqu])] at h
      exact br_t hqu h
    · refine br_f hqu (sM_shuts hV hS hr ?_)
      by_cases hs2 : shB V r (cnt (othF V c p q) g.2.1 + b) g.2.1 = true
      · rw [b2i_f (by simp [inB, hs2])] at h
        rw [b2i_t hs2]
        exact br_t' (by decide) h
      · rw [b2i_t (by simp [inB, hs2, hqu]; omega)] at h
        rw [b2i_f hs2]
        exact br_f' rfl h
  · unfold wX12_isInBy_b7 wX12_isInBy_b51 wX12_isInBy_b52
    rw [m0 hV hS, hs, nI_1 i, ix6, cl_nI (show 6 * i + c < 2 ^ 31 by omega), mv_at hS.1 _ (k := 22) (by decide)]
    refine br_f (nI_ge hi (by omega)) ?_
    rw [Int32.add_zero]
    by_cases e1 : i = p
    · exact br_t (by rw [e1]) (ih _ (by rw [cnt_s, if_neg (by simp [othF, e1])]; rfl))
    refine br_f (fun k => e1 ((nI_eq (by omega) (by omega)).mp k)) ?_
    by_cases e2 : i = q
    · exact br_t (by rw [e2]) (ih _ (by rw [cnt_s, if_neg (by simp [othF, e2])]; rfl))
    refine br_f (fun k => e2 ((nI_eq (by omega) (by omega)).mp k)) ⟨vp_in_nI (by omega) (by decide), ?_⟩
    by_cases hm : V 22 (6 * i + c) < 5
    · refine br_t hm (ih _ ?_)
      rw [cnt_s, if_neg (by simp [othF, much, hm])]
      rfl
    · refine br_f hm (ih _ ?_)
      rw [cnt_s, if_pos (by simp [othF, much, e1, e2, hm]), nI_1]
      congr 1
      omega
def TM (I : MI) (p q c d : Nat) : Prop := I 17 0 29 = nI p ∧ I 17 0 30 = nI q ∧ I 17 0 31 = nI c ∧ I 17 0 32 = nI d
theorem sM_gain {r c d p q m k : Nat} {Q : Int32 → MI → MJ → Prop} (hV : VOK g V nC len) (hS : St g V nC len I) (hT : TM I p q c d) (hr : r < g.2.2) (hp : p < g.2.1) (hq : q < g.2.1) (hm : m < g.2.1) (hc : c < 6) (hd : d < 6) (hk : k < 4) (h : Q (gnV V r c d (cnt (othF V c p q) g.2.1) (cnt (othF V d p q) g.2.1) g.2.1 m k) I J) : wX12_gain g (nI r) (nI m) (nI k) I J Q := by
  have hp8 := vok_p hV
  obtain ⟨t1, t2, t3, t4⟩ := hT
  unfold wX12_gain
  rw [t1, t2, t3, pl_hi k hk, pl_lo k hk]
  refine sM_isInBy hV hS hr hc hp (by omega) (by omega) ?_
  rw [t1, t2, t4]
  refine sM_isInBy hV hS hr hd hp (by omega) (by omega) ?_
  unfold gnV at h
  unfold wX12_gain_b71
  rw [t3, t4, ix6, ix6, cl_nI (show 6 * m + c < 2 ^ 31 by omega), cl_nI (show 6 * m + d < 2 ^ 31 by omega), mv_at hS.1 (6 * m + c) (k := 22) (by decide), mv_at hS.1 (6 * m + d) (k := 22) (by decide)]
  by_cases e1 : inB V r (cnt (othF V c p q) g.2.1 + k / 2 % 2) g.2.1 = true
  · rw [if_pos e1] at h
    rw [b2i_t e1]
    refine br_f (by decide) ⟨vp_in_nI (by omega) (by decide), ?_⟩
    by_cases e2 : inB V r (cnt (othF V d p q) g.2.1 + k % 2) g.2.1 = true
    · rw [if_pos e2] at h
      rw [b2i_t e2]
      exact br_f (by decide) ⟨vp_in_nI (by omega) (by decide), h⟩
    · rw [if_neg e2] at h
      rw [b2i_f e2]
      exact br_t rfl h
  · rw [if_neg e1] at h
    rw [b2i_f e1]
    refine br_t rfl ?_
    by_cases e2 : inB V r (cnt (othF V d p q) g.2.1 + k % 2) g.2.1 = true
    · rw [if_pos e2] at h
      rw [b2i_t e2]
      exact br_f (by decide) ⟨vp_in_nI (by omega) (by decide), h⟩
    · rw [if_neg e2] at h
      rw [b2i_f e2]
      exact br_t rfl h
theorem p_op24 : op24 Inv := by
  rintro g I J a1 a2 a3 a4 a5 ⟨V, nC, len, hV, hS⟩
  have hr6 := vok_r hV
  have hp8 := vok_p hV
  have hc6 := vok_c hV
  have hi : ∀ J, Inv g I J := fun J => hS.inv (J := J) hV
  have lp : g.2.1 < 2 ^ 31 := by omega
  have lr : g.2.2 < 2 ^ 31 := by omega
  have lc : nC < 2 ^ 31 := by omega
  unfold wX11_trade
  rw [eX_ruleAt (x9 hS) hr6]
  cases h : ixOf a1 g.2.2 with
  | none => cases h2 : ixOf a2 g.2.1 <;> cases h3 : ixOf a3 g.2.1 <;> simp [wX12_trade, eM_isRule (m7 hV hS) lr, eX_personAt (x10 hS) hp8, h, h2, h3, b2i, hi]
  | some r =>
    obtain ⟨hr, rfl⟩ := ixOf_some h
    refine ⟨fun k => (by cases k), fun r' hr' => ?_⟩
    cases hr'
    rw [eX_personAt (x10 hS) hp8]
    cases h2 : ixOf a2 g.2.1 with
    | none => cases h3 : ixOf a3 g.2.1 <;> simp [wX12_trade, eM_isRule (m7 hV hS) lr, eM_isMember (m0 hV hS) lp, eX_personAt (x10 hS) hp8, h, h2, h3, b2i, hi]
    | some p =>
      obtain ⟨hp, rfl⟩ := ixOf_some h2
      refine ⟨fun k => (by cases k), fun r' hr' => ?_⟩
      cases hr'
      rw [eX_personAt (x10 hS) hp8]
      cases h3 : ixOf a3 g.2.1 with
      | none => simp [wX12_trade, eM_isRule (m7 hV hS) lr, eM_isMember (m0 hV hS) lp, h, h2, h3, b2i, hi]
      | some q =>
        obtain ⟨hq, rfl⟩ := ixOf_some h3
        refine ⟨fun k => (by cases k), fun r' hr' => ?_⟩
        cases hr'
        by_cases hpq : nI p = nI q
        case pos => simp [wX12_trade, eM_isRule (m7 hV hS) lr, eM_isMember (m0 hV hS) lp, h, h3, hpq, b2i, hi]
        refine br_t' hpq ?_
        rw [eX_isCandidate (x11 hS) hc6]
        cases h4 : ixOf a4 nC with
        | none => simp [wX12_trade, eM_isRule (m7 hV hS) lr, eM_isMember (m0 hV hS) lp, eM_isCandidate (m4 hV hS) lc, h, h2, h3, h4, hpq, b2i, hi]
        | some c =>
          obtain ⟨hc, rfl⟩ := ixOf_some h4
          rw [bs_some]
          refine br_f (by decide) ?_
          rw [eX_isCandidate (x11 hS) hc6]
          cases h5 : ixOf a5 nC with
          | none => simp [wX12_trade, eM_isRule (m7 hV hS) lr, eM_isMember (m0 hV hS) lp, eM_isCandidate (m4 hV hS) lc, h, h2, h3, h4, h5, hpq, b2i, hi]
          | some d =>
            obtain ⟨hd, rfl⟩ := ixOf_some h5
            rw [bs_some]
            refine br_f (by decide) ?_
            by_cases hcd : nI c = nI d
            case pos => simp [wX12_trade, eM_isRule (m7 hV hS) lr, eM_isMember (m0 hV hS) lp, eM_isCandidate (m4 hV hS) lc, h, h2, h3, h5, hpq, hcd, b2i, hi]
            refine br_t' hcd (sX_letIn hV hS hr (by omega) (by omega) (by omega) (sX_letIn hV hS hr (by omega) (by omega) (by omega) ?_))
            have fin : wX12_trade g (nI r) (nI p) (nI q) (nI c) (nI d) I J (fun r2 I2 J2 => trV V r c d (cnt (othF V c p q) g.2.1) (cnt (othF V d p q) g.2.1) g.2.1 p q 4 = r2 ∧ Inv g I2 J2) := by
              unfold wX12_trade
              rw [eM_isRule (m7 hV hS) lr, h, bs_some]
              refine br_f (by decide) ?_
              rw [eM_isMember (m0 hV hS) lp, h2, bs_some]
              refine br_f (by decide) ?_
              rw [eM_isMember (m0 hV hS) lp, h3, bs_some]
              refine br_f (by decide) (br_f hpq ?_)
              rw [eM_isCandidate (m4 hV hS) lc, h4, bs_some]
              refine br_f (by decide) ?_
              rw [eM_isCandidate (m4 hV hS) lc, h5, bs_some]
              refine br_f (by decide) (br_t' hcd (nm_e ?_))
              have hS1 := (((hS.m17 (j := 29) (v := nI p) (by decide)).m17 (j := 30) (v := nI q) (by decide)).m17 (j := 31) (v := nI c) (by decide)).m17 (j := 32) (v := nI d) (by decide)
              have hT : TM (u3 (u3 (u3 (u3 I 17 0 (upd (I 17 0) 29 (nI p))) 17 0 (upd ((u3 I 17 0 (upd (I 17 0) 29 (nI p))) 17 0) 30 (nI q))) 17 0 (upd ((u3 (u3 I 17 0 (upd (I 17 0) 29 (nI p))) 17 0 (upd ((u3 I 17 0 (upd (I 17 0) 29 (nI p))) 17 0) 30 (nI q))) 17 0) 31 (nI c))) 17 0 (upd ((u3 (u3 (u3 I 17 0 (upd (I 17 0) 29 (nI p))) 17 0 (upd ((u3 I 17 0 (upd (I 17 0) 29 (nI p))) 17 0) 30 (nI q))) 17 0 (upd ((u3 (u3 I 17 0 (upd (I 17 0) 29 (nI p))) 17 0 (upd ((u3 I 17 0 (upd (I 17 0) 29 (nI p))) 17 0) 30 (nI q))) 17 0) 31 (nI c))) 17 0) 32 (nI d))) p q c d := by
                unfold TM
                refine ⟨?_, ?_, ?_, ?_⟩
                · rw [u3_same, pk_un (by decide), u3_same, pk_un (by decide), u3_same, pk_un (by decide), u3_same, pk_us]
                · rw [u3_same, pk_un (by decide), u3_same, pk_un (by decide), u3_same, pk_us]
                · rw [u3_same, pk_un (by decide), u3_same, pk_us]
                · rw [u3_same, pk_us]
              revert hS1 hT
              generalize u3 (u3 (u3 (u3 I 17 0 (upd (I 17 0) 29 (nI p))) 17 0 (upd ((u3 I 17 0 (upd (I 17 0) 29 (nI p))) 17 0) 30 (nI q))) 17 0 (upd ((u3 (u3 I 17 0 (upd (I 17 0) 29 (nI p))) 17 0 (upd ((u3 I 17 0 (upd (I 17 0) 29 (nI p))) 17 0) 30 (nI q))) 17 0) 31 (nI c))) 17 0 (upd ((u3 (u3 (u3 I 17 0 (upd (I 17 0) 29 (nI p))) 17 0 (upd ((u3 I 17 0 (upd (I 17 0) 29 (nI p))) 17 0) 30 (nI q))) 17 0 (upd ((u3 (u3 I 17 0 (upd (I 17 0) 29 (nI p))) 17 0 (upd ((u3 I 17 0 (upd (I 17 0) 29 (nI p))) 17 0) 30 (nI q))) 17 0) 31 (nI c))) 17 0) 32 (nI d)) = I1
              intro hS1 hT
              refine loop_0 (fun n k (s : Int32) => wX12_trade_b85 g (fun r2 I2 J2 => trV V r c d (cnt (othF V c p q) g.2.1) (cnt (othF V d p q) g.2.1) g.2.1 p q 4 = r2 ∧ Inv g I2 J2) n (nI r) (nI p) (nI q) s (nI k) I1 J) (fun k s => s = trV V r c d (cnt (othF V c p q) g.2.1) (cnt (othF V d p q) g.2.1) g.2.1 p q k) 4 0 rfl (fun n s hs => ?_) (fun n k s hk hs ih => ?_)
              · unfold wX12_trade_b85
                exact br_t (nI_le (a := 4) (Nat.le_refl _) (by decide)) ⟨hs.symm, hS1.inv hV⟩
              · unfold wX12_trade_b85
                refine br_f (nI_ge (b := 4) hk (by decide)) (sM_gain hV hS1 hT hr hp hq hp (by omega) (by omega) hk ?_)
                rw [(pl_x1 k hk).1, (pl_x2 k hk).1]
                refine sM_gain hV hS1 hT hr hp hq hp (by omega) (by omega) (pl_x1 k hk).2 ?_
                have no : ¬ trC V r c d (cnt (othF V c p q) g.2.1) (cnt (othF V d p q) g.2.1) g.2.1 p q k → wX12_trade_b137 g (fun v1 v2 v3 v6 v7 I J => wX12_trade_b85 g (fun r2 I2 J2 => trV V r c d (cnt (othF V c p q) g.2.1) (cnt (othF V d p q) g.2.1) g.2.1 p q 4 = r2 ∧ Inv g I2 J2) n v1 v2 v3 v6 v7 I J) (fun r2 I2 J2 => trV V r c d (cnt (othF V c p q) g.2.1) (cnt (othF V d p q) g.2.1) g.2.1 p q 4 = r2 ∧ Inv g I2 J2) (nI r) (nI p) (nI q) s (nI k) I1 J := by
                  intro e
                  unfold wX12_trade_b137 wX12_trade_b138 wX12_trade_b155
                  rw [Int32.or_zero, nI_1]
                  exact br_t rfl (ih _ (by rw [trV_s, if_neg e]; exact hs))
                by_cases e1 : gnV V r c d (cnt (othF V c p q) g.2.1) (cnt (othF V d p q) g.2.1) g.2.1 p k < gnV V r c d (cnt (othF V c p q) g.2.1) (cnt (othF V d p q) g.2.1) g.2.1 p (k ^^^ 1)
                · exact br_t e1 (no (fun z => z.1 e1))
                · refine br_f e1 (sM_gain hV hS1 hT hr hp hq hq (by omega) (by omega) hk (sM_gain hV hS1 hT hr hp hq hq (by omega) (by omega) (pl_x2 k hk).2 ?_))
                  by_cases e2 : gnV V r c d (cnt (othF V c p q) g.2.1) (cnt (othF V d p q) g.2.1) g.2.1 q k < gnV V r c d (cnt (othF V c p q) g.2.1) (cnt (othF V d p q) g.2.1) g.2.1 q (k ^^^ 2)
                  · exact br_t e2 (no (fun z => z.2 e2))
                  · refine br_f e2 ?_
                    unfold wX12_trade_b138 wX12_trade_b155
                    rw [nI_1]
                    exact br_f (by decide) (ih _ (by rw [trV_s, if_pos ⟨e1, e2⟩, hs]))
            refine loop_0 (fun n k (s : Int32) => wX11_trade_b102 g (fun r1 I1 J1 => wX12_trade g (nI r) (nI p) (nI q) (nI c) (nI d) I1 J1 (fun r2 I2 J2 => r1 = r2 ∧ Inv g I2 J2)) n (nI c) (nI d) p q (cod (inB V r (cnt (othF V c p q) g.2.1) g.2.1) (inB V r (cnt (othF V c p q) g.2.1 + 1) g.2.1)) (cod (inB V r (cnt (othF V d p q) g.2.1) g.2.1) (inB V r (cnt (othF V d p q) g.2.1 + 1) g.2.1)) s (nI k) I J) (fun k s => s = trV V r c d (cnt (othF V c p q) g.2.1) (cnt (othF V d p q) g.2.1) g.2.1 p q k) 4 0 rfl (fun n s hs => ?_) (fun n k s hk hs ih => ?_)
            · unfold wX11_trade_b102
              rw [hs]
              exact br_t (nI_le (a := 4) (Nat.le_refl _) (by decide)) fin
            · unfold wX11_trade_b102
              refine br_f (nI_ge (b := 4) hk (by decide)) (sX_gain hS hp (by omega) (by omega) hk ?_)
              unfold wX11_trade_b148 wX11_trade_b190 wX11_trade_b211
              rw [(pl_x1 k hk).1, (pl_x2 k hk).1, nI_1]
              refine sX_gain hS hp (by omega) (by omega) (pl_x1 k hk).2 ?_
              by_cases e1 : gnV V r c d (cnt (othF V c p q) g.2.1) (cnt (othF V d p q) g.2.1) g.2.1 p k < gnV V r c d (cnt (othF V c p q) g.2.1) (cnt (othF V d p q) g.2.1) g.2.1 p (k ^^^ 1)
              · refine br_t e1 (sX_gain hS hq (by omega) (by omega) hk (sX_gain hS hq (by omega) (by omega) (pl_x2 k hk).2 ?_))
                have R := ih s (by rw [trV_s, if_neg (fun z => z.1 e1)]; exact hs)
                by_cases e2 : gnV V r c d (cnt (othF V c p q) g.2.1) (cnt (othF V d p q) g.2.1) g.2.1 q k < gnV V r c d (cnt (othF V c p q) g.2.1) (cnt (othF V d p q) g.2.1) g.2.1 q (k ^^^ 2)
                · exact br_t e2 (br_t rfl R)
                · exact br_f e2 (br_t rfl R)
              · refine br_f e1 (sX_gain hS hq (by omega) (by omega) hk (sX_gain hS hq (by omega) (by omega) (pl_x2 k hk).2 ?_))
                by_cases e2 : gnV V r c d (cnt (othF V c p q) g.2.1) (cnt (othF V d p q) g.2.1) g.2.1 q k < gnV V r c d (cnt (othF V c p q) g.2.1) (cnt (othF V d p q) g.2.1) g.2.1 q (k ^^^ 2)
                · exact br_t e2 (br_f (by decide) (br_t rfl (ih s (by rw [trV_s, if_neg (fun z => z.2 e2)]; exact hs))))
                · exact br_f e2 (br_f (by decide) (br_f (by decide) (ih _ (by rw [trV_s, if_pos ⟨e1, e2⟩, hs]))))
end Trade
