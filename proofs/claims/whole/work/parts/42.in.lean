/-! in how many ways a candidate is let in -/
def shB (V : MV) (r k came : Nat) : Bool := if V 24 r ≤ 0 then decide (¬ nI k < V 23 r) else decide (¬ V 24 r * nI k < nI came)
def sumS (W : Nat → Int64) (f : Nat → Bool) : Nat → Int64
  | 0 => 0
  | n + 1 => sumS W f n + (if f n then W n else 0)
theorem sumS_s (W : Nat → Int64) (f : Nat → Bool) (n : Nat) : sumS W f (n + 1) = sumS W f n + (if f n then W n else 0) := rfl
theorem sumS_hi {W : Nat → Int64} {f : Nat → Bool} {a : Nat} (h : ∀ k, a ≤ k → W k = 0) : ∀ b, a ≤ b → sumS W f b = sumS W f a
  | 0, hb => by rw [show a = 0 by omega]
  | b + 1, hb => by
    by_cases e : a = b + 1
    · rw [e]
    · rw [sumS_s, sumS_hi h b (by omega), h b (by omega)]
      simp
def outV (V : MV) (r c cs nP thought : Nat) : Int64 := sumS (dpM (vBlack V (wat V r thought) c) cs.testBit nP) (fun k => shB V r k (pc cs)) 9
def inV (V : MV) (r c cs nP : Nat) : Int64 :=
  if pc cs = 0 ∨ nI (pc cs) < V 25 r then 0
  else if V 26 r = 0 then (t10 (pc cs) - outV V r c cs nP (pc cs)) * t10 (pc cs) else t10 (pc cs) * t10 (pc cs) - outV V r c cs nP (pc cs) * outV V r c cs nP (pc cs)
theorem dpM_c {bl : Nat → Int32} {s s' : Nat → Bool} : ∀ n, (∀ m, m < n → s m = s' m) → dpM bl s n = dpM bl s' n
  | 0, _ => rfl
  | n + 1, h => by rw [dpM, dpM, h n (by omega), dpM_c n (fun m hm => h m (by omega))]
theorem cnt_c {s s' : Nat → Bool} : ∀ n, (∀ m, m < n → s m = s' m) → cnt s n = cnt s' n
  | 0, _ => rfl
  | n + 1, h => by rw [cnt, cnt, h n (by omega), cnt_c n (fun m hm => h m (by omega))]
theorem nI_neg : ∀ m, m < 9 → ¬ nI m = -1 := by decide
theorem selO_neg {cs m : Nat} (h : m < 9) : selO cs (-1) m = cs.testBit m := by
  simp [selO, nI_neg m h]
theorem rule_xor {V : MV} {r : Nat} (h : ruleV V r) : (V 24 r ≤ 0 ∧ ¬ V 23 r ≤ 0) ∨ (¬ V 24 r ≤ 0 ∧ V 23 r ≤ 0) := by
  obtain ⟨bl, ra, qu, h1, h2, e1, e2, -⟩ := h
  rw [e1, e2]
  rcases h1 with ⟨a, b, rfl⟩ | ⟨rfl, a, b⟩
  · exact Or.inl ⟨nI_le (a := 0) (b := 0) (by decide) (by decide), nI_nle (by omega) (by omega)⟩
  · exact Or.inr ⟨nI_nle (by omega) (by omega), nI_le (a := 0) (b := 0) (by decide) (by decide)⟩
section InW
variable {g : GS} {V : MV} {nC len : Nat} {I : MI} {J : MJ}
theorem s_onesp {cs : Nat} {Q : Int32 → MI → MJ → Prop} (hc : cs < 1024) (h : Q (nI (pc cs)) I J) : wX12_ones g (nI cs) I J Q := s_ones hc h
theorem s_bcp {cs : Nat} {Q : Int32 → MI → MJ → Prop} (hc : cs < 1024) (h : Q (nI (pc cs)) I J) : wJ6_bitCount_0f7a4 g (nI cs) I J Q := s_bc hc h
theorem sX_shutsOut {r k came : Nat} {Q : Int32 → MI → MJ → Prop} (hS : St g V nC len I) (hr : r < g.2.2) (h : Q (b2i (shB V r k came = true)) I J) : wX6_shutsOut g r (nI k) (nI came) I J Q := by
  unfold wX6_shutsOut
  have e := hS.2.2.1 r hr
  rw [e.1, e.2.1]
  by_cases h1 : V 24 r ≤ 0
  · refine br_t h1 ?_
    by_cases h2 : nI k < V 23 r
    · rw [b2i_f (by simp [shB, h1, h2])] at h
      exact br_t h2 h
    · rw [b2i_t (by simp [shB, h1, h2])] at h
      exact br_f h2 h
  · refine br_f h1 ?_
    by_cases h2 : V 24 r * nI k < nI came
    · rw [b2i_f (by simp [shB, h1, h2])] at h
      exact br_t h2 h
    · rw [b2i_t (by simp [shB, h1, h2])] at h
      exact br_f h2 h
theorem sM_shuts {r k came : Nat} {Q : Int32 → MI → MJ → Prop} (hV : VOK g V nC len) (hS : St g V nC len I) (hr : r < g.2.2) (h : Q (b2i (shB V r k came = true)) I J) : wX12_shuts g (nI r) (nI k) (nI came) I J Q := by
  have hr6 := vok_r hV
  have i1 : vp_in (nI r) 6 := vp_in_nI (by omega) (by decide)
  unfold wX12_shuts
  rw [cl_nI (by omega), mv_at hS.1 r (k := 23) (by decide), mv_at hS.1 r (k := 24) (by decide)]
  refine ⟨i1, ?_⟩
  rcases rule_xor (hV.2.2.1 r hr) with ⟨h1, h3⟩ | ⟨h1, h3⟩
  · refine br_f h3 ⟨i1, ?_⟩
    by_cases h2 : nI k < V 23 r
    · rw [b2i_f (by simp [shB, h1, h2])] at h
      exact br_t h2 h
    · rw [b2i_t (by simp [shB, h1, h2])] at h
      exact br_f h2 h
  · refine br_t h3 ⟨i1, ?_⟩
    by_cases h2 : V 24 r * nI k < nI came
    · rw [b2i_f (by simp [shB, h1, h2])] at h
      exact br_t h2 h
    · rw [b2i_t (by simp [shB, h1, h2])] at h
      exact br_f h2 h
theorem sX_hasQuorum {r n : Nat} {Q : Int32 → MI → MJ → Prop} (hS : St g V nC len I) (hr : r < g.2.2) (hn : n < 2 ^ 31) (h : Q (b2i (¬ (n = 0 ∨ nI n < V 25 r))) I J) : wX6_hasQuorum g r (nI n) I J Q := by
  unfold wX6_hasQuorum
  rw [(hS.2.2.1 r hr).2.2.1]
  by_cases h0 : n = 0
  · subst h0
    rw [b2i_f (by simp)] at h
    exact br_t (nI_le (a := 0) (b := 0) (by decide) (by decide)) h
  · refine br_f (nI_nle (by omega) hn) ?_
    by_cases h1 : nI n < V 25 r
    · rw [b2i_f (by simp [h1])] at h
      exact br_t h1 h
    · rw [b2i_t (by simp [h0, h1])] at h
      exact br_f h1 h
theorem pc_n {cs n : Nat} (h : cs < 2 ^ n) (hn : n ≤ 8) : pc cs = cnt cs.testBit n := cnt_cs h (by omega)
theorem lt256 {cs n : Nat} (h : cs < 2 ^ n) (hn : n ≤ 8) : cs < 256 := Nat.lt_of_lt_of_le h (pow8 hn)
theorem sX_inWays {r c cs : Nat} {Q : Int64 → MI → MJ → Prop} (hV : VOK g V nC len) (hS : St g V nC len I) (hr : r < g.2.2) (hc : c < nC) (hcs : cs < 2 ^ g.2.1) (h : ∀ I1 J1, St g V nC len I1 → Q (inV V r c cs g.2.1) I1 J1) : wX11_inWays g r (nI c) (nI cs) I J Q := by
  have hp8 := vok_p hV
  have h256 := lt256 hcs hp8
  have h10 := pc_le cs
  unfold wX11_inWays
  refine s_bcp (by omega) (sX_hasQuorum hS hr (by omega) ?_)
  unfold inV at h
  by_cases hq : pc cs = 0 ∨ nI (pc cs) < V 25 r
  · rw [if_pos hq] at h
    rw [b2i_f (by simp [hq])]
    exact br_f' rfl (h _ _ hS)
  · rw [if_neg hq] at h
    rw [b2i_t (by simp [hq])]
    refine br_t' (by decide) (sX_isWatched hS hr (by omega) (sX_tallyBalls hV hS hc h256 (fun I1 J1 hS1 hT1 => ?_)))
    rw [b2i_dec, ← pc_n hcs hp8] at hT1
    unfold wX7_all
    rw [hT1.2.2.2.2]
    have hW0 := hT1.2.2.2.1
    have ho : outV V r c cs g.2.1 (pc cs) = sumS (dpM (vBlack V (wat V r (pc cs)) c) cs.testBit g.2.1) (fun k => shB V r k (pc cs)) (pc cs + 1) := by
      unfold outV
      have h8 := hT1.2.1
      exact sumS_hi (fun k hk => hW0 k (by omega)) 9 (by omega)
    rw [ho] at h
    have key : ∀ d i, i + d = pc cs + 1 → wX11_inWays_b43 g Q (d + 1) r (nI (pc cs)) (t10 (pc cs)) (sumS (dpM (vBlack V (wat V r (pc cs)) c) cs.testBit g.2.1) (fun k => shB V r k (pc cs)) i) (nI i) I1 J1 := by
      intro d
      induction d with
      | zero =>
        intro i hi
        have : i = pc cs + 1 := by omega
        subst this
        unfold wX11_inWays_b43
        refine br_t (nI_lt (by omega) (by omega)) ?_
        rw [(hS1.2.2.1 r hr).2.2.2.1]
        have h := h _ J1 hS1
        by_cases h2 : V 26 r = 0
        · rw [if_pos h2] at h
          exact br_t h2 h
        · rw [if_neg h2] at h
          exact br_f h2 h
      | succ d ih =>
        intro i hi
        unfold wX11_inWays_b43
        refine br_f (nI_nlt (by omega) (by omega)) (sX_shutsOut hS1 hr ?_)
        have ih2 := ih (i + 1) (by omega)
        rw [sumS_s] at ih2
        by_cases hs : shB V r i (pc cs) = true
        · rw [b2i_t hs]
          rw [if_pos hs] at ih2
          refine br_f (by decide) (sX_waysTo hT1 (by omega) ?_)
          unfold wX11_inWays_b75
          rw [nI_1]
          exact ih2
        · rw [b2i_f hs]
          rw [if_neg hs, Int64.add_zero] at ih2
          refine br_t rfl ?_
          unfold wX11_inWays_b75
          rw [nI_1]
          exact ih2
    exact ⟨pc cs + 2, key (pc cs + 1) 0 (by omega)⟩
theorem sM_shutByF {r c cs came : Nat} {Q : Int64 → MI → MJ → Prop} (hV : VOK g V nC len) (hS : St g V nC len I) (hr : r < g.2.2) (hc : c < nC) (hcs : cs < 2 ^ g.2.1) (hcm : came ≤ 100) (h : ∀ J1, J1 17 = J 17 → Q (outV V r c cs g.2.1 came) I J1) : wX12_shutBy g (nI r) (nI c) (nI cs) (nI came) I J Q := by
  have hp8 := vok_p hV
  have h256 := lt256 hcs hp8
  have h10 := pc_le cs
  unfold wX12_shutBy
  refine sM_layWaysF hV hS hr hc h256 hcm (fun J1 hJ1 hF => ⟨10, ?_⟩)
  have key : ∀ d i, i + d = 9 → wX12_shutBy_b16 g Q (d + 1) (nI r) (nI cs) (sumS (dpM (vBlack V (wat V r came) c) cs.testBit g.2.1) (fun k => shB V r k (pc cs)) i) (nI i) I J1 := by
    intro d
    induction d with
    | zero =>
      intro i hi
      have : i = 9 := by omega
      subst this
      unfold wX12_shutBy_b16
      exact br_t (nI_le (a := 9) (Nat.le_refl _) (by omega)) (h J1 hF)
    | succ d ih =>
      intro i hi
      unfold wX12_shutBy_b16
      refine br_f (nI_ge (b := 9) (by omega) (by omega)) (s_onesp (by omega) (sM_shuts hV hS hr ?_))
      have ih2 := ih (i + 1) (by omega)
      rw [sumS_s] at ih2
      unfold wX12_shutBy_b50
      rw [nI_1, cl_nI (by omega), hJ1 i (by omega), dpM_c g.2.1 (fun m hm => selO_neg (by omega))]
      by_cases hs : shB V r i (pc cs) = true
      · rw [b2i_t hs]
        rw [if_pos hs] at ih2
        exact br_f (by decide) ⟨vp_in_nI (by omega) (by decide), ih2⟩
      · rw [b2i_f hs]
        rw [if_neg hs] at ih2
        exact br_t rfl ih2
  exact key 9 0 (by omega)
theorem sM_shutBy {r c cs came : Nat} {Q : Int64 → MI → MJ → Prop} (hV : VOK g V nC len) (hS : St g V nC len I) (hr : r < g.2.2) (hc : c < nC) (hcs : cs < 2 ^ g.2.1) (hcm : came ≤ 100) (h : ∀ J1, Q (outV V r c cs g.2.1 came) I J1) : wX12_shutBy g (nI r) (nI c) (nI cs) (nI came) I J Q := sM_shutByF hV hS hr hc hcs hcm (fun J1 _ => h J1)
theorem two_mul_nI (n : Nat) : 2 * nI n = nI (n + n) := by
  rw [show (2 : Int32) = nI 2 from rfl, pk_mul, Nat.two_mul]
theorem sM_inByF {r c cs : Nat} {Q : Int64 → MI → MJ → Prop} (hV : VOK g V nC len) (hS : St g V nC len I) (hr : r < g.2.2) (hc : c < nC) (hcs : cs < 2 ^ g.2.1) (h : ∀ J1, J1 17 = J 17 → Q (inV V r c cs g.2.1) I J1) : wX12_inBy g (nI r) (nI c) (nI cs) I J Q := by
  have hp8 := vok_p hV
  have hr6 := vok_r hV
  have h256 := lt256 hcs hp8
  have h10 := pc_le cs
  have i1 : vp_in (nI r) 6 := vp_in_nI (by omega) (by decide)
  unfold wX12_inBy
  refine s_onesp (by omega) ?_
  unfold inV at h
  rw [cl_nI (by omega), mv_at hS.1 r (k := 25) (by decide)]
  by_cases h0 : pc cs = 0
  · rw [if_pos (Or.inl h0)] at h
    exact br_t (show nI (pc cs) = 0 by rw [h0]; rfl) (h _ rfl)
  · refine br_f (nI_ne0 (Nat.pos_of_ne_zero h0) (by omega)) ⟨i1, ?_⟩
    by_cases hq : nI (pc cs) < V 25 r
    · rw [if_pos (Or.inr hq)] at h
      exact br_f (show ¬ V 25 r ≤ nI (pc cs) by rw [ti_lt] at hq; rw [ti_le]; omega) (h _ rfl)
    · rw [if_neg (by simp [h0, hq])] at h
      refine br_t (show V 25 r ≤ nI (pc cs) by rw [ti_lt] at hq; rw [ti_le]; omega) (sM_shutByF hV hS hr hc hcs (by omega) (fun J1 hF => ⟨i1, ?_⟩))
      rw [mv_at hS.1 r (k := 26) (by decide)]
      by_cases h2 : V 26 r = 0
      · rw [if_pos h2] at h
        exact br_t h2 (s_tens (by omega) (s_tens (by omega) (h J1 hF)))
      · rw [if_neg h2] at h
        refine br_f h2 ?_
        rw [show 2 * nI (cnt cs.testBit 10) = nI (pc cs + pc cs) from two_mul_nI _]
        refine s_tens (by omega) ?_
        rw [t10_add]
        exact h J1 hF
theorem sM_inBy {r c cs : Nat} {Q : Int64 → MI → MJ → Prop} (hV : VOK g V nC len) (hS : St g V nC len I) (hr : r < g.2.2) (hc : c < nC) (hcs : cs < 2 ^ g.2.1) (h : ∀ J1, Q (inV V r c cs g.2.1) I J1) : wX12_inBy g (nI r) (nI c) (nI cs) I J Q := sM_inByF hV hS hr hc hcs (fun J1 _ => h J1)
theorem sX_squaredTens {cs : Nat} {Q : Int64 → MI → MJ → Prop} (hcs : cs < 1024) (h : Q (t10 (pc cs + pc cs)) I J) : wX11_squaredTens g (nI cs) I J Q := by
  have h10 := pc_le cs
  unfold wX11_squaredTens
  refine s_bcp hcs (s_power (by omega) ?_)
  rw [t10_add] at h
  exact h
theorem eM_areThere {a b : Int32} {Q : Int32 → MI → MJ → Prop} (hV : VOK g V nC len) (hS : St g V nC len I) : wX12_areThere g a b I J Q = Q (b2i ((ixOf a g.2.2).isSome = true ∧ (ixOf b nC).isSome = true)) I J := by
  have hr6 := vok_r hV
  have hc6 := vok_c hV
  unfold wX12_areThere
  rw [eM_isRule (m7 hV hS) (by omega), eM_isCandidate (m4 hV hS) (by omega)]
  apply propext
  by_cases h1 : (ixOf a g.2.2).isSome = true
  · by_cases h2 : (ixOf b nC).isSome = true
    · simp [b2i, h1, h2]
    · simp [b2i, h1, h2]
  · simp [b2i, h1]
theorem p_op14 : op14 Inv := by
  rintro g I J a1 a2 a3 a4 ⟨V, nC, len, hV, hS⟩
  have hr6 := vok_r hV
  have hp8 := vok_p hV
  have hc6 := vok_c hV
  have hi := hS.inv (J := J) hV
  unfold wX11_in
  rw [eX_ruleAt (x9 hS) hr6]
  cases h : ixOf a1 g.2.2 with
  | none =>
    refine ⟨fun _ => ?_, fun r hr => by cases hr⟩
    try dsimp only
    unfold wX12_in
    rw [eM_areThere hV hS, h, b2i_f (by simp)]
    exact br_f' rfl ⟨rfl, hi⟩
  | some r =>
    obtain ⟨hr, rfl⟩ := ixOf_some h
    refine ⟨fun k => (by cases k), fun r' hr' => ?_⟩
    cases hr'
    rw [eX_isCandidate (x11 hS) hc6]
    cases h2 : ixOf a2 nC with
    | none =>
      rw [bs_none]
      refine br_f' rfl ?_
      try dsimp only
      unfold wX12_in
      rw [eM_areThere hV hS, h2, b2i_f (by simp)]
      exact br_f' rfl ⟨rfl, hi⟩
    | some c =>
      obtain ⟨hc, rfl⟩ := ixOf_some h2
      rw [bs_some]
      refine br_t' (by decide) ?_
      rw [eX_areComers (x10 hS) hp8]
      have K : ∀ {I1 : MI} {J1 : MJ} {v : Int64}, St g V nC len I1 → (∀ Q : Int64 → MI → MJ → Prop, (∀ J2, Q v I1 J2) → wX12_areComers g a3 I1 J1 (fun r15 I15 J15 => ((r15 = 0 → Q ((-102)) I15 J15) ∧ (¬ r15 = 0 → wX12_isPart g a4 I15 J15 (fun r23 I23 J23 => ((¬ r23 = 0 → wX12_inBy g (nI r) (nI c) a3 I23 J23 (fun r37 I37 J37 => wX12_ones g a3 I37 J37 (fun r42 I42 J42 => wX12_tens g (2 * r42) I42 J42 (fun r46 I46 J46 => wX12_lowest g r37 r46 a4 I46 J46 (fun r51 I51 J51 => Q r51 I51 J51))))) ∧ (r23 = 0 → Q ((-102)) I23 J23))))))) → wX12_in g (nI r) (nI c) a3 a4 I1 J1 (fun r2 I2 J2 => v = r2 ∧ Inv g I2 J2) := by
        intro I1 J1 v hS1 hv
        unfold wX12_in
        rw [eM_areThere hV hS1, h, h2, b2i_t (by simp)]
        exact br_t' (by decide) (hv (fun r2 I2 J2 => v = r2 ∧ Inv g I2 J2) (fun J2 => ⟨rfl, hS1.inv hV⟩))
      cases h3 : csOf a3 g.2.1 with
      | none =>
        rw [bs_none]
        refine br_t rfl (K hS (fun Q hQ => ?_))
        rw [eM_areComers (m0 hV hS) hp8, h3, bs_none]
        exact br_t rfl (hQ _)
      | some cs =>
        obtain ⟨q1, q2, rfl⟩ := csOf_some h3
        have q3 := lt256 q2 hp8
        have h10 := pc_le cs
        have h8 : pc cs ≤ 8 := by rw [pc_n q2 hp8]; exact Nat.le_trans (cnt_le _ _) hp8
        rw [bs_some]
        refine br_f (by decide) ?_
        rw [eX_isPart]
        by_cases hp : a4 = 0 ∨ a4 = 1
        · rw [b2i_t hp]
          refine br_t' (by decide) (sX_inWays hV hS hr hc q2 (fun I1 J1 hS1 => sX_squaredTens (by omega) (sX_lowest (t10_ne _ (by omega)) (K hS1 (fun Q hQ => ?_)))))
          rw [eM_areComers (m0 hV hS1) hp8, h3, bs_some]
          refine br_f (by decide) ?_
          rw [eM_isPart, b2i_t hp]
          refine br_t' (by decide) (sM_inBy hV hS1 hr hc q2 (fun J2 => s_onesp (by omega) ?_))
          rw [show 2 * nI (cnt cs.testBit 10) = nI (pc cs + pc cs) from two_mul_nI _]
          exact s_tens (by omega) (sM_lowest (t10_ne _ (by omega)) (hQ _))
        · rw [b2i_f hp]
          refine br_f' rfl (K hS (fun Q hQ => ?_))
          rw [eM_areComers (m0 hV hS) hp8, h3, bs_some]
          refine br_f (by decide) ?_
          rw [eM_isPart, b2i_f hp]
          exact br_f' rfl (hQ _)
end InW
