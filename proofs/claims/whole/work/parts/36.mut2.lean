section Mut2
theorem p_op9 : op9 Inv := by
  rintro g I J a1 ⟨V, nC, len, hV, hS⟩
  have hp8 := vok_p hV
  have hc6 := vok_c hV
  have hi := hS.inv (J := J) hV
  unfold wX11_candidate
  rw [eX_personAt (x10 hS) hp8]
  cases h : ixOf a1 g.2.1 with
  | none =>
    refine ⟨fun _ => ?_, fun r hr => by cases hr⟩
    try dsimp only
    unfold wX12_candidate
    rw [eM_isMember (m0 hV hS) (by omega), h, bs_none]
    exact br_f' rfl ⟨rfl, hi⟩
  | some f =>
    obtain ⟨hf, rfl⟩ := ixOf_some h
    refine ⟨fun k => (by cases k), fun r' hr' => ?_⟩
    cases hr'
    rw [x11 hS]
    by_cases hn : nC < 6
    · refine br_t (nI_lt (b := 6) hn (by decide)) ⟨vp_in_nI hn (by decide), ?_⟩
      intro I1 hI1
      rw [cl_nI (by omega)] at hI1
      have c11 : I1 0 0 11 = nI (nC + 1) := by
        rw [hI1, u3_same, pk_us, u3_ne I _ (by omega), x11 hS, nI_1]
      have em : mview I1 = V := by rw [hI1, mview_x (by decide), mview_x (by decide)]; exact hS.1
      have e4 : I1 17 0 4 = nI nC := by rw [mv_17 em (by decide)]; exact hV.2.1.2.2.1
      unfold wX12_candidate
      rw [eM_isMember (n := g.2.1) (by rw [mv_17 em (by decide)]; exact hV.2.1.2.1) (by omega), h, bs_some]
      refine br_t' (by decide) ?_
      rw [e4]
      refine br_t' (fun k => by have := (nI_eq (a := nC) (b := 6) (by omega) (by omega)).mp k; omega) ⟨vp_in_nI hn (by decide), ?_⟩
      intro I2 hI2
      rw [cl_nI (by omega)] at hI2
      have d4 : I2 17 0 4 = nI (nC + 1) := by
        rw [hI2, u3_same, pk_us, u3_ne I1 _ (by omega), e4, nI_1]
      refine ⟨by rw [c11, d4], vset (vset V 21 nC (nI f)) 17 4 (nI (nC + 1)), nC + 1, len, ?_, ?_, ?_⟩
      · obtain ⟨b, c, d⟩ := hV
        refine ⟨⟨b.1, b.2.1, by omega, b.2.2.2.1, fun _ => by omega⟩, ⟨c.1, c.2.1, rfl, c.2.2.2⟩, d.1, d.2.1, fun q hq => ?_, d.2.2.2.1, ⟨d.2.2.2.2.1.1, fun k => ?_⟩, d.2.2.2.2.2⟩
        · show ∃ f', f' < g.2.1 ∧ vset V 21 nC (nI f) 21 q = nI f'
          by_cases e : q = nC
          · subst e
            exact ⟨f, hf, vset_same⟩
          · rw [vset_ne (by omega)]
            exact d.2.2.1 q (by omega)
        · obtain ⟨kM, kC, k1, k2, k3⟩ := d.2.2.2.2.1.2 k
          exact ⟨kM, kC, k1, by omega, k3⟩
      · rw [hI2]
        rw [mview_set (Or.inr ⟨rfl, by decide⟩), mview_set (Or.inl (by decide)), em, u3_ne I1 _ (by omega), e4, nI_1]
      · have hR := hS.2
        have fr : ∀ k q, ¬ k = 5 → ¬ k = 0 → ¬ k = 21 → ¬ k = 17 → I2 k q = I k q := fun k q h1 h2 h3 h4 => by
          rw [hI2, u3_ne _ _ (by omega), u3_ne _ _ (by omega), hI1, u3_ne _ _ (by omega), u3_ne _ _ (by omega)]
        have f0 : ∀ j, ¬ j = 11 → I2 0 0 j = I 0 0 j := fun j hj => by
          rw [hI2, u3_ne _ _ (by omega), u3_ne _ _ (by omega), hI1, u3_same, pk_un hj, u3_ne _ _ (by omega)]
        have f11 : I2 0 0 11 = nI (nC + 1) := by
          rw [hI2, u3_ne _ _ (by omega), u3_ne _ _ (by omega)]; exact c11
        have f5 : ∀ j, I2 5 0 j = if j = nC then nI f else I 5 0 j := fun j => by
          rw [hI2, u3_ne _ _ (by omega), u3_ne _ _ (by omega), hI1, u3_ne _ _ (by omega), u3_same]; rfl
        refine ⟨?_, fun r hr => ?_, fun q hq => ?_, fun c hc => ?_, fun i h => ?_⟩
        · rw [f0 9 (by decide), f0 10 (by decide), f11, f0 12 (by decide), fr 1 0 (by decide) (by decide) (by decide) (by decide)]
          exact ⟨hR.1.1, hR.1.2.1, rfl, hR.1.2.2.2.1, hR.1.2.2.2.2⟩
        · rw [fr 43 r (by decide) (by decide) (by decide) (by decide)]; exact hR.2.1 r hr
        · have hpx := hR.2.2.1 q hq
          unfold persX at hpx ⊢
          rw [fr 40 q (by decide) (by decide) (by decide) (by decide), fr 41 q (by decide) (by decide) (by decide) (by decide), fr 42 q (by decide) (by decide) (by decide) (by decide)]
          exact hpx
        · show I2 5 0 c = vset V 21 nC (nI f) 21 c
          rw [f5]
          by_cases e : c = nC
          · subst e
            rw [if_pos rfl, vset_same]
          · rw [if_neg e, vset_ne (by omega)]
            exact hR.2.2.2.1 c (by omega)
        · rw [fr 2 0 (by decide) (by decide) (by decide) (by decide)]; exact hR.2.2.2.2 i h
    · have e6 : nC = 6 := by omega
      subst e6
      refine br_f (nI_nlt (b := 6) (by omega) (by omega)) ?_
      try dsimp only
      unfold wX12_candidate
      rw [eM_isMember (m0 hV hS) (by omega), h, bs_some]
      refine br_t' (by decide) ?_
      rw [m4 hV hS]
      exact br_f' rfl ⟨rfl, hi⟩
theorem ten1_of {a : Int32} (h : -1 ≤ a ∧ a ≤ 10) (hn : ¬ a = -1) : ∃ z, z ≤ 10 ∧ a = nI z := by
  have h0 : (-1 : Int32).toInt = -1 := by decide
  have h4 : (10 : Int32).toInt = 10 := by decide
  have h5 := ne_ti hn h0
  rw [ti_le, ti_le, h0, h4] at h
  exact ⟨a.toInt.toNat, by omega, nI_of_toInt (by omega)⟩
theorem vset_id {V : MV} {k j : Nat} : vset V k j (V k j) = V := by
  funext a b
  by_cases h : a = k ∧ b = j
  · obtain ⟨rfl, rfl⟩ := h
    rw [vset_same]
  · rw [vset_ne h]
theorem p_op10 : op10 Inv := by
  rintro g I J a1 a2 a3 ⟨V, nC, len, hV, hS⟩
  have hp8 := vok_p hV
  have hc6 := vok_c hV
  have hi := hS.inv (J := J) hV
  unfold wX11_minds
  rw [eX_personAt (x10 hS) hp8]
  cases h : ixOf a1 g.2.1 with
  | none =>
    refine ⟨fun _ => ?_, fun r hr => by cases hr⟩
    try dsimp only
    unfold wX12_minds
    rw [eM_isMember (m0 hV hS) (by omega), h, bs_none]
    exact br_t rfl ⟨rfl, hi⟩
  | some p =>
    obtain ⟨hp, rfl⟩ := ixOf_some h
    refine ⟨fun k => (by cases k), fun r' hr' => ?_⟩
    cases hr'
    rw [eX_isCandidate (x11 hS) hc6]
    cases h2 : ixOf a2 nC with
    | none =>
      rw [bs_none]
      refine br_f' rfl ?_
      try dsimp only
      unfold wX12_minds
      rw [eM_isMember (m0 hV hS) (by omega), h, bs_some]
      refine br_f (by decide) ?_
      rw [eM_isCandidate (m4 hV hS) (by omega), h2, bs_none]
      exact br_f' rfl ⟨rfl, hi⟩
    | some c =>
      obtain ⟨hc, rfl⟩ := ixOf_some h2
      rw [bs_some]
      refine br_t' (by decide) ?_
      rw [eX_within]
      by_cases hw : (-1 : Int32) ≤ a3 ∧ a3 ≤ 10
      · rw [b2i_t hw]
        refine br_t' (by decide) (sX_mindsOf hS hp (by omega) ?_)
        have i5 : vp_in (nI (6 * p + c)) 48 := vp_in_nI (by omega) (by decide)
        -- the model's walk, from a state with the same view
        have K : ∀ (I1 : MI), mview I1 = V → (∀ I2 : MI, mview I2 = vset V 22 (6 * p + c) (if a3 = -1 then V 22 (6 * p + c) else a3) → (∀ k q, ¬ k = 22 → I2 k q = I1 k q) → Inv g I2 J) → wX12_minds g (nI p) (nI c) a3 I1 J (fun r2 I2 J2 => V 22 (6 * p + c) = r2 ∧ Inv g I2 J2) := by
          intro I1 em hK
          unfold wX12_minds
          rw [eM_isMember (n := g.2.1) (by rw [mv_17 em (by decide)]; exact hV.2.1.2.1) (by omega), h, bs_some]
          refine br_f (by decide) ?_
          rw [eM_isCandidate (n := nC) (by rw [mv_17 em (by decide)]; exact hV.2.1.2.2.1) (by omega), h2, bs_some]
          refine br_t' (by decide) ?_
          rw [eM_within, b2i_t hw]
          refine br_t' (by decide) ?_
          rw [ix6, cl_nI (by omega), mv_at em _ (k := 22) (by decide)]
          refine ⟨i5, fun k => ?_, fun k => ?_⟩
          · unfold wX12_minds_b66
            refine ⟨i5, rfl, ?_⟩
            rw [cl_nI (by omega)]
            refine hK _ ?_ (fun k q hk => u3_ne _ _ (by omega))
            rw [mview_set (Or.inl (by decide)), em, if_neg k]
          · unfold wX12_minds_b66
            refine ⟨i5, rfl, ?_⟩
            rw [cl_nI (by omega)]
            refine hK _ ?_ (fun k q hk => u3_ne _ _ (by omega))
            rw [mview_set (Or.inl (by decide)), em, if_pos k]
        refine ⟨fun k => ?_, fun k => ?_⟩
        · refine K I hS.1 (fun I2 e1 e2 => ?_)
          rw [if_pos k, vset_id] at e1
          exact ⟨V, nC, len, hV, e1, RX_of hS.2 (fun a b ha => e2 a b (by omega))⟩
        · unfold wX5_mindFrom
          refine br_f (nI_pos (by omega)) (br_f (nI_ge (b := 6) (by omega) (by decide)) ⟨vp_in_nI (by omega) (by decide), ?_⟩)
          rw [cl_nI (by omega)]
          refine K _ (by rw [mview_x (by decide)]; exact hS.1) (fun I2 e1 e2 => ?_)
          rw [if_neg k] at e1
          obtain ⟨z, hz, rfl⟩ := ten1_of hw k
          refine ⟨vset V 22 (6 * p + c) (nI z), nC, len, ?_, e1, ?_⟩
          · obtain ⟨b, c', d⟩ := hV
            refine ⟨b, c', d.1, fun q hq => ?_, d.2.2.1, d.2.2.2.1, d.2.2.2.2.1, fun q c2 h1 h3 h4 => ?_⟩
            · obtain ⟨kd, n, cm, h1, h2, h3, h4, h5, h6, h7, h8, h9⟩ := d.2.1 q hq
              refine ⟨kd, n, cm, h1, h2, h3, h4, h5, h6, h7, h8, fun c2 hc2 => ?_⟩
              by_cases e : 6 * q + c2 = 6 * p + c
              · rw [e]; exact ⟨z, hz, vset_same⟩
              · rw [vset_ne (by omega)]; exact h9 c2 hc2
            · rw [vset_ne (by omega)]; exact d.2.2.2.2.2 q c2 h1 h3 h4
          · have hR := hS.2
            have fr : ∀ k q, ¬ (k = 41 ∧ q = p) → ¬ k = 22 → I2 k q = I k q := fun k q h1 h2 => by
              rw [e2 k q h2, u3_ne I _ h1]
            have f41 : ∀ j, I2 41 p j = if j = c then nI z else I 41 p j := fun j => by
              rw [e2 41 p (by decide), u3_same]; rfl
            refine ⟨?_, fun r hr => ?_, fun q hq => ?_, fun c2 hc2 => ?_, fun i h => ?_⟩
            · rw [fr 0 0 (by omega) (by decide), fr 1 0 (by omega) (by decide)]; exact hR.1
            · rw [fr 43 r (by omega) (by decide)]; exact hR.2.1 r hr
            · have hpx := hR.2.2.1 q hq
              unfold persX at hpx ⊢
              rw [fr 40 q (by omega) (by decide), fr 42 q (by omega) (by decide)]
              refine ⟨hpx.1, hpx.2.1, hpx.2.2.1, hpx.2.2.2.1, fun c2 hc2 => ?_, hpx.2.2.2.2.2⟩
              by_cases e : q = p
              · subst e
                rw [f41]
                by_cases e3 : c2 = c
                · subst e3
                  rw [if_pos rfl, vset_same]
                · rw [if_neg e3, vset_ne (by omega)]
                  exact hpx.2.2.2.2.1 c2 hc2
              · rw [fr 41 q (by omega) (by decide), vset_ne (by omega)]
                exact hpx.2.2.2.2.1 c2 hc2
            · rw [fr 5 0 (by omega) (by decide)]; exact hR.2.2.2.1 c2 hc2
            · rw [fr 2 0 (by omega) (by decide)]; exact hR.2.2.2.2 i h
      · rw [b2i_f hw]
        refine br_f' rfl ?_
        try dsimp only
        unfold wX12_minds
        rw [eM_isMember (m0 hV hS) (by omega), h, bs_some]
        refine br_f (by decide) ?_
        rw [eM_isCandidate (m4 hV hS) (by omega), h2, bs_some]
        refine br_t' (by decide) ?_
        rw [eM_within, b2i_f hw]
        exact br_f' rfl ⟨rfl, hi⟩
end Mut2
