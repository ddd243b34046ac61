section Member
theorem five_of {a : Int32} {m : Nat} (hm : m ≤ 7) (h : 0 ≤ a ∧ a ≤ nI m) : ∃ z, z ≤ m ∧ a = nI z := by
  have h0 : (0 : Int32).toInt = 0 := by decide
  rw [ti_le, ti_le, h0, nI_toInt (by omega)] at h
  exact ⟨a.toInt.toNat, by omega, nI_of_toInt (by omega)⟩
/-- which n a kind may have -/
def okN (kd nP : Nat) (a2 : Int32) : Prop := (kd < 3 ∧ 0 ≤ a2 ∧ a2 ≤ nI (if kd = 2 then 5 else 0)) ∨ (3 ≤ kd ∧ (ixOf a2 nP).isSome = true)
theorem sM_mem {g1 : GS} {V : MV} {I1 : MI} {J : MJ} {kd nP : Nat} {a2 a3 : Int32} {Q : Int32 → MI → MJ → Prop} (em : mview I1 = V) (e0 : V 17 0 = nI nP) (hnP : nP ≤ 8) (hk : kd ≤ 4) (hv : okN kd nP a2) (h : wX12_member_b51 g1 Q (nI kd) a2 a3 I1 J) : wX12_member g1 (nI kd) a2 a3 I1 J Q := by
  have f0 : I1 17 0 0 = nI nP := by rw [mv_17 em (by decide)]; exact e0
  unfold wX12_member
  rw [eM_within, b2i_t ⟨nI_pos' (by omega), nI_le (b := 4) hk (by decide)⟩]
  refine br_f (by decide) ?_
  rcases hv with ⟨h3, hv⟩ | ⟨h3, hv⟩
  · refine br_f (nI_ge (b := 3) h3 (by decide)) ?_
    by_cases e2 : kd = 2
    · subst e2
      refine br_f' rfl ?_
      unfold wX12_member_b26
      rw [eM_within, b2i_t (p := (0 : Int32) ≤ a2 ∧ a2 ≤ 5) hv]
      refine br_t' (by decide) ?_
      unfold wX12_member_b35
      exact br_t (by decide) h
    · refine br_t' (fun k => e2 ((nI_eq (a := kd) (b := 2) (by omega) (by omega)).mp k)) ?_
      rw [if_neg e2] at hv
      unfold wX12_member_b26
      rw [eM_within, b2i_t (p := (0 : Int32) ≤ a2 ∧ a2 ≤ 0) hv]
      refine br_t' (by decide) ?_
      unfold wX12_member_b35
      exact br_t (nI_lt (b := 3) h3 (by decide)) h
  · refine br_t (nI_le (a := 3) h3 (by omega)) ?_
    unfold wX12_member_b35
    refine br_f (nI_nlt (b := 3) h3 (by omega)) ?_
    rw [eM_isMember f0 (by omega), b2i_t hv]
    exact br_t' (by decide) h
theorem p_op5 : op5 Inv := by
  rintro g I J a1 a2 a3 ⟨V, nC, len, hV, hS⟩
  have hp8 := vok_p hV
  have hc6 := vok_c hV
  have hi := hS.inv (J := J) hV
  have e17 := hV.2.1.2.1
  -- what the model says of a refusal
  unfold wX11_member
  rw [eX_within]
  by_cases hw : (0 : Int32) ≤ a1 ∧ a1 ≤ 4
  · rw [b2i_t hw]
    refine br_t' (by decide) ?_
    obtain ⟨kd, hkd, rfl⟩ := five_of (m := 4) (by decide) hw
    -- the body, when n is fine
    have core : okN kd g.2.1 a2 → wX11_member_b54 g (fun r g1 I1 J1 => wX12_member g1 (nI kd) a2 a3 I1 J1 (fun r2 I2 J2 => r = r2 ∧ Inv g1 I2 J2)) (nI kd) a2 a3 I J := by
      intro hv
      have hn : ∃ n, n ≤ 7 ∧ a2 = nI n ∧ (kd < 2 → n = 0) ∧ (kd = 2 → n ≤ 5) := by
        rcases hv with ⟨h3, hv⟩ | ⟨h3, hv⟩
        · by_cases e2 : kd = 2
          · rw [if_pos e2] at hv
            obtain ⟨n, h1, h2⟩ := five_of (m := 5) (by decide) hv
            exact ⟨n, by omega, h2, fun h => by omega, fun _ => h1⟩
          · rw [if_neg e2] at hv
            obtain ⟨n, h1, h2⟩ := five_of (m := 0) (by decide) hv
            exact ⟨n, by omega, h2, fun h => by omega, fun h => absurd h e2⟩
        · cases h : ixOf a2 g.2.1 with
          | none => rw [h] at hv; cases hv
          | some n =>
            obtain ⟨h1, h2⟩ := ixOf_some h
            exact ⟨n, by omega, h2, fun h => by omega, fun h => by omega⟩
      unfold wX11_member_b54
      rw [eX_within]
      by_cases hc : (0 : Int32) ≤ a3 ∧ a3 ≤ 10
      · rw [b2i_t hc]
        refine br_t' (by decide) ?_
        rw [x10 hS]
        by_cases h8 : g.2.1 < 8
        · refine br_t (nI_lt (b := 8) h8 (by decide)) ⟨⟨by rw [x10 hS]; exact vp_in_nI h8 (by decide), by rw [x10 hS, cl_nI (by omega)]⟩, ?_⟩
          intro I2 hI2 I3 hI3
          rw [x10 hS] at hI2
          obtain ⟨n, hn7, rfl, hn1, hn2⟩ := hn
          obtain ⟨cm, hcm, rfl⟩ := ten_of hc
          have c10 : I3 0 0 10 = nI (g.2.1 + 1) := by
            rw [hI3, u3_same, pk_us, hI2, pI_ne (by omega) (by omega) (by omega), x10 hS, nI_1]
          have em : mview I3 = V := by
            rw [hI3, mview_x (by decide), hI2]
            unfold pI
            rw [mview_x (by decide), mview_x (by decide), mview_x (by decide)]
            exact hS.1
          try dsimp only
          refine sM_mem em e17 hp8 hkd hv ?_
          have f0 : I3 17 0 0 = nI g.2.1 := by rw [mv_17 em (by decide)]; exact e17
          unfold wX12_member_b51
          rw [eM_within, b2i_t hc]
          refine br_t' (by decide) ?_
          rw [f0, cl_nI (by omega)]
          have i8 : vp_in (nI g.2.1) 8 := vp_in_nI h8 (by decide)
          refine br_t' (fun k => by have := (nI_eq (a := g.2.1) (b := 8) (by omega) (by omega)).mp k; omega) ⟨i8, ?_⟩
          rw [u3_ne I3 _ (show ¬ (17 = 18 ∧ 0 = 0) by decide), f0]
          refine ⟨i8, ?_⟩
          intro I4 hI4
          rw [cl_nI (by omega)] at hI4
          have g0 : I4 17 0 0 = nI g.2.1 := by rw [hI4, u3_ne _ _ (by decide), u3_ne _ _ (by decide)]; exact f0
          rw [g0]
          refine ⟨i8, ?_⟩
          intro I5 hI5
          rw [cl_nI (by omega)] at hI5
          have k0 : I5 17 0 0 = nI (g.2.1 + 1) := by
            rw [hI5, u3_same, pk_us, u3_ne _ _ (by decide), g0, nI_1]
          refine ⟨by rw [c10, k0], vset (vset (vset (vset V 18 g.2.1 (nI kd)) 19 g.2.1 (nI n)) 20 g.2.1 (nI cm)) 17 0 (nI (g.2.1 + 1)), nC, len, ?_, ?_, ?_⟩
          · obtain ⟨b, c, d⟩ := hV
            refine ⟨⟨by show g.2.1 + 1 ≤ 8; omega, b.2.1, b.2.2.1, b.2.2.2.1, fun _ => by show 0 < g.2.1 + 1; omega⟩, ⟨c.1, rfl, c.2.2.1, c.2.2.2⟩, d.1, fun q hq => ?_, fun c2 hc2 => ?_, d.2.2.2.1, ⟨d.2.2.2.2.1.1, fun k => ?_⟩, fun q c2 h1 h2 h3 => ?_⟩
            · have hq : q < g.2.1 + 1 := hq
              unfold persV
              show ∃ kd' n' cm', kd' ≤ 4 ∧ n' ≤ 7 ∧ cm' ≤ 10 ∧ vset V 18 g.2.1 (nI kd) 18 q = nI kd' ∧ vset (vset V 18 g.2.1 (nI kd)) 19 g.2.1 (nI n) 19 q = nI n' ∧ vset (vset (vset V 18 g.2.1 (nI kd)) 19 g.2.1 (nI n)) 20 g.2.1 (nI cm) 20 q = nI cm' ∧ (kd' < 2 → n' = 0) ∧ (kd' = 2 → n' ≤ 5) ∧ ∀ c, c < 6 → ∃ z, z ≤ 10 ∧ V 22 (6 * q + c) = nI z
              by_cases e : q = g.2.1
              · subst e
                exact ⟨kd, n, cm, hkd, hn7, hcm, vset_same, vset_same, vset_same, hn1, hn2, fun c2 hc2 => ⟨0, by omega, by rw [d.2.2.2.2.2 _ c2 (Nat.le_refl _) h8 hc2]; rfl⟩⟩
              · obtain ⟨kd', n', cm', h1, h2, h3, h4, h5, h6, h7, h9, h10⟩ := d.2.1 q (by omega)
                refine ⟨kd', n', cm', h1, h2, h3, ?_, ?_, ?_, h7, h9, h10⟩
                · rw [vset_ne (by omega)]; exact h4
                · rw [vset_ne (by omega), vset_ne (by omega)]; exact h5
                · rw [vset_ne (by omega), vset_ne (by omega), vset_ne (by omega)]; exact h6
            · obtain ⟨f, h1, h2⟩ := d.2.2.1 c2 hc2
              exact ⟨f, by show f < g.2.1 + 1; omega, h2⟩
            · obtain ⟨kM, kC, k1, k2⟩ := d.2.2.2.2.1.2 k
              exact ⟨kM, kC, by show kM ≤ g.2.1 + 1; omega, k2⟩
            · have h1 : g.2.1 + 1 ≤ q := h1
              exact d.2.2.2.2.2 q c2 (by omega) h2 h3
          · rw [hI5, mview_set (Or.inr ⟨rfl, by decide⟩), mview_set (Or.inl (by decide)), hI4, mview_set (Or.inl (by decide)), mview_set (Or.inl (by decide)), em]
            rw [← hI4, u3_ne I4 _ (show ¬ (17 = 20 ∧ 0 = 0) by decide), g0, nI_1]
          · have hR := hS.2
            have fr : ∀ k q, ¬ (k = 0 ∧ q = 0) → ¬ (k = 40 ∧ q = g.2.1) → ¬ (k = 41 ∧ q = g.2.1) → ¬ (k = 42 ∧ q = g.2.1) → (k < 17 ∨ 21 ≤ k) → I5 k q = I k q := fun k q h0 h1 h2 h3 h4 => by
              rw [hI5, u3_ne _ _ (by omega), u3_ne _ _ (by omega), hI4, u3_ne _ _ (by omega), u3_ne _ _ (by omega), hI3, u3_ne _ _ (by omega), hI2, pI_ne (by omega) (by omega) (by omega)]
            have f00 : ∀ j, ¬ j = 10 → I5 0 0 j = I 0 0 j := fun j hj => by
              rw [hI5, u3_ne _ _ (by omega), u3_ne _ _ (by omega), hI4, u3_ne _ _ (by omega), u3_ne _ _ (by omega), hI3, u3_same, pk_un hj, hI2, pI_ne (by omega) (by omega) (by omega)]
            have f10 : I5 0 0 10 = nI (g.2.1 + 1) := by
              rw [hI5, u3_ne _ _ (by omega), u3_ne _ _ (by omega), hI4, u3_ne _ _ (by omega), u3_ne _ _ (by omega)]; exact c10
            have f40 : I5 40 g.2.1 = pRow (nI g.2.1) (nI cm) (xOf (nI kd) (nI n)) := by
              rw [hI5, u3_ne _ _ (by omega), u3_ne _ _ (by omega), hI4, u3_ne _ _ (by omega), u3_ne _ _ (by omega), hI3, u3_ne _ _ (by omega), hI2]
              simp [pI, u3]
            have f41 : I5 41 g.2.1 = fun _ => 0 := by
              rw [hI5, u3_ne _ _ (by omega), u3_ne _ _ (by omega), hI4, u3_ne _ _ (by omega), u3_ne _ _ (by omega), hI3, u3_ne _ _ (by omega), hI2]
              simp [pI, u3]
            refine ⟨?_, fun r hr => ?_, fun q hq => ?_, fun c hc => ?_, fun i h => ?_⟩
            · rw [f00 9 (by decide), f10, f00 11 (by decide), f00 12 (by decide), fr 1 0 (by omega) (by omega) (by omega) (by omega) (by omega)]
              exact ⟨hR.1.1, rfl, hR.1.2.2.1, hR.1.2.2.2.1, hR.1.2.2.2.2⟩
            · rw [fr 43 r (by omega) (by omega) (by omega) (by omega) (by omega)]; exact hR.2.1 r hr
            · have hq : q < g.2.1 + 1 := hq
              by_cases e : q = g.2.1
              · subst e
                unfold persX
                rw [f40, f41]
                refine ⟨rfl, ?_, ?_, ?_, fun c2 hc2 => ?_, fun _ => rfl, fun k => ⟨fun k2 => ?_, fun _ => rfl⟩⟩
                · show nI cm = vset (vset (vset V 18 g.2.1 (nI kd)) 19 g.2.1 (nI n)) 20 g.2.1 (nI cm) 20 g.2.1
                  rw [vset_same]
                · show va_up g.1 g.2.1 (kcOf (nI kd)) g.2.1 = kcOf (vset V 18 g.2.1 (nI kd) 18 g.2.1)
                  rw [vset_same, va_up_self]
                · show xOf (nI kd) (nI n) = xOf (vset V 18 g.2.1 (nI kd) 18 g.2.1) (vset (vset V 18 g.2.1 (nI kd)) 19 g.2.1 (nI n) 19 g.2.1)
                  rw [vset_same, vset_same]
                · show (0 : Int32) = V 22 (6 * g.2.1 + c2)
                  rw [hV.2.2.2.2.2.2.2 _ c2 (Nat.le_refl _) h8 hc2]
                · obtain ⟨kM, kC, k3, k4, k5, -⟩ := hV.2.2.2.2.2.2.1.2 k
                  have k2 : g.2.1 < (V 17 16).toNatClampNeg := k2
                  rw [k5, cl_nI (by omega)] at k2
                  omega
              · have hpx := hR.2.2.1 q (by omega)
                unfold persX at hpx ⊢
                rw [fr 40 q (by omega) (by omega) (by omega) (by omega) (by omega), fr 41 q (by omega) (by omega) (by omega) (by omega) (by omega), fr 42 q (by omega) (by omega) (by omega) (by omega) (by omega)]
                refine ⟨hpx.1, ?_, ?_, ?_, hpx.2.2.2.2.1, hpx.2.2.2.2.2⟩
                · show I 40 q 3 = vset (vset (vset V 18 g.2.1 (nI kd)) 19 g.2.1 (nI n)) 20 g.2.1 (nI cm) 20 q
                  rw [vset_ne (by omega), vset_ne (by omega), vset_ne (by omega)]; exact hpx.2.1
                · show va_up g.1 g.2.1 (kcOf (nI kd)) q = kcOf (vset V 18 g.2.1 (nI kd) 18 q)
                  rw [vset_ne (by omega), va_up_ne _ _ e]; exact hpx.2.2.1
                · show I 40 q 6 = xOf (vset V 18 g.2.1 (nI kd) 18 q) (vset (vset V 18 g.2.1 (nI kd)) 19 g.2.1 (nI n) 19 q)
                  rw [vset_ne (by omega), vset_ne (by omega), vset_ne (by omega)]; exact hpx.2.2.2.1
            · rw [fr 5 0 (by omega) (by omega) (by omega) (by omega) (by omega)]; exact hR.2.2.2.1 c hc
            · rw [fr 2 0 (by omega) (by omega) (by omega) (by omega) (by omega)]; exact hR.2.2.2.2 i h
        · refine br_f (nI_nlt (b := 8) (by omega) (by omega)) ?_
          try dsimp only
          refine sM_mem hS.1 e17 hp8 hkd hv ?_
          unfold wX12_member_b51
          rw [eM_within, b2i_t hc]
          refine br_t' (by decide) ?_
          rw [m0 hV hS]
          refine br_f' (by rw [show g.2.1 = 8 by omega]; rfl) ⟨rfl, hi⟩
      · rw [b2i_f hc]
        refine br_f' rfl ?_
        try dsimp only
        refine sM_mem hS.1 e17 hp8 hkd hv ?_
        unfold wX12_member_b51
        rw [eM_within, b2i_f hc]
        exact br_f' rfl ⟨rfl, hi⟩
    have hw4 : b2i ((0 : Int32) ≤ nI kd ∧ nI kd ≤ 4) = 1 := b2i_t hw
    by_cases h3 : kd < 3
    · refine br_t (nI_lt (b := 3) h3 (by decide)) ?_
      unfold wX11_member_b28
      refine br_f (nI_ge (b := 3) h3 (by decide)) ?_
      by_cases e2 : kd = 2
      · subst e2
        refine br_f' rfl ?_
        unfold wX11_member_b45
        rw [eX_within]
        by_cases hv : (0 : Int32) ≤ a2 ∧ a2 ≤ 5
        · rw [b2i_t hv]
          exact br_t' (by decide) (core (Or.inl ⟨h3, hv⟩))
        · rw [b2i_f hv]
          refine br_f' rfl ?_
          try dsimp only
          unfold wX12_member
          rw [eM_within, hw4]
          refine br_f (by decide) (br_f (by decide) (br_f' rfl ?_))
          unfold wX12_member_b26
          rw [eM_within, b2i_f hv]
          exact br_f' rfl ⟨rfl, hi⟩
      · have n2 : ¬ nI kd = 2 := fun k => e2 ((nI_eq (a := kd) (b := 2) (by omega) (by omega)).mp k)
        refine br_t' n2 ?_
        unfold wX11_member_b45
        rw [eX_within]
        by_cases hv : (0 : Int32) ≤ a2 ∧ a2 ≤ 0
        · rw [b2i_t hv]
          exact br_t' (by decide) (core (Or.inl ⟨h3, by rw [if_neg e2]; exact hv⟩))
        · rw [b2i_f hv]
          refine br_f' rfl ?_
          try dsimp only
          unfold wX12_member
          rw [eM_within, hw4]
          refine br_f (by decide) (br_f (nI_ge (b := 3) h3 (by decide)) (br_t' n2 ?_))
          unfold wX12_member_b26
          rw [eM_within, b2i_f hv]
          exact br_f' rfl ⟨rfl, hi⟩
    · refine br_f (nI_nlt (b := 3) (by omega) (by omega)) ?_
      rw [eX_personAt (x10 hS) hp8]
      cases h : ixOf a2 g.2.1 with
      | none =>
        refine ⟨fun _ => ?_, fun r hr => by cases hr⟩
        try dsimp only
        unfold wX12_member
        rw [eM_within, hw4]
        refine br_f (by decide) (br_t (nI_le (a := 3) (by omega) (by omega)) ?_)
        unfold wX12_member_b35
        refine br_f (nI_nlt (b := 3) (by omega) (by omega)) ?_
        rw [eM_isMember (m0 hV hS) (by omega), h, bs_none]
        exact br_f' rfl ⟨rfl, hi⟩
      | some n =>
        refine ⟨fun k => (by cases k), fun r' hr' => ?_⟩
        unfold wX11_member_b28
        exact br_t (nI_le (a := 3) (by omega) (by omega)) (core (Or.inr ⟨by omega, by rw [h]; rfl⟩))
  · rw [b2i_f hw]
    refine br_f' rfl ?_
    try dsimp only
    unfold wX12_member
    rw [eM_within, b2i_f hw]
    exact br_t rfl ⟨rfl, hi⟩
end Member
