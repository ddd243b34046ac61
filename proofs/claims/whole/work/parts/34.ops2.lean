abbrev pc (cs : Nat) : Nat := cnt cs.testBit 10
theorem pc_le (cs : Nat) : pc cs ≤ 10 := cnt_le _ _
theorem lt5 {a : Int32} (h : 0 ≤ a ∧ a ≤ 4) : a = 0 ∨ a = 1 ∨ a = 2 ∨ a = 3 ∨ a = 4 := by
  have h0 : (0 : Int32).toInt = 0 := by decide
  have h4 : (4 : Int32).toInt = 4 := by decide
  rw [ti_le, ti_le, h0, h4] at h
  have e := nI_of_toInt (a := a) (by omega)
  rcases (show a.toInt.toNat = 0 ∨ a.toInt.toNat = 1 ∨ a.toInt.toNat = 2 ∨ a.toInt.toNat = 3 ∨ a.toInt.toNat = 4 by omega) with k | k | k | k | k
  all_goals rw [k] at e
  · exact Or.inl e
  · exact Or.inr (Or.inl e)
  · exact Or.inr (Or.inr (Or.inl e))
  · exact Or.inr (Or.inr (Or.inr (Or.inl e)))
  · exact Or.inr (Or.inr (Or.inr (Or.inr e)))
section Ops2
variable {g : GS} {V : MV} {nC len : Nat} {I : MI} {J : MJ}
theorem sX_isWatched {r cs : Nat} {Q : Int32 → MI → MJ → Prop} (hS : St g V nC len I) (hr : r < g.2.2) (hc : cs < 1024) (h : Q (b2i (wat V r (pc cs) = true)) I J) : wX11_isWatched g r (nI cs) I J Q := by
  have h10 := pc_le cs
  unfold wX11_isWatched
  rw [(hS.2.2.1 r hr).2.2.2.2]
  by_cases ht : V 27 r = 0
  · refine br_f' ht (s_bc hc ?_)
    by_cases h4 : pc cs < 4
    · rw [b2i_t (by simp [wat, ht, h4])] at h
      exact br_f (nI_ge (a := pc cs) (b := 4) h4 (by decide)) h
    · rw [b2i_f (by simp [wat, ht]; omega)] at h
      exact br_t (nI_le (a := 4) (b := pc cs) (by omega) (by omega)) h
  · rw [b2i_t (by simp [wat, ht])] at h
    exact br_t' ht h
theorem b2i_dec {b : Bool} : decide (¬ b2i (b = true) = 0) = b := by cases b <;> rfl
theorem sX_black {r c cs m : Nat} {Q : Int32 → MI → MJ → Prop} (hV : VOK g V nC len) (hS : St g V nC len I) (hr : r < g.2.2) (hc : c < nC) (hcs : cs < 1024) (hm : m < g.2.1) (h : Q (vBlack V (wat V r (pc cs)) c m) I J) : wX11_isWatched g r (nI cs) I J (fun r63 I63 J63 => wX11_blackOf g m (nI c) r63 I63 J63 Q) := by
  refine sX_isWatched hS hr hcs ?_
  refine sX_blackOf hV hS hm hc ?_
  rw [b2i_dec]
  exact h
theorem p_op12 : op12 Inv := by
  rintro g I J a1 a2 a3 a4 ⟨V, nC, len, hV, hS⟩
  have hr6 := vok_r hV
  have hp8 := vok_p hV
  have hc6 := vok_c hV
  have hi := hS.inv (J := J) hV
  unfold wX11_black
  rw [eX_ruleAt (x9 hS) hr6]
  cases h : ixOf a1 g.2.2 with
  | none =>
    refine ⟨fun _ => ?_, fun r hr => by cases hr⟩
    rw [eX_personAt (x10 hS) hp8]
    have K : wX12_black g a1 a2 a3 a4 I J (fun r2 I2 J2 => -101 = r2 ∧ Inv g I2 J2) := by
      unfold wX12_black
      rw [eM_isRule (m7 hV hS) (by omega), h, bs_none]
      exact br_t rfl ⟨rfl, hi⟩
    exact ⟨fun _ => K, fun _ _ => K⟩
  | some r =>
    obtain ⟨hr, rfl⟩ := ixOf_some h
    refine ⟨fun k => (by cases k), fun r' hr' => ?_⟩
    cases hr'
    rw [eX_personAt (x10 hS) hp8]
    cases h4 : ixOf a4 g.2.1 with
    | none =>
      refine ⟨fun _ => ?_, fun r hr => by cases hr⟩
      try dsimp only
      unfold wX12_black
      rw [eM_isRule (m7 hV hS) (by omega), h, bs_some]
      refine br_f (by decide) ?_
      rw [eM_isCandidate (m4 hV hS) (by omega)]
      cases h2 : ixOf a2 nC with
      | none => exact br_t rfl ⟨rfl, hi⟩
      | some c =>
        refine br_f (by rw [bs_some]; decide) ?_
        rw [eM_isMember (m0 hV hS) (by omega), h4, bs_none]
        exact br_f' rfl ⟨rfl, hi⟩
    | some m =>
      obtain ⟨hm, rfl⟩ := ixOf_some h4
      refine ⟨fun k => (by cases k), fun r' hr' => ?_⟩
      cases hr'
      rw [eX_isCandidate (x11 hS) hc6]
      cases h2 : ixOf a2 nC with
      | none =>
        rw [bs_none]
        refine br_f' rfl ?_
        try dsimp only
        unfold wX12_black
        rw [eM_isRule (m7 hV hS) (by omega), h, bs_some]
        refine br_f (by decide) ?_
        rw [eM_isCandidate (m4 hV hS) (by omega), h2, bs_none]
        exact br_t rfl ⟨rfl, hi⟩
      | some c =>
        obtain ⟨hc, rfl⟩ := ixOf_some h2
        rw [bs_some]
        refine br_t' (by decide) ?_
        rw [eX_areComers (x10 hS) hp8]
        have K : ∀ v, (∀ Q : Int32 → MI → MJ → Prop, Q v I J → wX12_areComers g a3 I J (fun r30 I30 J30 => ((r30 = 0 → Q (-102) I30 J30) ∧ (¬ r30 = 0 → wX12_has g a3 (nI m) I30 J30 (fun r39 I39 J39 => ((r39 = 0 → Q (-102) I39 J39) ∧ (¬ r39 = 0 → wX12_ones g a3 I39 J39 (fun r49 I49 J49 => wX12_blackBy g (nI r) (nI c) r49 (nI m) I49 J49 (fun r54 I54 J54 => Q r54 I54 J54))))))))) → wX12_black g (nI r) (nI c) a3 (nI m) I J (fun r2 I2 J2 => v = r2 ∧ Inv g I2 J2) := by
          intro v hv
          unfold wX12_black
          rw [eM_isRule (m7 hV hS) (by omega), h, bs_some]
          refine br_f (by decide) ?_
          rw [eM_isCandidate (m4 hV hS) (by omega), h2, bs_some]
          refine br_f (by decide) ?_
          rw [eM_isMember (m0 hV hS) (by omega), h4, bs_some]
          exact br_t' (by decide) (hv (fun r2 I2 J2 => v = r2 ∧ Inv g I2 J2) ⟨rfl, hi⟩)
        cases h3 : csOf a3 g.2.1 with
        | none =>
          rw [bs_none]
          refine br_t rfl (K _ (fun Q hQ => ?_))
          rw [eM_areComers (m0 hV hS) hp8, h3, bs_none]
          exact br_t rfl hQ
        | some cs =>
          obtain ⟨q1, q2, rfl⟩ := csOf_some h3
          have q3 : cs < 256 := Nat.lt_of_lt_of_le q2 (pow8 hp8)
          rw [bs_some]
          refine br_f (by decide) ?_
          rw [eX_isOneOf q3 (by omega)]
          by_cases hb : cs.testBit m = true
          · rw [b2i_t hb]
            refine br_t' (by decide) ?_
            refine sX_black hV hS hr hc (by omega) hm (K _ (fun Q hQ => ?_))
            rw [eM_areComers (m0 hV hS) hp8, h3, bs_some]
            refine br_f (by decide) ?_
            rw [eM_has q3 (by omega), b2i_t hb]
            refine br_f (by decide) (s_ones (by omega) ?_)
            exact sM_blackBy hV hS hr hm hc (Nat.le_trans (pc_le cs) (by decide)) hQ
          · rw [b2i_f hb]
            refine br_f' rfl (K _ (fun Q hQ => ?_))
            rw [eM_areComers (m0 hV hS) hp8, h3, bs_some]
            refine br_f (by decide) ?_
            rw [eM_has q3 (by omega), b2i_f hb]
            exact br_t rfl hQ
theorem p_op6 : op6 Inv := by
  rintro g I J a1 a2 ⟨V, nC, len, hV, hS⟩
  have hp8 := vok_p hV
  have hi := hS.inv (J := J) hV
  unfold wX11_as
  rw [eX_personAt (x10 hS) hp8]
  cases h : ixOf a1 g.2.1 with
  | none =>
    refine ⟨fun _ => ?_, fun r hr => by cases hr⟩
    try dsimp only
    unfold wX12_as
    rw [eM_isMember (m0 hV hS) (by omega), h, bs_none]
    exact br_f' rfl ⟨rfl, hi⟩
  | some p =>
    obtain ⟨hp, rfl⟩ := ixOf_some h
    have i3 : vp_in (nI p) 8 := vp_in_nI (by omega) (by decide)
    refine ⟨fun k => (by cases k), fun r' hr' => ?_⟩
    cases hr'
    rw [eX_within]
    by_cases hw : (0 : Int32) ≤ a2 ∧ a2 ≤ 4
    · rw [b2i_t hw]
      refine br_t' (by decide) ?_
      unfold wX11_isSuch
      have K : ∀ v, (∀ Q : Int32 → MI → MJ → Prop, Q v I J → ((a2 = 0 → Q (nI p) I J) ∧ (¬ a2 = 0 → ((V 18 p = a2 → Q (nI p) I J) ∧ (¬ V 18 p = a2 → ((¬ a2 = 3 → Q (-1) I J) ∧ (a2 = 3 → ((¬ V 18 p = 4 → Q (-1) I J) ∧ (V 18 p = 4 → Q (nI p) I J))))))))) → wX12_as g (nI p) a2 I J (fun r2 I2 J2 => v = r2 ∧ Inv g I2 J2) := by
        intro v hv
        unfold wX12_as
        rw [eM_isMember (m0 hV hS) (by omega), h, bs_some]
        refine br_t' (by decide) ?_
        rw [eM_within, b2i_t hw]
        refine br_t' (by decide) ⟨i3, ?_⟩
        rw [cl_nI (by omega), mv_at hS.1 p (k := 18) (by decide)]
        exact hv (fun r2 I2 J2 => v = r2 ∧ Inv g I2 J2) ⟨rfl, hi⟩
      have hn := (hS.2.2.2.1 p hp).1
      dsimp only
      rw [(hS.2.2.2.1 p hp).2.2.1, hn]
      have e0 : ∀ k : Nat, isB (isK k 2) ∧ isB (isK k 3) ∧ isB (isK k 10) ∧ isB (isK k 8) := fun k => ⟨b2i_B, b2i_B, b2i_B, b2i_B⟩
      rcases lt5 hw with rfl | rfl | rfl | rfl | rfl
      · exact br_f (by decide) (br_f (by decide) (br_f (by decide) (br_f (by decide) (br_f (by decide) (K _ (fun Q hQ => br_t rfl hQ))))))
      · refine br_t rfl ⟨(e0 _).1, ?_⟩
        rcases kd_split (hV.2.2.2.1 p hp) with e | e | e | e | e
        all_goals rw [e] at K ⊢
        · exact br_t (by decide) (K _ (fun Q hQ => br_f (by decide) (br_f (by decide) (br_t' (by decide) hQ))))
        · exact br_f (by decide) (K _ (fun Q hQ => br_f (by decide) (br_t rfl hQ)))
        · exact br_t (by decide) (K _ (fun Q hQ => br_f (by decide) (br_f (by decide) (br_t' (by decide) hQ))))
        · exact br_t (by decide) (K _ (fun Q hQ => br_f (by decide) (br_f (by decide) (br_t' (by decide) hQ))))
        · exact br_t (by decide) (K _ (fun Q hQ => br_f (by decide) (br_f (by decide) (br_t' (by decide) hQ))))
      · refine br_f (by decide) (br_t rfl ⟨(e0 _).2.1, ?_⟩)
        rcases kd_split (hV.2.2.2.1 p hp) with e | e | e | e | e
        all_goals rw [e] at K ⊢
        · exact br_t (by decide) (K _ (fun Q hQ => br_f (by decide) (br_f (by decide) (br_t' (by decide) hQ))))
        · exact br_t (by decide) (K _ (fun Q hQ => br_f (by decide) (br_f (by decide) (br_t' (by decide) hQ))))
        · exact br_f (by decide) (K _ (fun Q hQ => br_f (by decide) (br_t rfl hQ)))
        · exact br_t (by decide) (K _ (fun Q hQ => br_f (by decide) (br_f (by decide) (br_t' (by decide) hQ))))
        · exact br_t (by decide) (K _ (fun Q hQ => br_f (by decide) (br_f (by decide) (br_t' (by decide) hQ))))
      · refine br_f (by decide) (br_f (by decide) (br_t rfl ⟨(e0 _).2.2.1, ?_⟩))
        rcases kd_split (hV.2.2.2.1 p hp) with e | e | e | e | e
        all_goals rw [e] at K ⊢
        · exact br_t (by decide) (K _ (fun Q hQ => br_f (by decide) (br_f (by decide) (br_f' rfl (br_t' (by decide) hQ)))))
        · exact br_t (by decide) (K _ (fun Q hQ => br_f (by decide) (br_f (by decide) (br_f' rfl (br_t' (by decide) hQ)))))
        · exact br_t (by decide) (K _ (fun Q hQ => br_f (by decide) (br_f (by decide) (br_f' rfl (br_t' (by decide) hQ)))))
        · exact br_f (by decide) (K _ (fun Q hQ => br_f (by decide) (br_t rfl hQ)))
        · exact br_f (by decide) (K _ (fun Q hQ => br_f (by decide) (br_f (by decide) (br_f' rfl (br_f' rfl hQ)))))
      · refine br_f (by decide) (br_f (by decide) (br_f (by decide) (br_t rfl ⟨(e0 _).2.2.2, ?_⟩)))
        rcases kd_split (hV.2.2.2.1 p hp) with e | e | e | e | e
        all_goals rw [e] at K ⊢
        · exact br_t (by decide) (K _ (fun Q hQ => br_f (by decide) (br_f (by decide) (br_t' (by decide) hQ))))
        · exact br_t (by decide) (K _ (fun Q hQ => br_f (by decide) (br_f (by decide) (br_t' (by decide) hQ))))
        · exact br_t (by decide) (K _ (fun Q hQ => br_f (by decide) (br_f (by decide) (br_t' (by decide) hQ))))
        · exact br_t (by decide) (K _ (fun Q hQ => br_f (by decide) (br_f (by decide) (br_t' (by decide) hQ))))
        · exact br_f (by decide) (K _ (fun Q hQ => br_f (by decide) (br_t rfl hQ)))
    · rw [b2i_f hw]
      refine br_f' rfl ?_
      try dsimp only
      unfold wX12_as
      rw [eM_isMember (m0 hV hS) (by omega), h, bs_some]
      refine br_t' (by decide) ?_
      rw [eM_within, b2i_f hw]
      exact br_f' rfl ⟨rfl, hi⟩
end Ops2
