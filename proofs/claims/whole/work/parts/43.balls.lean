section Balls
variable {g : GS} {V : MV} {nC len : Nat} {I : MI} {J : MJ}
theorem rng {a : Int32} {n : Nat} (hn : n < 2 ^ 31) (h : 0 ≤ a ∧ a ≤ nI n) : ∃ k, k ≤ n ∧ a = nI k := by
  rw [ti_le, ti_le, nI_toInt hn, show (0 : Int32).toInt = 0 from rfl] at h
  exact ⟨a.toInt.toNat, by omega, nI_of_toInt h.1⟩
theorem pc8 {cs n : Nat} (h : cs < 2 ^ n) (hn : n ≤ 8) : pc cs ≤ 8 := by
  rw [pc_n h hn]; exact Nat.le_trans (cnt_le _ _) hn
theorem p_op13 : op13 Inv := by
  rintro g I J a1 a2 a3 a4 a5 ⟨V, nC, len, hV, hS⟩
  have hr6 := vok_r hV
  have hp8 := vok_p hV
  have hc6 := vok_c hV
  have hi : ∀ J, Inv g I J := fun J => hS.inv (J := J) hV
  unfold wX11_balls
  rw [eX_ruleAt (x9 hS) hr6]
  cases h : ixOf a1 g.2.2 with
  | none => simp [wX12_balls, eM_areThere hV hS, h, b2i, hi]
  | some r =>
    obtain ⟨hr, rfl⟩ := ixOf_some h
    refine ⟨fun k => (by cases k), fun r' hr' => ?_⟩
    cases hr'
    rw [eX_isCandidate (x11 hS) hc6]
    cases h2 : ixOf a2 nC with
    | none => simp [wX12_balls, eM_areThere hV hS, h2, b2i, hi]
    | some c =>
      obtain ⟨hc, rfl⟩ := ixOf_some h2
      rw [bs_some]
      refine br_t' (by decide) ?_
      rw [eX_areComers (x10 hS) hp8]
      cases h3 : csOf a3 g.2.1 with
      | none => simp [wX12_balls, eM_areThere hV hS, h, h2, eM_areComers (m0 hV hS) hp8, h3, b2i, hi]
      | some cs =>
        obtain ⟨q1, q2, rfl⟩ := csOf_some h3
        have q3 := lt256 q2 hp8
        have h8 := pc8 q2 hp8
        rw [bs_some]
        refine br_f (by decide) ?_
        rw [eX_within]
        by_cases hw : 0 ≤ a4 ∧ a4 ≤ 8
        case neg => simp [wX12_balls, eM_areThere hV hS, h, h2, eM_areComers (m0 hV hS) hp8, h3, eM_within, hw, b2i, hi]
        rw [b2i_t hw]
        refine br_f (by decide) ?_
        rw [eX_isPart]
        by_cases hp : a5 = 0 ∨ a5 = 1
        case neg => simp [wX12_balls, eM_areThere hV hS, h, h2, eM_areComers (m0 hV hS) hp8, h3, eM_within, hw, eM_isPart, hp, b2i, hi]
        rw [b2i_t hp]
        obtain ⟨k, hk, rfl⟩ := rng (n := 8) (by decide) hw
        refine br_t' (by decide) (sX_isWatched hS hr (by omega) (sX_tallyBalls hV hS hc q3 (fun I1 J1 hS1 hT1 => sX_waysTo hT1 (by omega) ?_)))
        rw [b2i_dec, ← pc_n q2 hp8] at hT1 
        rw [b2i_dec]
        unfold wX7_all
        rw [hT1.2.2.2.2]
        refine sX_lowest (t10_ne _ (by omega)) ?_
        try dsimp only
        unfold wX12_balls
        rw [eM_areThere hV hS1, h, h2, b2i_t (by simp)]
        refine br_t' (by decide) ?_
        rw [eM_areComers (m0 hV hS1) hp8, h3, bs_some]
        refine br_f (by decide) ?_
        rw [eM_within, b2i_t hw]
        refine br_f (by decide) ?_
        rw [eM_isPart, b2i_t hp]
        refine br_t' (by decide) (s_onesp (by omega) (sM_layWays hV hS1 hr hc q3 (by omega) (fun J2 hJ2 => ⟨vp_in_nI (by omega) (by decide), s_onesp (by omega) (s_tens (by omega) ?_)⟩)))
        rw [cl_nI (by omega), hJ2 k (by omega), dpM_c g.2.1 (fun m hm => selO_neg (by omega))]
        exact sM_lowest (t10_ne _ (by omega)) ⟨rfl, hS1.inv hV⟩
end Balls
