section Rule
theorem p_op3 : op3 Inv := by
  rintro g I J ⟨V, nC, len, hV, hS⟩
  have hr6 := vok_r hV
  have hL := hV.2.2.2.2.2.1
  unfold wX11_rule
  refine sX_isRule hV hS (fun c ra hr => ?_) (fun hno => ?_)
  case refine_2 =>
    refine br_f' rfl ?_
    try dsimp only
    unfold wX12_rule
    refine sM_readPage hV hS (fun i c m ra I1 hS1 hi hr he f1 f2 _ => ?_)
    rw [f2, b2i_f (fun z => hno c ra (by rw [← z.1, ← z.2]; exact hr))]
    exact br_f' rfl ⟨rfl, hS1.inv hV⟩
  refine br_t' (by decide) ?_
  rw [x9 hS]
  by_cases h6 : g.2.2 < 6
  case neg =>
    refine br_f (nI_nlt (b := 6) (by omega) (by omega)) ?_
    try dsimp only
    unfold wX12_rule
    refine sM_readPage hV hS (fun i c' m ra' I1 hS1 hi hr' he f1 f2 _ => ?_)
    have ei := ru_uni hi (Nat.le_refl len) hr' hr he (Or.inl rfl)
    subst ei
    rw [hr] at hr'
    cases hr'
    rw [f2, b2i_t ⟨rfl, rfl⟩, m7 hV hS1, show g.2.2 = 6 by omega]
    exact br_t' (by decide) (br_f' rfl ⟨rfl, hS1.inv hV⟩)
  refine br_t (nI_lt (b := 6) h6 (by decide)) ?_
  sorry
end Rule
