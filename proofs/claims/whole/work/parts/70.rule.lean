section Rule
def ruV (V : MV) (n : Nat) (a b c d e : Int32) : MV := vset (vset (vset (vset (vset (vset (vset V 23 n a) 24 n b) 25 n c) 26 n d) 27 n e) 17 7 (nI (n + 1))) 17 13 0
theorem k17 {X : MI} {k : Nat} {f : Nat → Int32} (h : ¬ k = 17) : (u3 X k 0 f) 17 0 = X 17 0 := u3_ne _ _ (by omega)
theorem pi8_B {L : Nat → Int32} {f : Int32 × Int32 × Int32 × Int32} {i ra : Nat} (h : PI L f i 8 ra) : isB f.2.2.1 ∧ isB f.2.2.2 ∧ (∃ d, d ≤ 8 ∧ f.2.1 = nI d) ∧ ∃ bl, f.1 = nI bl ∧ ((1 ≤ bl ∧ bl ≤ 8 ∧ ra = 0) ∨ (bl = 0 ∧ 2 ≤ ra ∧ ra ≤ 20)) := by
  rcases h with h | h | h | h | h | h | h | h | h
  all_goals try exact absurd h.1 (by decide)
  obtain ⟨-, q, d, bN, b3, b4, b5, b6, b7, b8⟩ := h
  refine ⟨?_, by rw [b8]; exact b2i_B, ⟨d, b4, b6⟩, ?_⟩
  · rcases b7 with ⟨-, y, -⟩ | ⟨-, -, y, -⟩
    · exact Or.inl y
    · exact Or.inr y
  · rcases bN with ⟨rfl, c1, c2, a, c3, c4, c5, c6⟩ | ⟨rfl, c1, c2, c3, c4, c5⟩ | ⟨rfl, c1, c2, a, b, c3, c4, c5, c6, c7, c8, c9⟩
    · exact ⟨a, c6, Or.inl ⟨c3, c4, c2⟩⟩
    · exact ⟨0, c2, Or.inr ⟨rfl, c3, by omega⟩⟩
    · exact ⟨0, c2, Or.inr ⟨rfl, by omega, c9⟩⟩
theorem p_op3 : op3 Inv := by
  rintro g I J ⟨V, nC, len, hV, hS⟩
  have hr6 := vok_r hV
  have hL := hV.2.2.2.2.2.1
  unfold wX11_rule
  refine sX_isRule hV hS (fun c ra hr => ?_) (fun hno => ?_)
  case refine_2 =>
    refine br_f' rfl ?_
    try dsimp only
    unfold wX12_rule
    refine sM_readPage hV hS (fun i c m ra I1 hS1 hi hr he f1 f2 _ => ?_)
    rw [f2, b2i_f (fun z => hno c ra (by rw [← z.1, ← z.2]; exact hr))]
    exact br_f' rfl ⟨rfl, hS1.inv hV⟩
  refine br_t' (by decide) ?_
  rw [x9 hS]
  by_cases h6 : g.2.2 < 6
  case neg =>
    refine br_f (nI_nlt (b := 6) (by omega) (by omega)) ?_
    try dsimp only
    unfold wX12_rule
    refine sM_readPage hV hS (fun i c' m ra' I1 hS1 hi hr' he f1 f2 _ => ?_)
    have ei := ru_uni hi (Nat.le_refl len) hr' hr he (Or.inl rfl)
    subst ei
    rw [hr] at hr'
    cases hr'
    rw [f2, b2i_t ⟨rfl, rfl⟩, m7 hV hS1, show g.2.2 = 6 by omega]
    exact br_t' (by decide) (br_f' rfl ⟨rfl, hS1.inv hV⟩)
  refine br_t (nI_lt (b := 6) h6 (by decide)) ?_
  have hP := pi_ok (q0 := I 17 0 24) (t0 := I 17 0 25) (o0 := I 17 0 26) hL len c 8 ra (Nat.le_refl _) hr
  unfold uX11_rule
  refine sX_toRule hV hS hP ⟨⟨by rw [x9 hS]; exact vp_in_nI (by omega) (by decide), by rw [x9 hS, cl_nI (by omega)]⟩, nm_e ?_⟩
  unfold wX4_wipe
  refine nm_e ?_
  revert hP
  generalize hf : fld (V 28) (I 17 0 24) (I 17 0 25) (I 17 0 26) len = f
  intro hP
  obtain ⟨A, hA⟩ : ∃ z, z = u3 (u3 (u3 I 43 g.2.2 (row5 f.1 (nI ra) f.2.1 f.2.2.1 f.2.2.2)) 1 0 (upd ((u3 I 43 g.2.2 (row5 f.1 (nI ra) f.2.1 f.2.2.1 f.2.2.2)) 1 0) 1 0)) 0 0 (upd ((u3 (u3 I 43 g.2.2 (row5 f.1 (nI ra) f.2.1 f.2.2.1 f.2.2.2)) 1 0 (upd ((u3 I 43 g.2.2 (row5 f.1 (nI ra) f.2.1 f.2.2.1 f.2.2.2)) 1 0) 1 0)) 0 0) 9 ((u3 (u3 I 43 g.2.2 (row5 f.1 (nI ra) f.2.1 f.2.2.1 f.2.2.2)) 1 0 (upd ((u3 I 43 g.2.2 (row5 f.1 (nI ra) f.2.1 f.2.2.1 f.2.2.2)) 1 0) 1 0)) 0 0 9 + 1)) := ⟨_, rfl⟩
  rw [← hA]
  have a9 : A 0 0 9 = nI (g.2.2 + 1) := by rw [hA, u3_same, pk_us, u3_ne _ _ (by omega), u3_ne _ _ (by omega), x9 hS, nI_1]
  have a0 : ∀ j, ¬ j = 9 → A 0 0 j = I 0 0 j := fun j hj => by rw [hA, u3_same, pk_un hj, u3_ne _ _ (by omega), u3_ne _ _ (by omega)]
  have a1 : A 1 0 1 = 0 := by rw [hA, u3_ne _ _ (by omega), u3_same, pk_us]
  have a43 : A 43 g.2.2 = row5 f.1 (nI ra) f.2.1 f.2.2.1 f.2.2.2 := by rw [hA, u3_ne _ _ (by omega), u3_ne _ _ (by omega), u3_same]
  have aF : ∀ a b, ¬ (a = 0 ∨ a = 1 ∨ (a = 43 ∧ b = g.2.2)) → A a b = I a b := fun a b h => by rw [hA, u3_ne _ _ (by omega), u3_ne _ _ (by omega), u3_ne _ _ (by omega)]
  clear hA
  have em : mview A = V := by
    rw [← hS.1]
    exact mview_of (fun a j ha => by rw [aF a 0 (by omega)])
  rw [a9, nI_pred]
  try dsimp only
  unfold wX12_rule
  refine sM_readPageM hV (A := A) ⟨em, fun _ _ _ => rfl⟩ (fun i c' m ra' z hz hi hr' he f1 f2 f3 => ?_)
  have ei := ru_uni hi (Nat.le_refl len) hr' hr he (Or.inl rfl)
  subst ei
  rw [hr] at hr'
  cases hr'
  have F := f3 rfl
  rw [aF 17 0 (by omega)] at F
  unfold FI at F
  rw [hf] at F
  obtain ⟨F1, F2, F3, F4, F5⟩ := F
  obtain ⟨p1, p2, ⟨d, p3, p4⟩, bl, p5, p6⟩ := pi8_B hP
  have z7 : z 17 0 7 = nI g.2.2 := (mv_17 hz.1 (by decide)).trans hV.2.1.1
  rw [f2, b2i_t ⟨rfl, rfl⟩, z7]
  have i6 : vp_in (nI g.2.2) 6 := vp_in_nI (by omega) (by decide)
  refine br_t' (by decide) (br_t' (fun k => absurd ((nI_eq (b := 6) (by omega) (by decide)).mp k) (by omega)) ⟨i6, ?_⟩)
  rw [k17 (by decide), z7, cl_nI (by omega), F1, F2]
  refine ⟨i6, nm_e ?_⟩
  rw [k17 (by decide), k17 (by decide), z7, cl_nI (by omega), F3]
  refine ⟨i6, ?_⟩
  rw [k17 (by decide), k17 (by decide), k17 (by decide), z7, cl_nI (by omega), F4, bool_nar p1]
  refine ⟨i6, nm_e ?_⟩
  rw [k17 (by decide), k17 (by decide), k17 (by decide), k17 (by decide), z7, cl_nI (by omega), F5, bool_nar p2]
  refine ⟨i6, nm_e ?_⟩
  refine ⟨?_, ruV V g.2.2 f.1 (nI ra) f.2.1 f.2.2.1 f.2.2.2, nC, 0, ?_, ?_, ?_⟩
  · rw [u3_same, pk_un (by decide), u3_same, pk_us, k17 (by decide), k17 (by decide), k17 (by decide), k17 (by decide), k17 (by decide), z7, nI_1, nI_pred]
  · obtain ⟨b, cc, dd⟩ := hV
    refine ⟨⟨b.1, by show g.2.2 + 1 ≤ 6; omega, b.2.2.1, by omega, b.2.2.2.2⟩, ⟨rfl, cc.2.1, cc.2.2.1, rfl⟩, fun r hr => ?_, dd.2.1, dd.2.2.1, fun i h => absurd h (Nat.not_lt_zero i), dd.2.2.2.2.1, dd.2.2.2.2.2⟩
    have hr : r < g.2.2 + 1 := hr
    by_cases e : r = g.2.2
    · subst e
      refine ⟨bl, ra, d, p6, p3, ?_, ?_, ?_, ?_, ?_⟩
      · show ruV V g.2.2 f.1 (nI ra) f.2.1 f.2.2.1 f.2.2.2 23 g.2.2 = nI bl
        unfold ruV
        rw [vset_ne (by omega), vset_ne (by omega), vset_ne (by omega), vset_ne (by omega), vset_ne (by omega), vset_ne (by omega), vset_same]
        exact p5
      · show ruV V g.2.2 f.1 (nI ra) f.2.1 f.2.2.1 f.2.2.2 24 g.2.2 = nI ra
        unfold ruV
        rw [vset_ne (by omega), vset_ne (by omega), vset_ne (by omega), vset_ne (by omega), vset_ne (by omega), vset_same]
      · show ruV V g.2.2 f.1 (nI ra) f.2.1 f.2.2.1 f.2.2.2 25 g.2.2 = nI d
        unfold ruV
        rw [vset_ne (by omega), vset_ne (by omega), vset_ne (by omega), vset_ne (by omega), vset_same]
        exact p4
      · show isB (ruV V g.2.2 f.1 (nI ra) f.2.1 f.2.2.1 f.2.2.2 26 g.2.2)
        unfold ruV
        rw [vset_ne (by omega), vset_ne (by omega), vset_ne (by omega), vset_same]
        exact p1
      · show isB (ruV V g.2.2 f.1 (nI ra) f.2.1 f.2.2.1 f.2.2.2 27 g.2.2)
        unfold ruV
        rw [vset_ne (by omega), vset_ne (by omega), vset_same]
        exact p2
    · have o : ∀ k, 23 ≤ k → ruV V g.2.2 f.1 (nI ra) f.2.1 f.2.2.1 f.2.2.2 k r = V k r := fun k hk => by
        unfold ruV
        rw [vset_ne (by omega), vset_ne (by omega), vset_ne (by omega), vset_ne (by omega), vset_ne (by omega), vset_ne (by omega), vset_ne (by omega)]
      have hq := dd.1 r (by omega)
      unfold ruleV at hq ⊢
      rw [o 23 (by decide), o 24 (by decide), o 25 (by decide), o 26 (by decide), o 27 (by decide)]
      exact hq
  · rw [mview_set (Or.inr ⟨rfl, by decide⟩), mview_set (Or.inr ⟨rfl, by decide⟩), mview_set (Or.inl (by decide)), mview_set (Or.inl (by decide)), mview_set (Or.inl (by decide)), mview_set (Or.inl (by decide)), mview_set (Or.inl (by decide)), hz.1, k17 (by decide), k17 (by decide), k17 (by decide), k17 (by decide), k17 (by decide), z7, nI_1]
    rfl
  · refine RX_of (I := A) ?_ (fun k p hk => ?_)
    case refine_2 =>
      rw [u3_ne _ _ (by omega), u3_ne _ _ (by omega), u3_ne _ _ (by omega), u3_ne _ _ (by omega), u3_ne _ _ (by omega), u3_ne _ _ (by omega), u3_ne _ _ (by omega)]
      exact hz.2 k p (by omega)
    have hR := hS.2
    refine ⟨⟨a9, ?_, ?_, ?_, a1⟩, fun r hr => ?_, fun p hp => ?_, fun c hc => ?_, fun i h => absurd h (Nat.not_lt_zero i)⟩
    · rw [a0 10 (by decide)]; exact hR.1.2.1
    · rw [a0 11 (by decide)]; exact hR.1.2.2.1
    · rw [a0 12 (by decide)]; exact hR.1.2.2.2.1
    · have hr : r < g.2.2 + 1 := hr
      by_cases e : r = g.2.2
      · subst e
        rw [a43]
        unfold ruV
        refine ⟨?_, ?_, ?_, ?_, ?_⟩
        · rw [vset_ne (by omega), vset_ne (by omega), vset_ne (by omega), vset_ne (by omega), vset_ne (by omega), vset_ne (by omega), vset_same]; rfl
        · rw [vset_ne (by omega), vset_ne (by omega), vset_ne (by omega), vset_ne (by omega), vset_ne (by omega), vset_same]; rfl
        · rw [vset_ne (by omega), vset_ne (by omega), vset_ne (by omega), vset_ne (by omega), vset_same]; rfl
        · rw [vset_ne (by omega), vset_ne (by omega), vset_ne (by omega), vset_same]; rfl
        · rw [vset_ne (by omega), vset_ne (by omega), vset_same]; rfl
      · have o : ∀ k, 23 ≤ k → ruV V g.2.2 f.1 (nI ra) f.2.1 f.2.2.1 f.2.2.2 k r = V k r := fun k hk => by
          unfold ruV
          rw [vset_ne (by omega), vset_ne (by omega), vset_ne (by omega), vset_ne (by omega), vset_ne (by omega), vset_ne (by omega), vset_ne (by omega)]
        rw [o 23 (by decide), o 24 (by decide), o 25 (by decide), o 26 (by decide), o 27 (by decide), aF 43 r (by omega)]
        exact hR.2.1 r (by omega)
    · have hpx := hR.2.2.1 p hp
      unfold persX at hpx ⊢
      rw [aF 40 p (by omega), aF 41 p (by omega), aF 42 p (by omega)]
      exact hpx
    · rw [aF 5 0 (by omega)]; exact hR.2.2.2.1 c hc
end Rule
