def yvV (p : Int32) (C : ClubT) : Int32 := if p = 0 then nI C.1 else if p = 1 then nI (pc (orT C.2.1 C.1)) else if p = 2 then nI C.2.2.1 else nI C.2.2.2
section Years2
variable {g : GS} {V : MV} {nC len : Nat} {I : MI} {J : MJ}
theorem fnd_ok {s : Nat} (hs : s < 2147483648) : COK (8, (fnd 8 s).2, 0, (fnd 8 s).1) := ⟨Nat.le_refl 8, fnd_T s 8, fnd_lt hs 8⟩
theorem sM_year {ko : Int32 → Int32 → Int32 → Int32 → Int32 → MI → MJ → Prop} {Q : Int32 → MI → MJ → Prop} {r : Nat} {N a4 v6 : Int32} {C : ClubT} (hV : VOK g V nC len) (hS : St g V nC len I) (hr : r < g.2.2) (hC : COK C) (h1 : CM I J C.1 C.2.1 C.2.2.2) (h : ∀ I1 J1, St g V nC len I1 → CM I1 J1 (yr V r C).1 (yr V r C).2.1 (yr V r C).2.2.2 → ko (nI r) N a4 (nI (yr V r C).2.2.1) (v6 + 1) I1 J1) : ∃ n, wX12_years_b94 g ko Q n (nI r) N a4 (nI C.2.2.1) v6 1 I J := by
  have h8 := hC.1
  have last : ∀ (I1 : MI) (t0 : Int32), St g V nC len I1 → nI C.1 - t0 = nI (C.1 - 1) → (∀ j, j < C.1 - 1 → I1 33 0 j = nI (C.2.1 (j + 1))) → wX12_years_b142 g ko Q (nI r) N a4 (nI C.2.2.1) v6 t0 (nI C.1) I1 J := by
    intro I1 t0 hS1 e0 e1
    unfold wX12_years_b142
    rw [e0]
    have hS2 : St g V nC len (u3 I1 17 0 (upd (I1 17 0) 34 (nI (C.1 - 1)))) := hS1.m17 (by decide)
    have e34 : (u3 I1 17 0 (upd (I1 17 0) 34 (nI (C.1 - 1)))) 17 0 34 = nI (C.1 - 1) := by rw [u3_same, pk_us]
    have e33 : ∀ j, j < C.1 - 1 → (u3 I1 17 0 (upd (I1 17 0) 34 (nI (C.1 - 1)))) 33 0 j = nI (C.2.1 (j + 1)) := by
      intro j hj
      rw [u3_ne _ _ (by decide)]; exact e1 j hj
    revert hS2 e34 e33
    generalize u3 I1 17 0 (upd (I1 17 0) 34 (nI (C.1 - 1))) = I2
    intro hS2 e34 e33
    refine sM_draw hC.2.2 h1.2.2 (fun J2 hJ2 => sM_isLetIn (T := fun j => C.2.1 (j + 1)) hV hS2 hr (n := C.1 - 1) (by omega) (fun j => hC.2.1 _) (tnt_lt _) (nxt_lt _) ⟨e34, e33, hJ2⟩ (fun J3 hJ3 => ?_))
    have hy : hldV V r (C.1 - 1) (pb (tdist (tnt (nxt C.2.2.2)) (fun j => C.2.1 (j + 1))) (C.1 - 1)) (nxt C.2.2.2) = yrX V r C := rfl
    rw [hy] at hJ3 ⊢
    unfold yr at h
    unfold wX12_years_b188
    by_cases hb : (yrX V r C).2.2 = true
    · rw [if_pos hb] at h
      rw [b2i_t hb]
      refine br_f (by decide) ?_
      rw [e34, cl_nI (by omega)]
      refine ⟨vp_in_nI (by omega) (by decide), nm_e ?_⟩
      rw [nI_1]
      refine h _ _ ((hS2.m33).m17 (by decide)) ⟨?_, ?_, hJ3⟩
      · rw [u3_same, pk_us, u3_ne _ _ (by decide), e34, nI_1]
      · intro j hj
        have hj : j < C.1 - 1 + 1 := hj
        rw [u3_ne _ _ (by decide), u3_same]
        show upd (I2 33 0) (C.1 - 1) (nI (tnt (nxt C.2.2.2))) j = nI (if j = C.1 - 1 then tnt (nxt C.2.2.2) else C.2.1 (j + 1))
        by_cases e : j = C.1 - 1
        · rw [e, pk_us, if_pos rfl]
        · rw [pk_un e, if_neg e]
          exact e33 j (by omega)
    · rw [if_neg hb] at h
      rw [b2i_f hb]
      exact br_t rfl (h _ _ hS2 ⟨e34, e33, hJ3⟩)
  by_cases e : C.1 ≤ 1
  · refine ⟨1, ?_⟩
    unfold wX12_years_b94
    rw [h1.1]
    refine br_t (nI_le (b := 1) e (by decide)) ?_
    by_cases e0 : C.1 = 0
    · exact br_t (by rw [e0]; decide) (last I 0 hS (by rw [e0]; rfl) (fun j hj => absurd hj (by omega)))
    · exact br_f (nI_nle (by omega) (by omega)) (last I 1 hS (pk_sub (b := 1) (by omega)) (fun j hj => absurd hj (by omega)))
  · have key : ∀ d i I1, i + 1 + d = C.1 → St g V nC len I1 → I1 17 0 34 = nI C.1 → (∀ j, j < C.1 → I1 33 0 j = nI (if j < i then C.2.1 (j + 1) else C.2.1 j)) → wX12_years_b94 g ko Q (d + 1) (nI r) N a4 (nI C.2.2.1) v6 (nI (i + 1)) I1 J := by
      intro d
      induction d with
      | zero =>
        intro i I1 hi hS1 e1 e2
        have : i + 1 = C.1 := by omega
        unfold wX12_years_b94
        rw [e1, this]
        refine br_t (nI_le (Nat.le_refl _) (by omega)) (br_f (nI_nle (by omega) (by omega)) (last I1 1 hS1 (pk_sub (b := 1) (by omega)) (fun j hj => ?_)))
        rw [e2 j (by omega), if_pos (by omega)]
      | succ d ih =>
        intro i I1 hi hS1 e1 e2
        unfold wX12_years_b94
        rw [e1, nI_pred, cl_nI (by omega), cl_nI (by omega), nI_1]
        refine br_f (nI_ge (by omega) (by omega)) ⟨vp_in_nI (by omega) (by decide), vp_in_nI (by omega) (by decide), ih (i + 1) _ (by omega) hS1.m33 ?_ (fun j hj => ?_)⟩
        · rw [u3_ne _ _ (by decide)]; exact e1
        · rw [u3_same]
          by_cases ej : j = i
          · rw [ej, pk_us, e2 _ (by omega), if_neg (by omega), if_pos (by omega)]
          · rw [pk_un ej, e2 j hj]
            by_cases e3 : j < i
            · rw [if_pos e3, if_pos (by omega)]
            · rw [if_neg e3, if_neg (by omega)]
    refine ⟨C.1 - 1 + 1, key (C.1 - 1) 0 I (by omega) hS h1.1 (fun j hj => ?_)⟩
    rw [if_neg (by omega)]
    exact h1.2.1 j hj
theorem p_op27 : op27 Inv := by
  rintro g I J a1 a2 a3 a4 ⟨V, nC, len, hV, hS⟩
  have hr6 := vok_r hV
  have lr : g.2.2 < 2 ^ 31 := by omega
  have hi : ∀ J, Inv g I J := fun J => hS.inv (J := J) hV
  unfold wX11_years
  rw [eX_ruleAt (x9 hS) hr6]
  cases h : ixOf a1 g.2.2 with
  | none => simp [wX12_years, eM_isRule (m7 hV hS) lr, h, b2i, hi]
  | some r =>
    obtain ⟨hr, rfl⟩ := ixOf_some h
    refine ⟨fun k => (by cases k), fun r' hr' => ?_⟩
    cases hr'
    rw [eX_within]
    by_cases hw : 0 ≤ a2 ∧ a2 ≤ 60
    case neg => simp [wX12_years, eM_isRule (m7 hV hS) lr, h, eM_within, hw, b2i, hi]
    rw [b2i_t hw]
    refine br_f (by decide) ?_
    by_cases h4 : a3 < 0
    case pos => simp [wX12_years, eM_isRule (m7 hV hS) lr, h, eM_within, hw, h4, b2i, hi]
    refine br_f h4 ?_
    rw [eX_within]
    by_cases hp : 0 ≤ a4 ∧ a4 ≤ 3
    case neg => simp [wX12_years, eM_isRule (m7 hV hS) lr, h, eM_within, hw, h4, hp, b2i, hi]
    rw [b2i_t hp]
    obtain ⟨s, hs, rfl⟩ := nI_of h4
    obtain ⟨N, hN, rfl⟩ := rng (n := 60) (by decide) hw
    have c0 := fnd_ok hs
    have fin : ∀ I1 J1, St g V nC len I1 → wX12_years g (nI r) (nI N) (nI s) a4 I1 J1 (fun r2 I2 J2 => yvV a4 (yrs V r N (8, (fnd 8 s).2, 0, (fnd 8 s).1)) = r2 ∧ Inv g I2 J2) := by
      intro I1 J1 hS1
      unfold wX12_years
      rw [eM_isRule (m7 hV hS1) lr, h, bs_some]
      refine br_t' (by decide) ?_
      rw [eM_within, b2i_t hw]
      refine br_f (by decide) (br_f h4 ?_)
      rw [eM_within, b2i_t hp]
      refine br_t' (by decide) ⟨9, ?_⟩
      have keyY : ∀ d i I J, i + d = N → St g V nC len I → CM I J (yrs V r i (8, (fnd 8 s).2, 0, (fnd 8 s).1)).1 (yrs V r i (8, (fnd 8 s).2, 0, (fnd 8 s).1)).2.1 (yrs V r i (8, (fnd 8 s).2, 0, (fnd 8 s).1)).2.2.2 → wX12_years_b85 g (fun r2 I2 J2 => yvV a4 (yrs V r N (8, (fnd 8 s).2, 0, (fnd 8 s).1)) = r2 ∧ Inv g I2 J2) (d + 1) (nI r) (nI N) a4 (nI (yrs V r i (8, (fnd 8 s).2, 0, (fnd 8 s).1)).2.2.1) (nI i) I J := by
        intro d
        induction d with
        | zero =>
          intro i I J hi hS c1
          have : i = N := by omega
          subst this
          unfold wX12_years_b85
          refine br_t (nI_le (Nat.le_refl _) (by omega)) ?_
          have hok := yrs_ok (V := V) (r := r) c0 i
          by_cases z0 : a4 = 0
          · exact br_f' z0 ⟨by simp only [yvV, if_pos z0]; exact c1.1.symm, hS.inv hV⟩
          · refine br_t' z0 ?_
            by_cases z1 : a4 = 1
            · exact br_f' z1 (sM_unlike hok.1 hok.2.1 c1 ⟨by simp only [yvV, if_neg z0, if_pos z1], hS.inv hV⟩)
            · refine br_t' z1 ?_
              by_cases z2 : a4 = 2
              · exact br_f' z2 ⟨by simp only [yvV, if_neg z0, if_neg z1, if_pos z2], hS.inv hV⟩
              · exact br_t' z2 ⟨by simp only [yvV, if_neg z0, if_neg z1, if_neg z2]; rw [c1.2.2, lN_i], hS.inv hV⟩
        | succ d ih =>
          intro i I J hi hS c1
          unfold wX12_years_b85
          refine br_f (nI_ge (by omega) (by omega)) (sM_year hV hS hr (yrs_ok c0 i) c1 (fun I1 J1 hS1 c2 => ?_))
          rw [nI_1]
          exact ih (i + 1) I1 J1 (by omega) hS1 c2
      have key0 : ∀ d i I J, i + d = 8 → St g V nC len I → I 17 0 34 = nI 8 → (∀ j, j < i → I 33 0 j = nI ((fnd i s).2 j)) → J 17 0 28 = lN (fnd i s).1 → wX12_years_b53 g (fun r2 I2 J2 => yvV a4 (yrs V r N (8, (fnd 8 s).2, 0, (fnd 8 s).1)) = r2 ∧ Inv g I2 J2) (d + 1) (nI r) (nI N) a4 (nI i) I J := by
        intro d
        induction d with
        | zero =>
          intro i I J hi hS e1 e2 e3
          have : i = 8 := by omega
          subst this
          unfold wX12_years_b53
          exact br_t (nI_le (a := 8) (Nat.le_refl _) (by decide)) ⟨N + 1, keyY N 0 I J (by omega) hS ⟨e1, e2, e3⟩⟩
        | succ d ih =>
          intro i I J hi hS e1 e2 e3
          unfold wX12_years_b53
          refine br_f (nI_ge (b := 8) (by omega) (by decide)) (sM_draw (fnd_lt hs i) e3 (fun J1 hJ1 => ⟨vp_in_nI (by omega) (by decide), ?_⟩))
          rw [nI_1, cl_nI (by omega)]
          refine ih (i + 1) _ J1 (by omega) hS.m33 ?_ ?_ hJ1
          · rw [u3_ne _ _ (by decide)]; exact e1
          · intro j hj
            rw [u3_same]
            show upd (I 33 0) i (nI (tnt (nxt (fnd i s).1))) j = nI (if j = i then tnt (nxt (fnd i s).1) else (fnd i s).2 j)
            by_cases e : j = i
            · rw [e, pk_us, if_pos rfl]
            · rw [pk_un e, if_neg e]
              exact e2 j (by omega)
      refine key0 8 0 _ _ (by omega) (hS1.m17 (by decide)) ?_ (fun j hj => absurd hj (Nat.not_lt_zero j)) ?_
      · rw [u3_same, pk_us]; rfl
      · rw [u3_same, pk_uLs, nI_l hs]; rfl
    refine br_t' (by decide) (sX_found hS hs (fun I1 hS1 c1 => ⟨N + 1, ?_⟩))
    have key : ∀ d i I, i + d = N → St g V nC len I → CX I (yrs V r i (8, (fnd 8 s).2, 0, (fnd 8 s).1)) → wX11_years_b53 g (fun r1 I1 J1 => wX12_years g (nI r) (nI N) (nI s) a4 I1 J1 (fun r2 I2 J2 => r1 = r2 ∧ Inv g I2 J2)) (d + 1) (nI N) a4 r (nI i) I J := by
      intro d
      induction d with
      | zero =>
        intro i I hi hS c1
        have : i = N := by omega
        subst this
        unfold wX11_years_b53
        refine br_t (nI_le (Nat.le_refl _) (by omega)) ?_
        have hok := yrs_ok (V := V) (r := r) c0 i
        have F := fin I J hS
        by_cases z0 : a4 = 0
        · simp only [yvV, if_pos z0] at F
          rw [c1.1]
          exact br_t z0 F
        · refine br_f z0 ?_
          by_cases z1 : a4 = 1
          · simp only [yvV, if_neg z0, if_pos z1] at F
            exact br_t z1 (sX_unlike hok c1 F)
          · refine br_f z1 ?_
            by_cases z2 : a4 = 2
            · simp only [yvV, if_neg z0, if_neg z1, if_pos z2] at F
              rw [c1.2.1]
              exact br_t z2 F
            · simp only [yvV, if_neg z0, if_neg z1, if_neg z2] at F
              rw [c1.2.2.1]
              exact br_f z2 F
      | succ d ih =>
        intro i I hi hS c1
        unfold wX11_years_b53
        refine br_f (nI_ge (by omega) (by omega)) (sX_passYear hS hr (yrs_ok c0 i) c1 (fun I1 hS1 c2 => ?_))
        rw [nI_1]
        exact ih (i + 1) I1 (by omega) hS1 c2
    exact key N 0 I1 (by omega) hS1 c1
end Years2
