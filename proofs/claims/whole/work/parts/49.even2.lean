theorem pc_pos : ∀ cs, cs < 256 → 0 < cs → 0 < pc cs := by decide +kernel
section Even2
variable {g : GS} {V : MV} {nC len : Nat} {I : MI} {J : MJ}
theorem sX_seat {q n : Nat} {x : Int32} {Q : MI → MJ → Prop} (hn : n < 8) (h1 : I 10 q 1 = nI n) (h : ∀ I1, (∀ a b, ¬ ((a = 10 ∨ a = 11) ∧ b = q) → I1 a b = I a b) → I1 10 q 1 = nI (n + 1) → I1 11 q = upd (I 11 q) n x → Q I1 J) : wX0_seat g q x I J Q := by
  unfold wX0_seat
  rw [h1, cl_nI (by omega)]
  refine br_f (nI_ge (b := 8) hn (by decide)) ⟨vp_in_nI (by omega) (by decide), nm_e (h _ ?_ ?_ ?_)⟩
  · intro a b hab
    rw [u3_ne _ _ (by omega), u3_ne _ _ (by omega)]
  · rw [u3_same, pk_us, u3_ne _ _ (by omega), h1, nI_1]
  · rw [u3_ne _ _ (by omega), u3_same]
theorem St.fr2 {I1 : MI} {q : Nat} (h : St g V nC len I) (f : ∀ a b, ¬ ((a = 10 ∨ a = 11) ∧ b = q) → I1 a b = I a b) : St g V nC len I1 := by
  refine ⟨?_, RX_of h.2 (fun a b ha => f a b (by omega))⟩
  rw [← h.1]
  exact mview_of (fun a j ha => by rw [f a 0 (by omega)])
theorem sM_draw {s : Nat} {Q : Int32 → MI → MJ → Prop} (hs : s < 2147483648) (hJ : J 17 0 28 = lN s) (h : ∀ J1, J1 17 0 28 = lN (nxt s) → Q (nI (tnt (nxt s))) I J1) : wX12_draw g 10 I J Q := by
  unfold wX12_draw
  refine ⟨by decide, ?_⟩
  rw [hJ, seedL hs, u3_same, pk_uLs, tntL (nxt_lt s)]
  exact h _ (by rw [u3_same, pk_uLs])
theorem goR_lt {bl : Nat → Int32} {sel : Nat → Bool} {s : Nat} (hs : s < 2147483648) : ∀ n, (goR bl sel n s).1 < 2147483648
  | 0 => hs
  | n + 1 => by
    rw [goR_s]
    split
    · exact nxt_lt _
    · exact goR_lt hs n
theorem goR_le {bl : Nat → Int32} {sel : Nat → Bool} {s : Nat} : ∀ n, (goR bl sel n s).2 ≤ n
  | 0 => Nat.le_refl _
  | n + 1 => by
    have := goR_le (bl := bl) (sel := sel) (s := s) n
    rw [goR_s]
    split
    · show (goR bl sel n s).2 + (if bl n ≤ nI (tnt (nxt (goR bl sel n s).1)) then 0 else 1) ≤ n + 1
      split <;> omega
    · omega
theorem sM_goRound {r c cs s : Nat} {Q : Int32 → MI → MJ → Prop} (hV : VOK g V nC len) (hS : St g V nC len I) (hr : r < g.2.2) (hc : c < nC) (hcs : cs < 2 ^ g.2.1) (hs : s < 2147483648) (hJ : J 17 0 28 = lN s) (h : ∀ J1, J1 17 0 28 = lN (goR (vBlack V (wat V r (pc cs)) c) cs.testBit g.2.1 s).1 → Q (nI (goR (vBlack V (wat V r (pc cs)) c) cs.testBit g.2.1 s).2) I J1) : wX12_goRound g (nI r) (nI c) (nI cs) I J Q := by
  have hp8 := vok_p hV
  have h256 := lt256 hcs hp8
  have h8 := pc8 hcs hp8
  have key : ∀ d i J, i + d = g.2.1 → J 17 0 28 = lN (goR (vBlack V (wat V r (pc cs)) c) cs.testBit i s).1 → wX12_goRound_b6 g Q (d + 1) (nI r) (nI c) (nI cs) (nI (goR (vBlack V (wat V r (pc cs)) c) cs.testBit i s).2) (nI i) I J := by
    intro d
    induction d with
    | zero =>
      intro i J hi hJ
      have : i = g.2.1 := by omega
      subst this
      unfold wX12_goRound_b6
      rw [m0 hV hS]
      exact br_t (nI_le (Nat.le_refl _) (by omega)) (h _ hJ)
    | succ d ih =>
      intro i J hi hJ
      unfold wX12_goRound_b6
      rw [m0 hV hS, eM_has h256 (by omega)]
      refine br_f (nI_ge (by omega) (by omega)) ?_
      have ih2 := fun J1 => ih (i + 1) J1 (by omega)
      rw [goR_s] at ih2
      unfold wX12_goRound_b52 wX12_goRound_b55
      rw [nI_1]
      by_cases hm : cs.testBit i = true
      · rw [b2i_t hm]
        rw [if_pos hm] at ih2
        refine br_f (by decide) (sM_draw (goR_lt hs i) hJ (fun J1 hJ1 => s_onesp (by omega) (sM_blackBy hV hS hr (by omega) hc (by omega) ?_)))
        have ih3 := ih2 J1 hJ1
        unfold pbS at ih3
        by_cases hx : vBlack V (wat V r (pc cs)) c i ≤ nI (tnt (nxt (goR (vBlack V (wat V r (pc cs)) c) cs.testBit i s).1))
        · rw [if_pos hx] at ih3
          refine br_t hx ?_
          rw [Int32.add_zero]
          exact ih3
        · rw [if_neg hx] at ih3
          refine br_f hx ?_
          rw [nI_1]
          exact ih3
      · rw [b2i_f hm]
        rw [if_neg hm] at ih2
        exact br_t rfl (ih2 J hJ)
  exact ⟨g.2.1 + 1, key g.2.1 0 J (by omega) hJ⟩
def evV (p : Int32) (x : Nat × Int32 × Bool) : Int32 := if p = 0 then x.2.1 else if p = 1 then b2i (x.2.2 = true) else nI x.1
theorem p_op23 : op23 Inv := by
  rintro g I J a1 a2 a3 a4 a5 ⟨V, nC, len, hV, hS⟩
  have hr6 := vok_r hV
  have hp8 := vok_p hV
  have hc6 := vok_c hV
  have hi : ∀ J, Inv g I J := fun J => hS.inv (J := J) hV
  unfold wX11_evening
  rw [eX_ruleAt (x9 hS) hr6]
  cases h : ixOf a1 g.2.2 with
  | none => simp [wX12_evening, eM_areThere hV hS, h, b2i, hi]
  | some r =>
    obtain ⟨hr, rfl⟩ := ixOf_some h
    refine ⟨fun k => (by cases k), fun r' hr' => ?_⟩
    cases hr'
    rw [eX_isCandidate (x11 hS) hc6]
    cases h2 : ixOf a2 nC with
    | none => simp [wX12_evening, eM_areThere hV hS, h2, b2i, hi]
    | some c =>
      obtain ⟨hc, rfl⟩ := ixOf_some h2
      rw [bs_some]
      refine br_t' (by decide) ?_
      rw [eX_areComers (x10 hS) hp8]
      cases h3 : csOf a3 g.2.1 with
      | none => simp [wX12_evening, eM_areThere hV hS, h, h2, eM_areComers (m0 hV hS) hp8, h3, b2i, hi]
      | some cs =>
        obtain ⟨q1, q2, rfl⟩ := csOf_some h3
        have q3 := lt256 q2 hp8
        have h8 := pc8 q2 hp8
        rw [bs_some]
        refine br_f (by decide) ?_
        by_cases h4 : a4 < 0
        case pos => simp [wX12_evening, eM_areThere hV hS, h, h2, eM_areComers (m0 hV hS) hp8, h3, h4, b2i, hi]
        refine br_f h4 ?_
        rw [eX_within]
        by_cases hw : 0 ≤ a5 ∧ a5 ≤ 2
        case neg => simp [wX12_evening, eM_areThere hV hS, h, h2, eM_areComers (m0 hV hS) hp8, h3, h4, eM_within, hw, b2i, hi]
        rw [b2i_t hw]
        obtain ⟨s, hs, rfl⟩ := nI_of h4
        have hpp := pc_pos cs q3 q1
        have fin : ∀ I1 J1, St g V nC len I1 → wX12_evening g (nI r) (nI c) (nI cs) (nI s) a5 I1 J1 (fun r2 I2 J2 => evV a5 (hldV V r (pc cs) (goR (vBlack V (wat V r (pc cs)) c) cs.testBit g.2.1) s) = r2 ∧ Inv g I2 J2) := by
          intro I1 J1 hS1
          unfold wX12_evening
          rw [eM_areThere hV hS1, h, h2, b2i_t (by simp)]
          refine br_t' (by decide) ?_
          rw [eM_areComers (m0 hV hS1) hp8, h3, bs_some]
          refine br_f (by decide) (br_f h4 ?_)
          rw [eM_within, b2i_t hw]
          refine br_t' (by decide) (s_onesp (by omega) ⟨vp_in_nI (by omega) (by decide), ?_⟩)
          have b138 : ∀ (Q : Int32 → MI → MJ → Prop) (J2 : MJ) (s2 : Nat) (k : Int32) (b : Bool), J2 17 0 28 = lN s2 → Q (evV a5 (s2, k, b)) I1 J2 → wX12_evening_b138 g Q a5 k (b2i (b = true)) I1 J2 := by
            intro Q J2 s2 k b hJ2 hq
            unfold wX12_evening_b138
            rw [hJ2, lN_i]
            unfold evV at hq
            by_cases e0 : a5 = 0
            · rw [if_pos e0] at hq
              exact br_f' e0 hq
            · rw [if_neg e0] at hq
              refine br_t' e0 ?_
              by_cases e1 : a5 = 1
              · rw [if_pos e1] at hq
                refine br_f' e1 ?_
                cases b
                · exact br_t rfl hq
                · exact br_f (by decide) hq
              · rw [if_neg e1] at hq
                exact br_t' e1 hq
          rw [cl_nI (by omega), mv_at hS1.1 r (k := 25) (by decide)]
          have hJ0 : (u3 J1 17 0 (vp_updL (J1 17 0) 28 (Int32.toInt64 (nI s)))) 17 0 28 = lN s := by rw [u3_same, pk_uLs, nI_l hs]
          unfold hldV
          by_cases hq : nI (pc cs) < V 25 r
          · rw [if_pos (Or.inr hq)]
            exact br_t hq (b138 _ _ s (-1) false hJ0 ⟨rfl, hS1.inv hV⟩)
          · rw [if_neg (by simp [hq]; omega)]
            have g8 := goR_le (bl := vBlack V (wat V r (pc cs)) c) (sel := cs.testBit) (s := s) g.2.1
            refine br_f hq (sM_goRound hV hS1 hr hc q2 hs hJ0 (fun J2 hJ2 => sM_shuts hV hS1 hr ?_))
            unfold wX12_evening_b94 wX12_evening_b136
            rw [cl_nI (by omega), mv_at hS1.1 r (k := 26) (by decide)]
            by_cases hb : shB V r (goR (vBlack V (wat V r (pc cs)) c) cs.testBit g.2.1 s).2 (pc cs) = true
            · rw [b2i_t hb]
              refine br_t' (by decide) (br_f' rfl ⟨vp_in_nI (by omega) (by decide), ?_⟩)
              by_cases h26 : V 26 r = 0
              · rw [if_neg (by simp [h26])]
                exact br_t h26 (b138 _ _ _ _ false hJ2 ⟨by rw [hb]; rfl, hS1.inv hV⟩)
              · rw [if_pos ⟨h26, hb⟩]
                refine br_f h26 (sM_goRound hV hS1 hr hc q2 (goR_lt hs _) hJ2 (fun J3 hJ3 => sM_shuts hV hS1 hr ?_))
                by_cases hb2 : shB V r (goR (vBlack V (wat V r (pc cs)) c) cs.testBit g.2.1 (goR (vBlack V (wat V r (pc cs)) c) cs.testBit g.2.1 s).1).2 (pc cs) = true
                · rw [b2i_t hb2]
                  exact br_t' (by decide) (b138 _ _ _ _ false hJ3 ⟨by rw [hb2]; rfl, hS1.inv hV⟩)
                · rw [b2i_f hb2]
                  exact br_f' rfl (b138 _ _ _ _ true hJ3 ⟨by rw [eq_false_of_ne_true hb2]; rfl, hS1.inv hV⟩)
            · rw [b2i_f hb, if_neg (by simp [hb])]
              exact br_f' rfl (br_t' (by decide) (b138 _ _ _ _ true hJ2 ⟨by rw [eq_false_of_ne_true hb]; rfl, hS1.inv hV⟩))
        have key : ∀ d i I J, i + d = g.2.1 → St g V nC len I → I 10 0 1 = nI (cnt cs.testBit i) → (∀ s, pb (I 11 0) (cnt cs.testBit i) s = goR (vBlack V (wat V r (pc cs)) c) cs.testBit i s) → wX11_evening_b67 g (fun r1 I1 J1 => wX12_evening g (nI r) (nI c) (nI cs) (nI s) a5 I1 J1 (fun r2 I2 J2 => r1 = r2 ∧ Inv g I2 J2)) (d + 1) (nI c) (nI cs) (nI s) a5 r (b2i (wat V r (pc cs) = true)) (nI i) I J := by
          intro d
          induction d with
          | zero =>
            intro i I J hi hS e1 e2
            have : i = g.2.1 := by omega
            subst this
            unfold wX11_evening_b67
            rw [x10 hS]
            rw [← pc_n q2 hp8] at e1 e2
            refine br_t (nI_le (Nat.le_refl _) (by omega)) (sX_hold hS hr h8 hs rfl e1 (fun I1 f1 c1 c2 c3 c4 => ?_))
            rw [show pb (I 11 0) (pc cs) = goR (vBlack V (wat V r (pc cs)) c) cs.testBit g.2.1 from funext e2] at c2 c3 c4
            have F := fin I1 J (hS.fr f1)
            rw [c2, c3, c4]
            unfold evV at F
            by_cases z0 : a5 = 0
            · rw [if_pos z0] at F
              exact br_t z0 F
            · rw [if_neg z0] at F
              refine br_f z0 ?_
              by_cases z1 : a5 = 1
              · rw [if_pos z1] at F
                refine br_t z1 ?_
                revert F
                cases (hldV V r (pc cs) (goR (vBlack V (wat V r (pc cs)) c) cs.testBit g.2.1) s).2.2 with
                | false => exact fun F => br_t rfl F
                | true => exact fun F => br_f (by decide) F
              · rw [if_neg z1] at F
                exact br_f z1 F
          | succ d ih =>
            intro i I J hi hS e1 e2
            unfold wX11_evening_b67
            rw [x10 hS, eX_isOneOf q3 (by omega), cl_nI (by omega)]
            refine br_f (nI_ge (by omega) (by omega)) ?_
            have h1 := cnt_le cs.testBit i
            by_cases hm : cs.testBit i = true
            · rw [b2i_t hm]
              refine br_f (by decide) ⟨vp_in_nI (by omega) (by decide), br_f' (by omega) (sX_blackOf hV hS (by omega) hc ?_)⟩
              rw [b2i_dec]
              refine sX_seat (by omega) e1 (fun I1 f1 c1 c2 => ?_)
              unfold wX11_evening_b106
              rw [nI_1]
              refine ih (i + 1) I1 J (by omega) (hS.fr2 f1) ?_ ?_
              · rw [c1, cnt_s, if_pos hm]
              · intro s
                rw [cnt_s, if_pos hm, pb_s, goR_s, if_pos hm, c2, pk_us, ← e2 s]
                rw [pb_c (L := upd (I 11 0) (cnt cs.testBit i) (vBlack V (wat V r (pc cs)) c i)) (M := I 11 0) _ s (fun j hj => pk_un (by omega))]
            · rw [b2i_f hm]
              refine br_t rfl ?_
              unfold wX11_evening_b106
              rw [nI_1]
              refine ih (i + 1) I J (by omega) hS ?_ ?_
              · rw [cnt_s, if_neg hm]; exact e1
              · intro s
                rw [cnt_s, if_neg hm, goR_s, if_neg hm]
                exact e2 s
        refine br_t' (by decide) (sX_isWatched hS hr (by omega) ?_)
        unfold wX0_begin
        refine ⟨g.2.1 + 1, key g.2.1 0 _ _ (by omega) (hS.x (by decide)) ?_ (fun s => rfl)⟩
        rw [u3_same, pk_us]
        rfl
end Even2
