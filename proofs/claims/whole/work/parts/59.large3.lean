theorem prX : ∀ z, z < 11 → Int32.toInt64 ((10 - nI z) * 10) = Int32.toInt64 (10 - nI z) * 10 := by decide
theorem prY : ∀ z, z < 11 → ∀ y, y < 11 → Int32.toInt64 (nI z * (10 - nI y)) = Int32.toInt64 (nI z) * Int32.toInt64 (10 - nI y) := by decide +kernel
theorem prZ : ∀ z, z < 11 → ∀ y, y < 11 → Int32.toInt64 (nI z * nI y) = Int32.toInt64 (nI z) * Int32.toInt64 (nI y) := by decide +kernel
theorem prB : ∀ y, y < 11 → Int32.toInt64 (10 - nI y) + Int32.toInt64 (nI y) = 10 := by decide
theorem shl_p : ∀ n, n < 9 → (1 : Int32) <<< (nI n &&& 31) = nI (2 ^ n) := by decide
theorem ix9 (a b : Nat) : nI a * 9 + nI b = nI (a * 9 + b) := by rw [show (9 : Int32) = nI 9 from rfl, pk_mul, nI_add]
def Tur (I : MI) (J : MJ) (T : Nat → Nat → Nat → Int64) (n : Nat) : Prop := I 8 0 1 = nI n ∧ J 8 0 2 = t10 (n + n) ∧ ∀ a b, a < 9 → b ≤ a → J 9 0 (a * 9 + b) = T n a b
section Large
variable {g : GS} {V : MV} {nC len : Nat} {I : MI} {J : MJ}
theorem sX9_begin {X Y Z : Nat → Int64} {Q : MI → MJ → Prop} (hS : St g V nC len I) (h : ∀ I1 J1, St g V nC len I1 → Tur I1 J1 (tT X Y Z) 0 → Q I1 J1) : wX9_begin g I J Q := by
  unfold wX9_begin wJ7_fill_d0a16
  refine ⟨vp_in_nI (n := 0) (by decide) (by decide), nm_e (h _ _ (hS.x (by decide)) ⟨?_, ?_, fun a b ha hb => ?_⟩)⟩
  · rw [u3_same, pk_us]; rfl
  · rw [u3_same, pk_uLs]; rfl
  · rw [u3_ne _ _ (by decide), u3_same, u3_same, show Int32.toNatClampNeg 0 = 0 from rfl, tT]
    by_cases e : a = 0 ∧ b = 0
    · rw [show a * 9 + b = 0 by omega, pk_uLs, if_pos e]
    · rw [pk_uLn (by omega), if_neg e]
      show (if a * 9 + b < 81 then 0 else J 9 0 (a * 9 + b)) = 0
      rw [if_pos (by omega)]
theorem sX9_ways {T : Int64} {a b : Nat} {Q : Int64 → MI → MJ → Prop} (ha : a < 9) (hb : b < 9) (h1 : b ≤ a → J 9 0 (a * 9 + b) = T) (h2 : a < b → T = 0) (h : Q T I J) : wX9_waysTo g (nI a) (nI b) I J Q := by
  unfold wX9_waysTo
  refine br_f (nI_pos (by omega)) (br_f (nI_ge (b := 9) ha (by decide)) (br_f (nI_pos (by omega)) ?_))
  by_cases e : a < b
  · rw [h2 e] at h
    exact br_t (nI_lt e (by omega)) h
  · rw [ix9, cl_nI (by omega), h1 (by omega)]
    exact br_f (nI_nlt (by omega) (by omega)) ⟨vp_in_nI (by omega) (by decide), h⟩
theorem sX9_mayCome {X Y Z : Nat → Int64} {n : Nat} {cm bl : Int32} {Q : MI → MJ → Prop} (hS : St g V nC len I) (hT : Tur I J (tT X Y Z) n) (hn : n < 8) (eX : Int32.toInt64 ((10 - cm) * 10) = X n) (eY : Int32.toInt64 (cm * (10 - bl)) = Y n) (eZ : Int32.toInt64 (cm * bl) = Z n) (h : ∀ I1 J1, St g V nC len I1 → Tur I1 J1 (tT X Y Z) (n + 1) → Q I1 J1) : wX9_mayCome g cm bl I J Q := by
  obtain ⟨t1, t2, t3⟩ := hT
  unfold wX9_mayCome
  rw [eX, eY, eZ]
  have e1 : (u3 I 8 0 (upd (I 8 0) 1 ((I 8 0 1) + 1))) 8 0 1 = nI (n + 1) := by rw [u3_same, pk_us, t1, nI_1]
  rw [e1]
  refine br_t (by rw [t1]; exact nI_lt (b := 8) hn (by decide)) ⟨n + 2 + 1, ?_⟩
  have hS1 : St g V nC len (u3 I 8 0 (upd (I 8 0) 1 ((I 8 0 1) + 1))) := hS.x (by decide)
  revert hS1 e1
  generalize (u3 I 8 0 (upd (I 8 0) 1 ((I 8 0 1) + 1))) = I2
  intro e1 hS1
  have key : ∀ e J2, e ≤ n + 2 → J2 8 0 2 = t10 (n + n) * 100 → (∀ a b, a < 9 → b ≤ a → J2 9 0 (a * 9 + b) = if a < e then tT X Y Z n a b else tT X Y Z (n + 1) a b) → wX9_mayCome_b62 g Q (e + 1) (X n) (Z n) (Y n) (nI e - 1) I2 J2 := by
    intro e
    induction e with
    | zero =>
      intro J2 _ h8 hJ
      unfold wX9_mayCome_b62
      refine br_t (by decide) (h I2 J2 hS1 ⟨e1, ?_, fun a b ha hb => ?_⟩)
      · rw [h8, show n + 1 + (n + 1) = n + n + 1 + 1 by omega, t10, t10]
        grind
      · rw [hJ a b ha hb, if_neg (Nat.not_lt_zero a)]
    | succ a ih =>
      intro J2 ha h8 hJ
      unfold wX9_mayCome_b62
      rw [nI_pred]
      refine br_f (nI_pos (by omega)) ⟨a + 1 + 1, ?_⟩
      have key2 : ∀ f J3, f ≤ a + 1 → J3 8 0 2 = t10 (n + n) * 100 → (∀ a' b', a' < 9 → b' ≤ a' → J3 9 0 (a' * 9 + b') = if a' < a ∨ (a' = a ∧ b' < f) then tT X Y Z n a' b' else tT X Y Z (n + 1) a' b') → wX9_mayCome_b71 g (fun v3 v5 v7 v9 I J => wX9_mayCome_b62 g Q (a + 1) v3 v5 v7 v9 I J) Q (f + 1) (X n) (Z n) (Y n) (nI a) (nI f - 1) I2 J3 := by
        intro f
        induction f with
        | zero =>
          intro J3 _ h83 hJ3
          unfold wX9_mayCome_b71
          refine br_t (by decide) ?_
          rw [show nI a + (-1) = nI a - 1 from (Int32.sub_eq_add_neg _ _).symm]
          refine ih J3 (by omega) h83 (fun a' b' ha' hb' => ?_)
          rw [hJ3 a' b' ha' hb']
          by_cases e : a' < a
          · rw [if_pos (Or.inl e), if_pos e]
          · rw [if_neg (by omega), if_neg e]
        | succ b ihb =>
          intro J3 hf h83 hJ3
          unfold wX9_mayCome_b71
          rw [nI_pred]
          refine br_f (nI_pos (by omega)) (sX9_ways (T := tT X Y Z n a b) (by omega) (by omega) (fun hba => ?_) (fun hab => tT_b n a b hab) ?_)
          · rw [hJ3 a b (by omega) hba, if_pos (by omega)]
          have fin : ∀ (p q : Int64), p = (if a = 0 then 0 else tT X Y Z n (a - 1) b) → q = (if a = 0 ∨ b = 0 then 0 else tT X Y Z n (a - 1) (b - 1)) → vp_in ((nI a * 9) + nI b) 81 ∧ (∀ J128 : MJ, J128 = u3 J3 9 0 (vp_updL (J3 9 0) (Int32.toNatClampNeg ((nI a * 9) + nI b)) (((tT X Y Z n a b * X n) + (p * Y n)) + (q * Z n))) → wX9_mayCome_b71 g (fun v3 v5 v7 v9 I J => wX9_mayCome_b62 g Q (a + 1) v3 v5 v7 v9 I J) Q (b + 1) (X n) (Z n) (Y n) (nI a) (nI b + (-1)) I2 J128) := by
            intro p q hp hq
            rw [ix9, cl_nI (by omega), show nI b + (-1) = nI b - 1 from (Int32.sub_eq_add_neg _ _).symm]
            refine ⟨vp_in_nI (by omega) (by decide), nm_e (ihb _ (by omega) ?_ (fun a' b' ha' hb' => ?_))⟩
            · rw [u3_ne _ _ (by decide)]; exact h83
            · rw [u3_same]
              by_cases e : a' = a ∧ b' = b
              · obtain ⟨rfl, rfl⟩ := e
                rw [pk_uLs, if_neg (by omega), hp, hq]
                rfl
              · rw [pk_uLn (by omega), hJ3 a' b' ha' hb']
                by_cases e2 : a' < a ∨ (a' = a ∧ b' < b)
                · rw [if_pos (by omega), if_pos e2]
                · rw [if_neg (by omega), if_neg e2]
          cases a with
          | zero =>
            rw [show nI 0 - 1 = -1 from rfl]
            exact br_t (by decide) (br_t (by decide) (fin 0 0 rfl rfl))
          | succ a =>
            rw [nI_pred]
            refine sX9_ways (T := tT X Y Z n a b) (by omega) (by omega) (fun hba => ?_) (fun hab => tT_b n a b hab) ?_
            · rw [hJ3 a b (by omega) hba, if_pos (by omega)]
            cases b with
            | zero =>
              rw [show nI 0 - 1 = -1 from rfl]
              refine br_f (nI_pos (by omega)) (br_f (nI_ge (b := 9) (by omega) (by decide)) (br_t (by decide) (fin _ 0 ?_ rfl)))
              rfl
            | succ b =>
              rw [nI_pred]
              refine sX9_ways (T := tT X Y Z n a b) (by omega) (by omega) (fun hba => ?_) (fun hab => tT_b n a b hab) (fin _ _ ?_ ?_)
              · rw [hJ3 a b (by omega) hba, if_pos (by omega)]
              · rfl
              · rw [if_neg (by omega)]
                rfl
      have := key2 (a + 1) J2 (Nat.le_refl _) h8 (fun a' b' ha' hb' => by
        rw [hJ a' b' ha' hb']
        by_cases e : a' < a + 1
        · rw [if_pos e, if_pos (by omega)]
        · rw [if_neg e, if_neg (by omega)])
      rw [nI_pred] at this
      exact this
  have := key (n + 2) (u3 J 8 0 (vp_updL (J 8 0) 2 ((J 8 0 2) * 100))) (Nat.le_refl _) (by rw [u3_same, pk_uLs, t2]) (fun a b ha hb => by
    rw [u3_ne _ _ (by decide), t3 a b ha hb]
    by_cases e : a < n + 2
    · rw [if_pos e]
    · rw [if_neg e, tT_hi n a b (by omega), tT_hi (n + 1) a b (by omega)])
  rw [nI_pred] at this
  exact this
theorem sX9_waysIn {r n : Nat} {T : Nat → Nat → Nat → Int64} {Q : Int64 → MI → MJ → Prop} (hS : St g V nC len I) (hr : r < g.2.2) (hn : n ≤ 8) (hT : Tur I J T n) (h : Q (sumL (fun a => if a = 0 then 0 else sumS (fun b => T n a b) (fun b => inB V r b a) (a + 1)) (n + 1)) I J) : wX9_waysIn g r I J Q := by
  unfold wX9_waysIn
  refine pk_loop (fun f a (s : Int64) => wX9_waysIn_b5 g Q f r s (nI a) I J) (fun a s => 1 ≤ a ∧ s = sumL (fun a => if a = 0 then 0 else sumS (fun b => T n a b) (fun b => inB V r b a) (a + 1)) a) (n + 1) 1 0 (by omega) ⟨Nat.le_refl _, rfl⟩ (fun f s hs => ?_) (fun f a s ha hs ih => ?_)
  · unfold wX9_waysIn_b5
    rw [hT.1, hs.2]
    exact br_t (nI_lt (by omega) (by omega)) h
  · unfold wX9_waysIn_b5
    rw [hT.1]
    obtain ⟨h1, h2⟩ := hs
    refine br_f (nI_nlt (by omega) (by omega)) ?_
    refine loop_0 (fun f2 b (s2 : Int64) => wX9_waysIn_b17 g (fun v1 v2 v4 I J => wX9_waysIn_b5 g Q f v1 v2 v4 I J) Q f2 r s2 (nI a) (nI b) I J) (fun b s2 => s2 = s + sumS (fun b => T n a b) (fun b => inB V r b a) b) (a + 1) s (by rw [show sumS (fun b => T n a b) (fun b => inB V r b a) 0 = 0 from rfl, Int64.add_zero]) (fun f2 s2 hs2 => ?_) (fun f2 b s2 hb hs2 ih2 => ?_)
    · unfold wX9_waysIn_b17
      rw [nI_1]
      refine br_t (nI_lt (by omega) (by omega)) (ih _ ⟨by omega, ?_⟩)
      rw [sumL_s, if_neg (by omega), hs2, h2]
    · unfold wX9_waysIn_b17 wX9_waysIn_b46
      rw [nI_1 b]
      refine br_f (nI_nlt (by omega) (by omega)) (sX_letsIn hS hr (by omega) ?_)
      by_cases e : inB V r b a = true
      · rw [b2i_t e]
        refine br_f (by decide) (sX9_ways (T := T n a b) (by omega) (by omega) (fun hba => hT.2.2 a b (by omega) hba) (fun hab => absurd hab (by omega)) (ih2 _ ?_))
        rw [sumS_s, if_pos e, hs2, Int64.add_assoc]
      · rw [b2i_f e]
        refine br_t rfl (ih2 _ ?_)
        rw [sumS_s, if_neg e, hs2, Int64.add_zero]
theorem sM_comesBy {cs : Nat} {Q : Int64 → MI → MJ → Prop} (hV : VOK g V nC len) (hS : St g V nC len I) (hcs : cs < 256) (h : Q (cmP (laC V) (laC' V) g.2.1 cs) I J) : wX12_comesBy g (nI cs) I J Q := by
  have hp8 := vok_p hV
  unfold wX12_comesBy
  refine loop_0 (fun f i (s : Int64) => wX12_comesBy_b5 g Q f (nI cs) s (nI i) I J) (fun i s => s = cmP (laC V) (laC' V) i cs) g.2.1 1 rfl (fun f s hs => ?_) (fun f i s hi hs ih => ?_)
  · unfold wX12_comesBy_b5
    rw [m0 hV hS, hs]
    exact br_t (nI_le (Nat.le_refl _) (by omega)) h
  · unfold wX12_comesBy_b5 wX12_comesBy_b46
    rw [m0 hV hS, eM_has hcs (by omega), cl_nI (by omega), mv_at hS.1 i (k := 20) (by decide), nI_1]
    refine br_f (nI_ge hi (by omega)) ?_
    by_cases e : cs.testBit i = true
    · rw [b2i_t e]
      exact br_f (by decide) ⟨vp_in_nI (by omega) (by decide), ih _ (by rw [cmP, if_pos e, hs])⟩
    · rw [b2i_f e]
      exact br_t rfl ⟨vp_in_nI (by omega) (by decide), ih _ (by rw [cmP, if_neg e, hs])⟩
theorem p_op15 : op15 Inv := by
  rintro g I J a1 a2 a3 ⟨V, nC, len, hV, hS⟩
  have hr6 := vok_r hV
  have hp8 := vok_p hV
  have hc6 := vok_c hV
  have hi : ∀ J, Inv g I J := fun J => hS.inv (J := J) hV
  unfold wX11_large
  rw [eX_ruleAt (x9 hS) hr6]
  cases h : ixOf a1 g.2.2 with
  | none => simp [wX12_large, eM_areThere hV hS, h, b2i, hi]
  | some r =>
    obtain ⟨hr, rfl⟩ := ixOf_some h
    refine ⟨fun k => (by cases k), fun r' hr' => ?_⟩
    cases hr'
    rw [eX_isCandidate (x11 hS) hc6]
    cases h2 : ixOf a2 nC with
    | none => simp [wX12_large, eM_areThere hV hS, h2, b2i, hi]
    | some c =>
      obtain ⟨hc, rfl⟩ := ixOf_some h2
      have hp0 : 0 < g.2.1 := hV.1.2.2.2.2 (by omega)
      rw [bs_some]
      refine br_t' (by decide) ?_
      rw [eX_isPart]
      by_cases hp : a3 = 0 ∨ a3 = 1
      case neg => simp [wX12_large, eM_areThere hV hS, h, h2, eM_isPart, hp, b2i, hi]
      rw [b2i_t hp]
      refine br_t' (by decide) ?_
      have i1 : vp_in (nI r) 6 := vp_in_nI (by omega) (by decide)
      have K : ∀ {I1 : MI} {J1 : MJ} {v : Int64}, St g V nC len I1 → (∀ Q : Int64 → MI → MJ → Prop, (∀ J2, Q v I1 J2) → ((¬ V 26 r = 0 → Q ((-103)) I1 J1) ∧ (V 26 r = 0 → ((¬ nI g.2.1 = 0 → ∃ n50, wX12_large_b50 g Q n50 (nI r) (nI c) a3 0 1 I1 J1) ∧ (nI g.2.1 = 0 → Q ((-103)) I1 J1))))) → wX12_large g (nI r) (nI c) a3 I1 J1 (fun r2 I2 J2 => v = r2 ∧ Inv g I2 J2) := by
        intro I1 J1 v hS1 hv
        unfold wX12_large
        rw [eM_areThere hV hS1, h, h2, b2i_t (by simp)]
        refine br_t' (by decide) ?_
        rw [eM_isPart, b2i_t hp]
        refine br_t' (by decide) ⟨i1, ?_⟩
        rw [cl_nI (by omega), mv_at hS1.1 r (k := 26) (by decide), m0 hV hS1]
        exact hv (fun r2 I2 J2 => v = r2 ∧ Inv g I2 J2) (fun J2 => ⟨rfl, hS1.inv hV⟩)
      rw [(hS.2.2.1 r hr).2.2.2.1]
      by_cases h26 : V 26 r = 0
      case neg => exact br_f h26 (K hS (fun Q hQ => br_t' h26 (hQ _)))
      refine br_t h26 ?_
      have hpw := pow8 hp8
      have hpz := p_nz g.2.1
      have hb : ∀ m, m < g.2.1 → Int32.toInt64 (10 - laB V r c g.2.1 m) + Int32.toInt64 (laB V r c g.2.1 m) = 10 := by
        intro m hm
        obtain ⟨z, hz, ez⟩ := vb10 (w := wat V r g.2.1) (c := c) hV hm (by omega)
        show Int32.toInt64 (10 - vBlack V (wat V r g.2.1) c m) + Int32.toInt64 (vBlack V (wat V r g.2.1) c m) = 10
        rw [ez]
        exact prB z (by omega)
      have fin : ∀ I1 J1, St g V nC len I1 → wX12_large g (nI r) (nI c) a3 I1 J1 (fun r2 I2 J2 => lowV (sumL (laM V r c g.2.1) (2 ^ g.2.1)) (t10 (g.2.1 + g.2.1)) a3 = r2 ∧ Inv g I2 J2) := by
        intro I1 J1 hS1
        refine K hS1 (fun Q hQ => br_f' h26 (br_t' (nI_ne0 hp0 (by omega)) ?_))
        refine pk_loop (fun f cs (s : Int64 × MJ) => wX12_large_b50 g Q f (nI r) (nI c) a3 s.1 (nI cs) I1 s.2) (fun cs s => 1 ≤ cs ∧ s.1 = sumL (laM V r c g.2.1) cs) (2 ^ g.2.1) 1 (0, J1) (by omega) ⟨Nat.le_refl _, ?_⟩ (fun f s hs => ?_) (fun f cs s hcs hs ih => ?_)
        · show (0 : Int64) = 0 + laM V r c g.2.1 0
          unfold laM
          rw [if_pos (Or.inl rfl)]
          rfl
        · unfold wX12_large_b50
          rw [m0 hV hS1, shl_p g.2.1 (by omega), hs.2, two_mul_nI]
          exact br_t (nI_le (Nat.le_refl _) (by omega)) (s_tens (by omega) (sM_lowest (t10_ne _ (by omega)) (hQ _)))
        · obtain ⟨k1, k2⟩ := hs
          have h8 := pc8 hcs hp8
          have hle : pc cs ≤ g.2.1 := by rw [pc_n hcs hp8]; exact cnt_le _ _
          unfold wX12_large_b50
          rw [m0 hV hS1, shl_p g.2.1 (by omega)]
          refine br_f (nI_ge hcs (by omega)) (s_onesp (by omega) ⟨i1, ?_⟩)
          rw [cl_nI (by omega), mv_at hS1.1 r (k := 25) (by decide)]
          unfold wX12_large_b124
          rw [nI_1]
          have ih2 := fun J2 => ih (sumL (laM V r c g.2.1) cs + laM V r c g.2.1 cs, J2) ⟨by omega, rfl⟩
          rw [k2]
          by_cases hq : nI (pc cs) < V 25 r
          · have e0 : laM V r c g.2.1 cs = 0 := by unfold laM; rw [if_pos (Or.inr hq)]
            rw [e0, Int64.add_zero] at ih2
            exact br_t hq (ih2 _)
          · have e0 : laM V r c g.2.1 cs = (cmP (laC V) (laC' V) g.2.1 cs * (t10 (pc cs) - outV V r c cs g.2.1 g.2.1)) * t10 (g.2.1 - pc cs) := by
              unfold laM
              rw [if_neg (by simp [hq]; omega)]
            rw [e0] at ih2
            refine br_f hq (s_tens (by omega) ?_)
            rw [m0 hV hS1]
            refine sM_shutBy hV hS1 hr hc hcs (by omega) (fun J2 => sM_comesBy hV hS1 (by omega) ?_)
            rw [m0 hV hS1, pk_sub hle]
            exact s_tens (by omega) (ih2 J2)
      unfold wX11_everybody
      rw [x10 hS, shl_all g.2.1 (by omega)]
      refine sX_isWatched hS hr (by omega) (sX9_begin (X := fun n => laC' V n * 10) (Y := fun n => laC V n * Int32.toInt64 (10 - laB V r c g.2.1 n)) (Z := fun n => laC V n * Int32.toInt64 (laB V r c g.2.1 n)) hS (fun I1 J1 hS1 hT1 => ?_))
      rw [pc_all g.2.1 (by omega)]
      refine loop_0 (fun f i (s : MI × MJ) => wX11_large_b68 g (fun r1 I1 J1 => wX12_large g (nI r) (nI c) a3 I1 J1 (fun r2 I2 J2 => r1 = r2 ∧ Inv g I2 J2)) f (nI c) a3 r (b2i (wat V r g.2.1 = true)) (nI i) s.1 s.2) (fun i s => St g V nC len s.1 ∧ Tur s.1 s.2 (laT V r c g.2.1) i) g.2.1 (I1, J1) ⟨hS1, hT1⟩ (fun f s hs => ?_) (fun f i s hi hs ih => ?_)
      · obtain ⟨hS2, hT2⟩ := hs
        unfold wX11_large_b68
        rw [x10 hS2]
        refine br_t (nI_le (Nat.le_refl _) (by omega)) (sX9_waysIn hS2 hr hp8 hT2 ?_)
        unfold wX9_all
        rw [hT2.2.1]
        refine sX_lowest (t10_ne _ (by omega)) ?_
        have F := fin s.1 s.2 hS2
        rw [← la_eq hp8 hb] at F
        exact F
      · obtain ⟨hS2, hT2⟩ := hs
        unfold wX11_large_b68
        rw [x10 hS2, cl_nI (by omega), nI_1]
        refine br_f (nI_ge hi (by omega)) ⟨vp_in_nI (by omega) (by decide), br_f' hi ⟨vp_in_nI (by omega) (by decide), br_f' hi (sX_blackOf hV hS2 hi hc ?_)⟩⟩
        rw [b2i_dec, (hS2.2.2.2.1 i hi).2.1]
        obtain ⟨z, hz, ez⟩ := vb10 (w := wat V r g.2.1) (c := c) hV hi (by omega)
        obtain ⟨kd, n, cm, g1, g2, g3, g4, g5, g6, -⟩ := hV.2.2.2.1 i hi
        refine sX9_mayCome hS2 hT2 (by omega) ?_ ?_ ?_ (fun I3 J3 hS3 hT3 => ih (I3, J3) ⟨hS3, hT3⟩)
        · show _ = Int32.toInt64 (10 - V 20 i) * 10
          rw [g6]; exact prX cm (by omega)
        · show _ = Int32.toInt64 (V 20 i) * Int32.toInt64 (10 - vBlack V (wat V r g.2.1) c i)
          rw [g6, ez]; exact prY cm (by omega) z (by omega)
        · show _ = Int32.toInt64 (V 20 i) * Int32.toInt64 (vBlack V (wat V r g.2.1) c i)
          rw [g6, ez]; exact prZ cm (by omega) z (by omega)
end Large
