def MS (V : MV) (A z : MI) : Prop := mview z = V ∧ ∀ a b, ¬ a = 17 → z a b = A a b
theorem MS.m17 {V : MV} {A z : MI} (h : MS V A z) {j : Nat} {v : Int32} (hj : 20 ≤ j) : MS V A (u3 z 17 0 (upd (z 17 0) j v)) := by
  refine ⟨?_, fun a b hab => by rw [u3_ne _ _ (by omega)]; exact h.2 a b hab⟩
  rw [← h.1]
  refine mview_of (fun a i ha => ?_)
  by_cases e : a = 17
  · subst e
    rw [u3_same, pk_un (by omega)]
  · rw [u3_ne _ _ (by omega)]
theorem m13M {g : GS} {V : MV} {nC len : Nat} {A z : MI} (hV : VOK g V nC len) (h : MS V A z) : z 17 0 13 = nI len := (mv_17 h.1 (by decide)).trans hV.2.1.2.2.2
section PageM
variable {g g0 : GS} {V : MV} {nC len : Nat} {I A : MI} {J : MJ}
theorem sM_nextM {m x : Int32} {Q : Int32 → MI → MJ → Prop} (hS : MS V A I) (h : ∀ I1, MS V A I1 → NXf I I1 m x → Q (dM m (I 17 0 23) x) I1 J) : wX12_next g m x I J Q := by
  unfold dM at h
  unfold wX12_next
  simp only [eM_within]
  by_cases h0 : m = 0
  · rw [if_pos h0] at h
    have h := h I hS (nx_id (by rw [h0]; decide) (by unfold fR; rw [if_neg (by rw [h0]; decide), if_neg (by rw [h0]; decide)]) (by rw [h0]; decide) (by rw [h0]; decide) (by rw [h0]; decide))
    refine br_t h0 ?_
    by_cases a : x = 98
    · rw [if_pos a] at h; exact br_f' a h
    rw [if_neg a] at h
    refine br_t' a ?_
    by_cases b : x = 114
    · rw [if_pos b] at h; exact br_f' b h
    · rw [if_neg b] at h; exact br_t' b h
  rw [if_neg h0] at h
  refine br_f h0 ?_
  by_cases h1 : m = 1
  · rw [if_pos h1] at h
    have h := h (u3 I 17 0 (upd (I 17 0) 22 (x - 48))) (hS.m17 (by decide)) (by
      unfold NXf fR
      subst h1
      rw [u3_same]
      refine ⟨by rw [pk_us, if_pos rfl], by rw [pk_un (by decide), if_neg (by decide), if_neg (by decide)], by rw [pk_un (by decide), if_neg (by decide)], by rw [pk_un (by decide), if_neg (by decide)], by rw [pk_un (by decide), if_neg (by decide)]⟩)
    refine br_t h1 ?_
    by_cases a : 49 ≤ x ∧ x ≤ 56
    · rw [if_pos a] at h; rw [b2i_t a]; exact br_f (by decide) h
    · rw [if_neg a] at h; rw [b2i_f a]; exact br_t rfl h
  rw [if_neg h1] at h
  refine br_f h1 ?_
  by_cases h2 : m = 2
  · rw [if_pos h2] at h
    have h := h (u3 I 17 0 (upd (I 17 0) 23 (x - 48))) (hS.m17 (by decide)) (by
      unfold NXf fR
      subst h2
      rw [u3_same]
      refine ⟨by rw [pk_un (by decide), if_neg (by decide)], by rw [pk_us, if_pos rfl], by rw [pk_un (by decide), if_neg (by decide)], by rw [pk_un (by decide), if_neg (by decide)], by rw [pk_un (by decide), if_neg (by decide)]⟩)
    refine br_t h2 ?_
    by_cases a : 49 ≤ x ∧ x ≤ 57
    · rw [if_pos a] at h; rw [b2i_t a]; exact br_f (by decide) h
    · rw [if_neg a] at h; rw [b2i_f a]; exact br_t rfl h
  rw [if_neg h2] at h
  refine br_f h2 ?_
  by_cases h3 : m = 3
  · rw [if_pos h3] at h
    refine br_t h3 ?_
    subst h3
    have yes : ((I 17 0 23 = 1 ∧ (48 ≤ x ∧ x ≤ 57)) ∨ (I 17 0 23 = 2 ∧ x = 48)) → wX12_nextRatio_b34 g (fun r122 I122 J122 => Q r122 I122 J122) x 1 I J := by
      intro e
      rw [if_pos e] at h
      unfold wX12_nextRatio_b34
      refine br_f (by decide) (h _ (hS.m17 (by decide)) ?_)
      unfold NXf fR
      rw [u3_same]
      refine ⟨by rw [pk_un (by decide), if_neg (by decide)], by rw [pk_us, if_neg (by decide), if_pos rfl, if_pos e], by rw [pk_un (by decide), if_neg (by decide)], by rw [pk_un (by decide), if_neg (by decide)], by rw [pk_un (by decide), if_neg (by decide)]⟩
    have no : ¬ ((I 17 0 23 = 1 ∧ (48 ≤ x ∧ x ≤ 57)) ∨ (I 17 0 23 = 2 ∧ x = 48)) → wX12_nextRatio_b34 g (fun r122 I122 J122 => Q r122 I122 J122) x 0 I J := by
      intro e
      rw [if_neg e] at h
      have h := h I hS (nx_id (by decide) (by unfold fR; rw [if_neg (by decide), if_pos rfl, if_neg e]) (by decide) (by decide) (by decide))
      unfold wX12_nextRatio_b34
      refine br_t rfl ?_
      by_cases a : I 17 0 23 ≤ 1
      · rw [if_pos a] at h; exact br_t a h
      rw [if_neg a] at h
      refine br_f a ?_
      by_cases b : x = 113
      · rw [if_pos b] at h; exact br_f' b h
      · rw [if_neg b] at h; exact br_t' b h
    have b15 : ¬ (I 17 0 23 = 1 ∧ (48 ≤ x ∧ x ≤ 57)) → wX12_nextRatio_b15 g (fun r122 I122 J122 => Q r122 I122 J122) x I J := by
      intro e
      unfold wX12_nextRatio_b15 wX12_nextRatio_b33 wX12_nextRatio_b29
      by_cases a : I 17 0 23 = 2
      · refine br_f' a ?_
        by_cases b : x = 48
        · exact br_f' b (yes (Or.inr ⟨a, b⟩))
        · exact br_t' b (no (fun z => z.elim e (fun y => b y.2)))
      · exact br_t' a (no (fun z => z.elim e (fun y => a y.1)))
    unfold wX12_nextRatio wX12_isDigit
    by_cases a : I 17 0 23 = 1
    · refine br_f' a ?_
      rw [eM_within]
      refine ⟨b2i_B, ?_⟩
      by_cases d : 48 ≤ x ∧ x ≤ 57
      · rw [b2i_t d]
        exact br_t' (by decide) (yes (Or.inl ⟨a, d⟩))
      · rw [b2i_f d]
        exact br_f' rfl (b15 (fun z => d z.2))
    · exact br_t' a (b15 (fun z => a z.1))
  rw [if_neg h3] at h
  refine br_f h3 ?_
  by_cases h4 : m = 4
  · rw [if_pos h4] at h
    subst h4
    have h := h I hS (nx_id (by decide) (by unfold fR; rw [if_neg (by decide), if_neg (by decide)]) (by decide) (by decide) (by decide))
    refine br_t rfl ?_
    by_cases b : x = 113
    · rw [if_pos b] at h; exact br_f' b h
    · rw [if_neg b] at h; exact br_t' b h
  rw [if_neg h4] at h
  refine br_f h4 ?_
  by_cases h5 : m = 5
  · rw [if_pos h5] at h
    have h := h (u3 I 17 0 (upd (I 17 0) 24 (x - 48))) (hS.m17 (by decide)) (by
      unfold NXf fR
      subst h5
      rw [u3_same]
      refine ⟨by rw [pk_un (by decide), if_neg (by decide)], by rw [pk_un (by decide), if_neg (by decide), if_neg (by decide)], by rw [pk_us, if_pos rfl], by rw [pk_un (by decide), if_neg (by decide)], by rw [pk_un (by decide), if_neg (by decide)]⟩)
    refine br_t h5 ?_
    by_cases a : 48 ≤ x ∧ x ≤ 56
    · rw [if_pos a] at h; rw [b2i_t a]; exact br_f (by decide) h
    · rw [if_neg a] at h; rw [b2i_f a]; exact br_t rfl h
  rw [if_neg h5] at h
  refine br_f h5 ?_
  by_cases h6 : m = 6
  · rw [if_pos h6] at h
    subst h6
    refine br_t rfl ?_
    have go : ∀ t u : Int32, t = b2i (x = 116) → u = b2i (x = 99) → Q (if x = 116 then 7 else if x = 99 then 8 else if x = 121 then 8 else -1) (u3 (u3 I 17 0 (upd (I 17 0) 25 t)) 17 0 (upd ((u3 I 17 0 (upd (I 17 0) 25 t)) 17 0) 26 u)) J := by
      intro t u ht hu
      refine h _ ((hS.m17 (by decide)).m17 (by decide)) ?_
      unfold NXf fR
      rw [u3_same, u3_same]
      refine ⟨by rw [pk_un (by decide), pk_un (by decide), if_neg (by decide)], by rw [pk_un (by decide), pk_un (by decide), if_neg (by decide), if_neg (by decide)], by rw [pk_un (by decide), pk_un (by decide), if_neg (by decide)], by rw [pk_un (by decide), pk_us, if_pos rfl, ht], by rw [pk_us, if_pos (Or.inl rfl), hu]⟩
    unfold wX12_next_b176 wX12_next_b191
    by_cases a : x = 116
    · refine br_f' a ⟨Or.inr rfl, br_t' (by rw [a]; decide) ⟨Or.inl rfl, ?_⟩⟩
      have G := go 1 0 (b2i_t a).symm (b2i_f (by rw [a]; decide)).symm
      rw [if_pos a] at G
      rw [u3_same, u3_same, pk_un (by decide), pk_us]
      exact br_f (by decide) G
    · refine br_t' a ⟨Or.inl rfl, ?_⟩
      by_cases b : x = 99
      · refine br_f' b ⟨Or.inr rfl, ?_⟩
        have G := go 0 1 (b2i_f a).symm (b2i_t b).symm
        rw [if_neg a, if_pos b] at G
        rw [u3_same, u3_same, pk_un (by decide), pk_us]
        exact br_t rfl (br_t b G)
      · refine br_t' b ⟨Or.inl rfl, ?_⟩
        have G := go 0 0 (b2i_f a).symm (b2i_f b).symm
        rw [if_neg a, if_neg b] at G
        rw [u3_same, u3_same, pk_un (by decide), pk_us]
        refine br_t rfl (br_f b ?_)
        by_cases d : x = 121
        · rw [if_pos d] at G; exact br_f' d G
        · rw [if_neg d] at G; exact br_t' d G
  rw [if_neg h6] at h
  refine br_f h6 ?_
  by_cases h7 : m = 7
  · rw [if_pos h7] at h
    subst h7
    refine br_t rfl ?_
    have go : ∀ u : Int32, u = b2i (x = 99) → Q (if x = 99 then 8 else if x = 121 then 8 else -1) (u3 I 17 0 (upd (I 17 0) 26 u)) J := by
      intro u hu
      refine h _ (hS.m17 (by decide)) ?_
      unfold NXf fR
      rw [u3_same]
      refine ⟨by rw [pk_un (by decide), if_neg (by decide)], by rw [pk_un (by decide), if_neg (by decide), if_neg (by decide)], by rw [pk_un (by decide), if_neg (by decide)], by rw [pk_un (by decide), if_neg (by decide)], by rw [pk_us, if_pos (Or.inr rfl), hu]⟩
    unfold wX12_next_b237
    by_cases b : x = 99
    · have G := go 1 (b2i_t b).symm
      rw [if_pos b] at G
      exact br_f' b ⟨Or.inr rfl, br_t b G⟩
    · have G := go 0 (b2i_f b).symm
      rw [if_neg b] at G
      refine br_t' b ⟨Or.inl rfl, br_f b ?_⟩
      by_cases d : x = 121
      · rw [if_pos d] at G; exact br_f' d G
      · rw [if_neg d] at G; exact br_t' d G
  rw [if_neg h7] at h
  refine br_f h7 (h I hS (nx_id h1 ?_ h5 h6 h7))
  unfold fR
  rw [if_neg h2, if_neg h3]
theorem sM_b79M {i m : Nat} {Q : MI → MJ → Prop} (hV : VOK g0 V nC len) (hS : MS V A I) (hi : i ≤ len) (hm : m < 9) (h : ∀ I1, MS V A I1 → I1 17 0 20 = nI i → I1 17 0 21 = b2i (i = len ∧ m = 8) → (∀ j, 22 ≤ j → I1 17 0 j = I 17 0 j) → Q I1 J) : wX12_readPage_b79 g Q (nI m) (nI i) I J := by
  have hl : len ≤ 20 := hV.1.2.2.2.1
  unfold wX12_readPage_b79 wX12_readPage_b103 wX12_readPage_b104
  have hS1 : MS V A (u3 I 17 0 (upd (I 17 0) 20 (nI i))) := hS.m17 (by decide)
  rw [m13M hV hS1]
  have fin : ∀ t : Int32, t = b2i (i = len ∧ m = 8) → isB t ∧ Q (u3 (u3 I 17 0 (upd (I 17 0) 20 (nI i))) 17 0 (upd ((u3 I 17 0 (upd (I 17 0) 20 (nI i))) 17 0) 21 t)) J := by
    intro t ht
    refine ⟨by rw [ht]; exact b2i_B, h _ (hS1.m17 (by decide)) ?_ ?_ (fun j hj => ?_)⟩
    · rw [u3_same, pk_un (by decide), u3_same, pk_us]
    · rw [u3_same, pk_us, ht]
    · rw [u3_same, pk_un (by omega), u3_same, pk_un (by omega)]
  by_cases e : i = len
  · refine br_f' (by rw [e]) ?_
    by_cases e8 : m = 8
    · exact br_f' (by rw [e8]; rfl) (fin 1 (b2i_t ⟨e, e8⟩).symm)
    · exact br_t' (fun k => e8 ((nI_eq (b := 8) (by omega) (by decide)).mp k)) (fin 0 (b2i_f (fun z => e8 z.2)).symm)
  · exact br_t' (fun k => e ((nI_eq (by omega) (by omega)).mp k)) (fin 0 (b2i_f (fun z => e z.1)).symm)
theorem sM_readPageM {Q : MI → MJ → Prop} (hV : VOK g0 V nC len) (hS : MS V A I) (h : ∀ i c m ra I1, MS V A I1 → i ≤ len → ruN (V 28) i = some (c, m, ra) → (i = len ∨ ruN (V 28) (i + 1) = none) → I1 17 0 20 = nI i → I1 17 0 21 = b2i (i = len ∧ m = 8) → (i = len → FI (V 28) (I 17 0 24) (I 17 0 25) (I 17 0 26) i ra I1) → Q I1 J) : wX12_readPage g I J Q := by
  have hl : len ≤ 20 := hV.1.2.2.2.1
  have hL := hV.2.2.2.2.2.1
  unfold wX12_readPage
  have key : ∀ d i c m ra z, i + d = len → MS V A z → ruN (V 28) i = some (c, m, ra) → FI (V 28) (I 17 0 24) (I 17 0 25) (I 17 0 26) i ra z → wX12_readPage_b16 g Q (d + 2) (nI m) (nI i) 1 z J := by
    intro d
    induction d with
    | zero =>
      intro i c m ra z hi hS hr hF
      have : i = len := by omega
      subst this
      obtain ⟨k1, k2, k3, k4⟩ := ruN_ok hL i c m ra (Nat.le_refl _) hr
      unfold wX12_readPage_b16
      rw [m13M hV hS]
      refine br_t (nI_le (Nat.le_refl _) (by omega)) (sM_b79M hV hS (Nat.le_refl _) k2 (fun I1 hS1 f1 f2 f3 => h i c m ra I1 hS1 (Nat.le_refl _) hr (Or.inl rfl) f1 f2 (fun _ => ?_)))
      unfold FI at hF ⊢
      rw [f3 22 (by decide), f3 23 (by decide), f3 24 (by decide), f3 25 (by decide), f3 26 (by decide)]
      exact hF
    | succ d ih =>
      intro i c m ra z hi hS hr hF
      obtain ⟨k1, k2, k3, k4⟩ := ruN_ok hL i c m ra (by omega) hr
      obtain ⟨w, w1, w2, ez⟩ := hL i (by omega)
      unfold wX12_readPage_b16
      rw [m13M hV hS, cl_nI (by omega), mv_at hS.1 i (k := 28) (by decide)]
      refine br_f (nI_ge (by omega) (by omega)) (br_f (by decide) ⟨vp_in_nI (by omega) (by decide), sM_nextM hS (fun z1 hS1 hN => ?_)⟩)
      have hs := ruN_s hr
      rw [hF.2.1]
      rcases sim_ok c k1 m k2 ra k3 k4 w (by omega) with ⟨a, b⟩ | ⟨a1, a2, a3, a4, a5, a6, a7⟩
      · rw [← ez] at a b
        rw [if_pos a] at hs
        refine br_t b ?_
        unfold wX12_readPage_b52 wX12_readPage_b63 wX12_readPage_b74
        rw [Int32.add_zero]
        refine br_t rfl (br_t rfl ?_)
        unfold wX12_readPage_b16
        try dsimp only
        rw [m13M hV hS1]
        exact br_f (nI_ge (by omega) (by omega)) (br_t rfl (sM_b79M hV hS1 (by omega) k2 (fun I1 hS2 f1 f2 f3 => h i c m ra I1 hS2 (by omega) hr (Or.inr hs) f1 f2 (fun e => absurd e (by omega)))))
      · rw [← ez] at a1 a2 a3 a4 a5 a6 a7
        have n1 : ¬ dB (nI c) (V 28 i) = -1 := by rw [a1]; exact nI_nm1 (by omega)
        have n2 : ¬ dM (nI m) (nI ra) (V 28 i) = -1 := by rw [a2]; exact nI_nm1 (by omega)
        rw [if_neg n1] at hs
        refine br_f n2 ?_
        unfold wX12_readPage_b52 wX12_readPage_b63 wX12_readPage_b74
        rw [nI_1, a2]
        refine br_f (by decide) (br_f (by decide) (ih (i + 1) _ _ _ z1 (by omega) hS1 hs ?_))
        unfold NXf at hN
        unfold FI
        rw [hF.2.1] at hN
        rw [fld, hr]
        obtain ⟨x1, x2, x3, x4, x5⟩ := hN
        refine ⟨?_, ?_, ?_, ?_, ?_⟩
        · rw [x1, hF.1]
        · rw [x2]; exact a3
        · rw [x3, hF.2.2.1]
        · rw [x4, hF.2.2.2.1]
        · rw [x5, hF.2.2.2.2]
  refine ⟨len + 2, key len 0 0 0 0 _ (by omega) ((hS.m17 (by decide)).m17 (by decide)) rfl ?_⟩
  unfold FI
  rw [u3_same, u3_same]
  refine ⟨?_, ?_, ?_, ?_, ?_⟩
  · rw [pk_un (by decide), pk_us]; rfl
  · rw [pk_us]; rfl
  · rw [pk_un (by decide), pk_un (by decide)]; rfl
  · rw [pk_un (by decide), pk_un (by decide)]; rfl
  · rw [pk_un (by decide), pk_un (by decide)]; rfl
theorem bool_nar {x : Int32} (h : isB x) : vp_nar .boolean x = x := by rcases h with rfl | rfl <;> rfl
end PageM
