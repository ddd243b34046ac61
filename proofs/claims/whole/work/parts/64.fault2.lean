def fld (L : Nat → Int32) (q0 t0 o0 : Int32) : Nat → Int32 × Int32 × Int32 × Int32
  | 0 => (0, q0, t0, o0)
  | i + 1 => match ruN L i with
    | none => fld L q0 t0 o0 i
    | some (_, m, _) => (if nI m = 1 then L i - 48 else (fld L q0 t0 o0 i).1, if nI m = 5 then L i - 48 else (fld L q0 t0 o0 i).2.1, if nI m = 6 then b2i (L i = 116) else (fld L q0 t0 o0 i).2.2.1, if nI m = 6 ∨ nI m = 7 then b2i (L i = 99) else (fld L q0 t0 o0 i).2.2.2)
def FI (L : Nat → Int32) (q0 t0 o0 : Int32) (i ra : Nat) (z : MI) : Prop := z 17 0 22 = (fld L q0 t0 o0 i).1 ∧ z 17 0 23 = nI ra ∧ z 17 0 24 = (fld L q0 t0 o0 i).2.1 ∧ z 17 0 25 = (fld L q0 t0 o0 i).2.2.1 ∧ z 17 0 26 = (fld L q0 t0 o0 i).2.2.2
theorem ruN_s {L : Nat → Int32} {i c m ra : Nat} (h : ruN L i = some (c, m, ra)) : ruN L (i + 1) = if dB (nI c) (L i) = -1 then none else some (tn (dB (nI c) (L i)), tn (dM (nI m) (nI ra) (L i)), tn (fR (nI m) (nI ra) (L i))) := by rw [ruN, h]
section Fault
variable {g : GS} {V : MV} {nC len : Nat} {I : MI} {J : MJ}
theorem sX_first {Q : Int32 → MI → MJ → Prop} (hV : VOK g V nC len) (hS : St g V nC len I) (h : ∀ i c m ra, i ≤ len → ruN (V 28) i = some (c, m, ra) → (i = len ∨ ruN (V 28) (i + 1) = none) → Q (nI i) I J) : wX4_firstFault g I J Q := by
  have hl : len ≤ 20 := hV.1.2.2.2.1
  have hL := hV.2.2.2.2.2.1
  have e1 : I 1 0 1 = nI len := hS.2.1.2.2.2.2
  have key : ∀ d i c m ra, i + d = len → ruN (V 28) i = some (c, m, ra) → wX4_firstFault_b4 g Q (d + 1) (nI c) (nI i) I J := by
    intro d
    induction d with
    | zero =>
      intro i c m ra hi hr
      have : i = len := by omega
      subst this
      unfold wX4_firstFault_b4
      rw [e1]
      exact br_t (nI_le (Nat.le_refl _) (by omega)) (h _ c m ra (Nat.le_refl _) hr (Or.inl rfl))
    | succ d ih =>
      intro i c m ra hi hr
      unfold wX4_firstFault_b4
      rw [e1, cl_nI (by omega), hS.2.2.2.2.2 i (by omega)]
      refine br_f (nI_ge (by omega) (by omega)) ⟨vp_in_nI (by omega) (by decide), sX_due ?_⟩
      have hs := ruN_s hr
      by_cases e : dB (nI c) (V 28 i) = -1
      · rw [if_pos e] at hs
        exact br_f' e (h i c m ra (by omega) hr (Or.inr hs))
      · rw [if_neg e] at hs
        refine br_t' e ?_
        obtain ⟨k1, k2, k3, k4⟩ := ruN_ok hL i c m ra (by omega) hr
        obtain ⟨z, z1, z2, ez⟩ := hL i (by omega)
        rcases sim_ok c k1 m k2 ra k3 k4 z (by omega) with ⟨a, -⟩ | ⟨a1, a2, a3, a4, a5, a6, a7⟩
        · exact absurd (by rw [ez]; exact a) e
        · rw [← ez] at a1
          rw [nI_1, a1]
          exact ih (i + 1) _ _ _ (by omega) hs
  exact ⟨len + 1, key len 0 0 0 0 (by omega) rfl⟩
theorem sM_b79 {i m : Nat} {Q : MI → MJ → Prop} (hV : VOK g V nC len) (hS : St g V nC len I) (hi : i ≤ len) (hm : m < 9) (h : ∀ I1, St g V nC len I1 → I1 17 0 20 = nI i → I1 17 0 21 = b2i (i = len ∧ m = 8) → (∀ j, 22 ≤ j → I1 17 0 j = I 17 0 j) → Q I1 J) : wX12_readPage_b79 g Q (nI m) (nI i) I J := by
  have hl : len ≤ 20 := hV.1.2.2.2.1
  unfold wX12_readPage_b79 wX12_readPage_b103 wX12_readPage_b104
  have hS1 : St g V nC len (u3 I 17 0 (upd (I 17 0) 20 (nI i))) := hS.m17 (by decide)
  rw [m13 hV hS1]
  have fin : ∀ t : Int32, t = b2i (i = len ∧ m = 8) → isB t ∧ Q (u3 (u3 I 17 0 (upd (I 17 0) 20 (nI i))) 17 0 (upd ((u3 I 17 0 (upd (I 17 0) 20 (nI i))) 17 0) 21 t)) J := by
    intro t ht
    refine ⟨by rw [ht]; exact b2i_B, h _ (hS1.m17 (by decide)) ?_ ?_ (fun j hj => ?_)⟩
    · rw [u3_same, pk_un (by decide), u3_same, pk_us]
    · rw [u3_same, pk_us, ht]
    · rw [u3_same, pk_un (by omega), u3_same, pk_un (by omega)]
  by_cases e : i = len
  · refine br_f' (by rw [e]) ?_
    by_cases e8 : m = 8
    · exact br_f' (by rw [e8]; rfl) (fin 1 (b2i_t ⟨e, e8⟩).symm)
    · exact br_t' (fun k => e8 ((nI_eq (b := 8) (by omega) (by decide)).mp k)) (fin 0 (b2i_f (fun z => e8 z.2)).symm)
  · exact br_t' (fun k => e ((nI_eq (by omega) (by omega)).mp k)) (fin 0 (b2i_f (fun z => e z.1)).symm)
theorem sM_readPage {Q : MI → MJ → Prop} (hV : VOK g V nC len) (hS : St g V nC len I) (h : ∀ i c m ra I1, St g V nC len I1 → i ≤ len → ruN (V 28) i = some (c, m, ra) → (i = len ∨ ruN (V 28) (i + 1) = none) → I1 17 0 20 = nI i → I1 17 0 21 = b2i (i = len ∧ m = 8) → (i = len → FI (V 28) (I 17 0 24) (I 17 0 25) (I 17 0 26) i ra I1) → Q I1 J) : wX12_readPage g I J Q := by
  have hl : len ≤ 20 := hV.1.2.2.2.1
  have hL := hV.2.2.2.2.2.1
  unfold wX12_readPage
  have key : ∀ d i c m ra z, i + d = len → St g V nC len z → ruN (V 28) i = some (c, m, ra) → FI (V 28) (I 17 0 24) (I 17 0 25) (I 17 0 26) i ra z → wX12_readPage_b16 g Q (d + 2) (nI m) (nI i) 1 z J := by
    intro d
    induction d with
    | zero =>
      intro i c m ra z hi hS hr hF
      have : i = len := by omega
      subst this
      obtain ⟨k1, k2, k3, k4⟩ := ruN_ok hL i c m ra (Nat.le_refl _) hr
      unfold wX12_readPage_b16
      rw [m13 hV hS]
      refine br_t (nI_le (Nat.le_refl _) (by omega)) (sM_b79 hV hS (Nat.le_refl _) k2 (fun I1 hS1 f1 f2 f3 => h i c m ra I1 hS1 (Nat.le_refl _) hr (Or.inl rfl) f1 f2 (fun _ => ?_)))
      unfold FI at hF ⊢
      rw [f3 22 (by decide), f3 23 (by decide), f3 24 (by decide), f3 25 (by decide), f3 26 (by decide)]
      exact hF
    | succ d ih =>
      intro i c m ra z hi hS hr hF
      obtain ⟨k1, k2, k3, k4⟩ := ruN_ok hL i c m ra (by omega) hr
      obtain ⟨w, w1, w2, ez⟩ := hL i (by omega)
      unfold wX12_readPage_b16
      rw [m13 hV hS, cl_nI (by omega), mv_at hS.1 i (k := 28) (by decide)]
      refine br_f (nI_ge (by omega) (by omega)) (br_f (by decide) ⟨vp_in_nI (by omega) (by decide), sM_next hS (fun z1 hS1 hN => ?_)⟩)
      have hs := ruN_s hr
      rw [hF.2.1]
      rcases sim_ok c k1 m k2 ra k3 k4 w (by omega) with ⟨a, b⟩ | ⟨a1, a2, a3, a4, a5, a6, a7⟩
      · rw [← ez] at a b
        rw [if_pos a] at hs
        refine br_t b ?_
        unfold wX12_readPage_b52 wX12_readPage_b63 wX12_readPage_b74
        rw [Int32.add_zero]
        refine br_t rfl (br_t rfl ?_)
        unfold wX12_readPage_b16
        try dsimp only
        rw [m13 hV hS1]
        exact br_f (nI_ge (by omega) (by omega)) (br_t rfl (sM_b79 hV hS1 (by omega) k2 (fun I1 hS2 f1 f2 f3 => h i c m ra I1 hS2 (by omega) hr (Or.inr hs) f1 f2 (fun e => absurd e (by omega)))))
      · rw [← ez] at a1 a2 a3 a4 a5 a6 a7
        have n1 : ¬ dB (nI c) (V 28 i) = -1 := by rw [a1]; exact nI_nm1 (by omega)
        have n2 : ¬ dM (nI m) (nI ra) (V 28 i) = -1 := by rw [a2]; exact nI_nm1 (by omega)
        rw [if_neg n1] at hs
        refine br_f n2 ?_
        unfold wX12_readPage_b52 wX12_readPage_b63 wX12_readPage_b74
        rw [nI_1, a2]
        refine br_f (by decide) (br_f (by decide) (ih (i + 1) _ _ _ z1 (by omega) hS1 hs ?_))
        unfold NXf at hN
        unfold FI
        rw [hF.2.1] at hN
        rw [fld, hr]
        obtain ⟨x1, x2, x3, x4, x5⟩ := hN
        refine ⟨?_, ?_, ?_, ?_, ?_⟩
        · rw [x1, hF.1]
        · rw [x2]; exact a3
        · rw [x3, hF.2.2.1]
        · rw [x4, hF.2.2.2.1]
        · rw [x5, hF.2.2.2.2]
  refine ⟨len + 2, key len 0 0 0 0 _ (by omega) ((hS.m17 (by decide)).m17 (by decide)) rfl ?_⟩
  unfold FI
  rw [u3_same, u3_same]
  refine ⟨?_, ?_, ?_, ?_, ?_⟩
  · rw [pk_un (by decide), pk_us]; rfl
  · rw [pk_us]; rfl
  · rw [pk_un (by decide), pk_un (by decide)]; rfl
  · rw [pk_un (by decide), pk_un (by decide)]; rfl
  · rw [pk_un (by decide), pk_un (by decide)]; rfl
theorem ru_uni {L : Nat → Int32} {len i j : Nat} {p q : Nat × Nat × Nat} (hi : i ≤ len) (hj : j ≤ len) (ri : ruN L i = some p) (rj : ruN L j = some q) (ei : i = len ∨ ruN L (i + 1) = none) (ej : j = len ∨ ruN L (j + 1) = none) : i = j := by
  rcases Nat.lt_trichotomy i j with h | h | h
  · have := ruN_none (ei.resolve_left (by omega)) j (by omega)
    rw [this] at rj; cases rj
  · exact h
  · have := ruN_none (ej.resolve_left (by omega)) i (by omega)
    rw [this] at ri; cases ri
theorem p_op2 : op2 Inv := by
  rintro g I J ⟨V, nC, len, hV, hS⟩
  unfold wX11_fault
  refine sX_first hV hS (fun i c m ra hi hr he => ?_)
  try dsimp only
  unfold wX12_fault
  refine sM_readPage hV hS (fun j c' m' ra' I1 hS1 hj hr' he' f1 _ _ => ⟨?_, hS1.inv hV⟩)
  rw [f1, ru_uni hi hj hr hr' he he']
end Fault
