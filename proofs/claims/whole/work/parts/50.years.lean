/-! years: a club whose tastes are drawn -/
def dst (a b : Nat) : Nat := (a - b) + (b - a)
theorem dstX : ∀ a, a < 10 → ∀ b, b < 10 → 2 * (if 0 ≤ (nI a - nI b) then (nI a - nI b) else 0 - (nI a - nI b)) = nI (2 * dst a b) := by decide +kernel
theorem dstM1 : ∀ a, a < 10 → ∀ b, b < 10 → nI a ≤ nI b → 2 * (nI b - nI a) = nI (2 * dst a b) := by decide +kernel
theorem dstM2 : ∀ a, a < 10 → ∀ b, b < 10 → ¬ nI a ≤ nI b → 2 * (nI a - nI b) = nI (2 * dst a b) := by decide +kernel
def tdist (t : Nat) (T : Nat → Nat) : Nat → Int32 := fun j => nI (2 * dst t (T j))
abbrev ClubT : Type := Nat × (Nat → Nat) × Nat × Nat
def fnd : Nat → Nat → Nat × (Nat → Nat)
  | 0, s => (s, fun _ => 0)
  | j + 1, s => (nxt (fnd j s).1, fun k => if k = j then tnt (nxt (fnd j s).1) else (fnd j s).2 k)
theorem fnd_lt {s : Nat} (hs : s < 2147483648) : ∀ j, (fnd j s).1 < 2147483648
  | 0 => hs
  | _ + 1 => nxt_lt _
theorem fnd_T (s : Nat) : ∀ j k, (fnd j s).2 k < 10
  | 0, _ => Nat.succ_pos 9
  | j + 1, k => by
    show (if k = j then tnt (nxt (fnd j s).1) else (fnd j s).2 k) < 10
    split
    · exact tnt_lt _
    · exact fnd_T s j k
def yrX (V : MV) (r : Nat) (C : ClubT) : Nat × Int32 × Bool := hldV V r (C.1 - 1) (pb (tdist (tnt (nxt C.2.2.2)) (fun j => C.2.1 (j + 1))) (C.1 - 1)) (nxt C.2.2.2)
def yr (V : MV) (r : Nat) (C : ClubT) : ClubT :=
  if (yrX V r C).2.2 = true then (C.1 - 1 + 1, fun j => if j = C.1 - 1 then tnt (nxt C.2.2.2) else C.2.1 (j + 1), C.2.2.1 + 1, (yrX V r C).1)
  else (C.1 - 1, fun j => C.2.1 (j + 1), C.2.2.1, (yrX V r C).1)
def yrs (V : MV) (r : Nat) : Nat → ClubT → ClubT
  | 0, C => C
  | n + 1, C => yr V r (yrs V r n C)
def COK (C : ClubT) : Prop := C.1 ≤ 8 ∧ (∀ j, C.2.1 j < 10) ∧ C.2.2.2 < 2147483648
theorem hld_lt {V : MV} {r n s : Nat} {p : Nat → Nat × Nat} (hs : s < 2147483648) (hp : ∀ s, s < 2147483648 → (p s).1 < 2147483648) : (hldV V r n p s).1 < 2147483648 := by
  unfold hldV
  split
  · exact hs
  · split
    · exact hp _ (hp _ hs)
    · exact hp _ hs
theorem yr_ok {V : MV} {r : Nat} {C : ClubT} (h : COK C) : COK (yr V r C) := by
  have e : (yrX V r C).1 < 2147483648 := hld_lt (nxt_lt _) (fun s hs => pb_lt hs _)
  unfold yr
  split
  · refine ⟨?_, ?_, e⟩
    · show C.1 - 1 + 1 ≤ 8
      have := h.1
      omega
    · intro j
      show (if j = C.1 - 1 then tnt (nxt C.2.2.2) else C.2.1 (j + 1)) < 10
      split
      · exact tnt_lt _
      · exact h.2.1 _
  · exact ⟨by show C.1 - 1 ≤ 8; have := h.1; omega, fun j => h.2.1 _, e⟩
theorem yrs_ok {V : MV} {r : Nat} {C : ClubT} (h : COK C) : ∀ n, COK (yrs V r n C)
  | 0 => h
  | n + 1 => yr_ok (yrs_ok h n)
def CX (I : MI) (C : ClubT) : Prop := I 12 0 2 = nI C.1 ∧ I 12 0 3 = nI C.2.2.1 ∧ I 12 0 4 = nI C.2.2.2 ∧ ∀ j, j < C.1 → I 13 0 j = nI (C.2.1 j)
def CM (I : MI) (J : MJ) (n : Nat) (T : Nat → Nat) (s : Nat) : Prop := I 17 0 34 = nI n ∧ (∀ j, j < n → I 33 0 j = nI (T j)) ∧ J 17 0 28 = lN s
def orT (T : Nat → Nat) : Nat → Nat
  | 0 => 0
  | n + 1 => orT T n ||| 2 ^ T n
theorem or_ok : ∀ m, m < 1024 → ∀ t, t < 10 → nI m ||| (1 <<< (nI t &&& 31)) = nI (m ||| 2 ^ t) := by decide +kernel
theorem orT_lt {T : Nat → Nat} (h : ∀ j, T j < 10) : ∀ n, orT T n < 1024
  | 0 => Nat.succ_pos 1023
  | n + 1 => Nat.or_lt_two_pow (n := 10) (orT_lt h n) (Nat.pow_lt_pow_right (by decide) (h n))
section Years
variable {g : GS} {V : MV} {nC len : Nat} {I : MI} {J : MJ}
theorem sX_drawTaste {s : Nat} {Q : Int32 → MI → MJ → Prop} (h4 : I 12 0 4 = nI s) (h : ∀ I1, I1 = u3 I 12 0 (upd (I 12 0) 4 (nI (nxt s))) → Q (nI (tnt (nxt s))) I1 J) : wX1_drawTaste g I J Q := by
  unfold wX1_drawTaste wX0_nextSeed wX0_drawnTenth
  try dsimp only
  rw [u3_same, pk_us, h4, seedI, tntI (nxt_lt s)]
  exact h _ rfl
theorem sX_found {s : Nat} {Q : MI → MJ → Prop} (hS : St g V nC len I) (hs : s < 2147483648) (h : ∀ I1, St g V nC len I1 → CX I1 (8, (fnd 8 s).2, 0, (fnd 8 s).1) → Q I1 J) : wX1_found g (nI s) I J Q := by
  unfold wX1_found
  refine nm_e ⟨9, ?_⟩
  have key : ∀ d i I, i + d = 8 → St g V nC len I → I 12 0 2 = nI 8 → I 12 0 3 = nI 0 → I 12 0 4 = nI (fnd i s).1 → (∀ j, j < i → I 13 0 j = nI ((fnd i s).2 j)) → wX1_found_b18 g Q (d + 1) (nI i) I J := by
    intro d
    induction d with
    | zero =>
      intro i I hi hS e2 e3 e4 e5
      have : i = 8 := by omega
      subst this
      unfold wX1_found_b18
      exact br_t (nI_le (a := 8) (Nat.le_refl _) (by decide)) (h I hS ⟨e2, e3, e4, e5⟩)
    | succ d ih =>
      intro i I hi hS e2 e3 e4 e5
      unfold wX1_found_b18
      refine br_f (nI_ge (b := 8) (by omega) (by decide)) (sX_drawTaste e4 (fun I1 f1 => ⟨vp_in_nI (by omega) (by decide), ?_⟩))
      rw [nI_1, cl_nI (by omega)]
      subst f1
      refine ih (i + 1) _ (by omega) ((hS.x (by decide)).x (by decide)) ?_ ?_ ?_ ?_
      · rw [u3_ne _ _ (by decide), u3_same, pk_un (by decide)]; exact e2
      · rw [u3_ne _ _ (by decide), u3_same, pk_un (by decide)]; exact e3
      · rw [u3_ne _ _ (by decide), u3_same, pk_us]; rfl
      · intro j hj
        rw [u3_same, u3_ne _ _ (by decide)]
        show upd (I 13 0) i (nI (tnt (nxt (fnd i s).1))) j = nI (if j = i then tnt (nxt (fnd i s).1) else (fnd i s).2 j)
        by_cases e : j = i
        · rw [e, pk_us, if_pos rfl]
        · rw [pk_un e, if_neg e]
          exact e5 j (by omega)
  refine key 8 0 _ (by omega) (((hS.x (by decide)).x (by decide)).x (by decide)) ?_ ?_ ?_ (fun j hj => absurd hj (Nat.not_lt_zero j))
  · rw [u3_same, pk_us]; rfl
  · rw [u3_same, pk_un (by decide), u3_same, pk_us]; rfl
  · rw [u3_same, pk_un (by decide), u3_same, pk_un (by decide), u3_same, pk_us]; rfl
theorem sX_firstGoes {C : ClubT} {Q : MI → MJ → Prop} (hS : St g V nC len I) (hC : COK C) (h1 : CX I C) (h : ∀ I1, St g V nC len I1 → CX I1 (C.1 - 1, fun j => C.2.1 (j + 1), C.2.2.1, C.2.2.2) → Q I1 J) : wX1_firstGoes g I J Q := by
  obtain ⟨e2, e3, e4, e5⟩ := h1
  have h8 := hC.1
  unfold wX1_firstGoes
  rw [e2]
  by_cases e : C.1 = 0
  · rw [e]
    refine br_t (by decide) (h I hS ⟨by rw [e2, e], e3, e4, fun j hj => ?_⟩)
    exact absurd hj (by show ¬ j < C.1 - 1; omega)
  · refine br_f (nI_nle (by omega) (by omega)) ?_
    rw [show nI C.1 - 1 = nI (C.1 - 1) from pk_sub (b := 1) (by omega), u3_same, pk_us, cl_nI (by omega), show Int32.toNatClampNeg 1 = 1 from rfl, show Int32.toNatClampNeg 0 = 0 from rfl, u3_ne _ _ (show ¬ (13 = 12 ∧ 0 = 0) by decide)]
    refine ⟨⟨by decide, by decide, nI_pos (by omega), by omega, by omega⟩, h _ ((hS.x (by decide)).x (by decide)) ⟨?_, ?_, ?_, ?_⟩⟩
    · rw [u3_ne _ _ (by decide), u3_same, pk_us]
    · rw [u3_ne _ _ (by decide), u3_same, pk_un (by decide)]; exact e3
    · rw [u3_ne _ _ (by decide), u3_same, pk_un (by decide)]; exact e4
    · intro j hj
      have hj : j < C.1 - 1 := hj
      rw [u3_same, pk_cpy_in (by omega) (by omega), e5 _ (by omega), show 1 + (j - 0) = j + 1 by omega]
theorem sX_passYear {r : Nat} {C : ClubT} {Q : MI → MJ → Prop} (hS : St g V nC len I) (hr : r < g.2.2) (hC : COK C) (h1 : CX I C) (h : ∀ I1, St g V nC len I1 → CX I1 (yr V r C) → Q I1 J) : wX1_passYear g r I J Q := by
  have h8 := hC.1
  unfold wX1_passYear
  refine sX_firstGoes hS hC h1 (fun I1 hS1 c1 => sX_drawTaste c1.2.2.1 (fun I2 f2 => ?_))
  have hS2 : St g V nC len I2 := by rw [f2]; exact hS1.x (by decide)
  have c2 : CX I2 (C.1 - 1, fun j => C.2.1 (j + 1), C.2.2.1, nxt C.2.2.2) := by
    rw [f2]
    refine ⟨?_, ?_, ?_, fun j hj => ?_⟩
    · rw [u3_same, pk_un (by decide)]; exact c1.1
    · rw [u3_same, pk_un (by decide)]; exact c1.2.1
    · rw [u3_same, pk_us]
    · rw [u3_ne _ _ (by decide)]; exact c1.2.2.2 j hj
  unfold wX0_begin
  refine ⟨C.1 - 1 + 1, ?_⟩
  have key : ∀ d i I3, i + d = C.1 - 1 → (∀ a b, ¬ ((a = 10 ∨ a = 11) ∧ b = 1) → I3 a b = I2 a b) → I3 10 1 1 = nI i → (∀ j, j < i → I3 11 1 j = tdist (tnt (nxt C.2.2.2)) (fun j => C.2.1 (j + 1)) j) → wX1_passYear_b18 g Q (d + 1) r (nI (tnt (nxt C.2.2.2))) (nI i) I3 J := by
    intro d
    induction d with
    | zero =>
      intro i I3 hi f3 e1 e2
      have : i = C.1 - 1 := by omega
      subst this
      have hS3 := hS2.fr2 f3
      unfold wX1_passYear_b18
      rw [f3 12 0 (by omega), c2.1, c2.2.2.1]
      refine br_t (nI_le (Nat.le_refl _) (by show C.1 - 1 < 2 ^ 31; omega)) (sX_hold hS3 hr (by omega) (nxt_lt _) rfl e1 (fun I4 f4 d1 d2 d3 d4 => ?_))
      rw [show pb (I3 11 1) (C.1 - 1) = pb (tdist (tnt (nxt C.2.2.2)) (fun j => C.2.1 (j + 1))) (C.1 - 1) from funext (fun s => pb_c _ s e2)] at d2 d3 d4
      have hy : hldV V r (C.1 - 1) (pb (tdist (tnt (nxt C.2.2.2)) (fun j => C.2.1 (j + 1))) (C.1 - 1)) (nxt C.2.2.2) = yrX V r C := rfl
      rw [hy] at d2 d3 d4
      have hS4 := hS3.fr f4
      have t12 : I4 12 0 = I2 12 0 := by rw [f4 12 0 (by omega), f3 12 0 (by omega)]
      have t13 : I4 13 0 = I2 13 0 := by rw [f4 13 0 (by omega), f3 13 0 (by omega)]
      rw [u3_ne _ _ (show ¬ (10 = 12 ∧ 1 = 0) by decide), d4, d2]
      unfold yr at h
      by_cases hb : (yrX V r C).2.2 = true
      · rw [if_pos hb] at h
        rw [b2i_t hb]
        refine br_f (by decide) ?_
        rw [u3_same, pk_un (by decide), t12, c2.1]
        refine br_f (nI_ge (b := 8) (by show C.1 - 1 < 8; omega) (by decide)) ⟨vp_in_nI (by show C.1 - 1 < 8; omega) (by decide), nm_e (nm_e (h _ ((((hS4.x (by decide)).x (by decide)).x (by decide)).x (by decide)) ⟨?_, ?_, ?_, ?_⟩))⟩
        · rw [u3_same, pk_un (by decide), u3_same, pk_us, u3_ne _ _ (by decide), u3_same, pk_un (by decide), c2.1, nI_1]
        · rw [u3_same, pk_us, u3_same, pk_un (by decide), u3_ne _ _ (by decide), u3_same, pk_un (by decide), c2.2.1, nI_1]
        · rw [u3_same, pk_un (by decide), u3_same, pk_un (by decide), u3_ne _ _ (by decide), u3_same, pk_us]
        · intro j hj
          have hj : j < C.1 - 1 + 1 := hj
          rw [u3_ne _ _ (by decide), u3_ne _ _ (by decide), u3_same, u3_ne _ _ (by decide), t13, cl_nI (by show C.1 - 1 < 2 ^ 31; omega)]
          show upd (I2 13 0) (C.1 - 1) (nI (tnt (nxt C.2.2.2))) j = nI (if j = C.1 - 1 then tnt (nxt C.2.2.2) else C.2.1 (j + 1))
          by_cases e : j = C.1 - 1
          · rw [e, pk_us, if_pos rfl]
          · rw [pk_un e, if_neg e]
            exact c2.2.2.2 j (by show j < C.1 - 1; omega)
      · rw [if_neg hb] at h
        rw [b2i_f hb]
        refine br_t rfl (h _ (hS4.x (by decide)) ⟨?_, ?_, ?_, ?_⟩)
        · rw [u3_same, pk_un (by decide), t12]; exact c2.1
        · rw [u3_same, pk_un (by decide), t12]; exact c2.2.1
        · rw [u3_same, pk_us]
        · intro j hj
          rw [u3_ne _ _ (by decide), t13]; exact c2.2.2.2 j hj
    | succ d ih =>
      intro i I3 hi f3 e1 e2
      unfold wX1_passYear_b18
      rw [f3 12 0 (by omega), c2.1, f3 13 0 (by omega), cl_nI (by omega), c2.2.2.2 i (by show i < C.1 - 1; omega)]
      refine br_f (nI_ge (by show i < C.1 - 1; omega) (by show C.1 - 1 < 2 ^ 31; omega)) ⟨vp_in_nI (by omega) (by decide), ?_⟩
      rw [dstX _ (tnt_lt _) _ (hC.2.1 _), nI_1]
      refine sX_seat (by omega) e1 (fun I4 f4 d1 d2 => ih (i + 1) I4 (by omega) (fun a b hab => (f4 a b hab).trans (f3 a b hab)) d1 (fun j hj => ?_))
      rw [d2]
      by_cases e : j = i
      · rw [e, pk_us]; rfl
      · rw [pk_un e]; exact e2 j (by omega)
  refine key (C.1 - 1) 0 _ (by omega) (fun a b hab => u3_ne _ _ (by omega)) ?_ (fun j hj => absurd hj (Nat.not_lt_zero j))
  rw [u3_same, pk_us]; rfl
theorem sX_unlike {C : ClubT} {Q : Int32 → MI → MJ → Prop} (hC : COK C) (h1 : CX I C) (h : Q (nI (pc (orT C.2.1 C.1))) I J) : wX1_unlikeTastes g I J Q := by
  have h8 := hC.1
  have key : ∀ d i, i + d = C.1 → wX1_unlikeTastes_b4 g Q (d + 1) (nI (orT C.2.1 i)) (nI i) I J := by
    intro d
    induction d with
    | zero =>
      intro i hi
      have : i = C.1 := by omega
      subst this
      unfold wX1_unlikeTastes_b4
      rw [h1.1]
      exact br_t (nI_le (Nat.le_refl _) (by omega)) (s_bcp (orT_lt hC.2.1 _) h)
    | succ d ih =>
      intro i hi
      unfold wX1_unlikeTastes_b4
      rw [h1.1, cl_nI (by omega), h1.2.2.2 i (by omega), or_ok _ (orT_lt hC.2.1 i) _ (hC.2.1 i), nI_1]
      exact br_f (nI_ge (by omega) (by omega)) ⟨vp_in_nI (by omega) (by decide), ih (i + 1) (by omega)⟩
  exact ⟨C.1 + 1, key C.1 0 (by omega)⟩
theorem sM_unlike {n s : Nat} {T : Nat → Nat} {Q : Int32 → MI → MJ → Prop} (hn : n ≤ 8) (hT : ∀ j, T j < 10) (h1 : CM I J n T s) (h : Q (nI (pc (orT T n))) I J) : wX12_unlike g I J Q := by
  have key : ∀ d i, i + d = n → wX12_unlike_b4 g Q (d + 1) (nI (orT T i)) (nI i) I J := by
    intro d
    induction d with
    | zero =>
      intro i hi
      have : i = n := by omega
      subst this
      unfold wX12_unlike_b4
      rw [h1.1]
      exact br_t (nI_le (Nat.le_refl _) (by omega)) (s_onesp (orT_lt hT _) h)
    | succ d ih =>
      intro i hi
      unfold wX12_unlike_b4
      rw [h1.1, cl_nI (by omega), h1.2.1 i (by omega), or_ok _ (orT_lt hT i) _ (hT i), nI_1]
      exact br_f (nI_ge (by omega) (by omega)) ⟨vp_in_nI (by omega) (by decide), ih (i + 1) (by omega)⟩
  exact ⟨n + 1, key n 0 (by omega)⟩
theorem sM_clubRound {n s t : Nat} {T : Nat → Nat} {Q : Int32 → MI → MJ → Prop} (hn : n ≤ 8) (hT : ∀ j, T j < 10) (ht : t < 10) (hs : s < 2147483648) (h1 : CM I J n T s) (h : ∀ J1, J1 17 0 28 = lN (pb (tdist t T) n s).1 → Q (nI (pb (tdist t T) n s).2) I J1) : wX12_clubRound g (nI t) I J Q := by
  have key : ∀ d i J, i + d = n → J 17 0 28 = lN (pb (tdist t T) i s).1 → wX12_clubRound_b4 g Q (d + 1) (nI t) (nI (pb (tdist t T) i s).2) (nI i) I J := by
    intro d
    induction d with
    | zero =>
      intro i J hi hJ
      have : i = n := by omega
      subst this
      unfold wX12_clubRound_b4
      rw [h1.1]
      exact br_t (nI_le (Nat.le_refl _) (by omega)) (h J hJ)
    | succ d ih =>
      intro i J hi hJ
      unfold wX12_clubRound_b4
      rw [h1.1, cl_nI (by omega), h1.2.1 i (by omega)]
      refine br_f (nI_ge (by omega) (by omega)) ⟨vp_in_nI (by omega) (by decide), ?_⟩
      have go : ∀ t0 : Int32, 2 * t0 = nI (2 * dst t (T i)) → wX12_clubRound_b41 g (fun v1 v2 v3 I J => wX12_clubRound_b4 g Q (d + 1) v1 v2 v3 I J) Q (nI t) (nI (pb (tdist t T) i s).2) (nI i) t0 I J := by
        intro t0 h0
        unfold wX12_clubRound_b41 wX12_clubRound_b62
        rw [h0]
        refine sM_draw (pb_lt hs i) hJ (fun J1 hJ1 => ?_)
        rw [nI_1]
        have ih2 := ih (i + 1) J1 (by omega) hJ1
        rw [pb_s] at ih2
        unfold pbS at ih2
        by_cases hx : nI (2 * dst t (T i)) ≤ nI (tnt (nxt (pb (tdist t T) i s).1))
        · rw [if_pos (show tdist t T i ≤ _ from hx)] at ih2
          refine br_t hx ?_
          rw [Int32.add_zero]
          exact ih2
        · rw [if_neg (show ¬ tdist t T i ≤ _ from hx)] at ih2
          refine br_f hx ?_
          rw [nI_1]
          exact ih2
      by_cases hx : nI t ≤ nI (T i)
      · exact br_t hx ⟨vp_in_nI (by omega) (by decide), go _ (dstM1 t ht _ (hT i) hx)⟩
      · exact br_f hx ⟨vp_in_nI (by omega) (by decide), go _ (dstM2 t ht _ (hT i) hx)⟩
  exact ⟨n + 1, key n 0 J (by omega) h1.2.2⟩
theorem sM_isLetIn {r n s t : Nat} {T : Nat → Nat} {Q : Int32 → MI → MJ → Prop} (hV : VOK g V nC len) (hS : St g V nC len I) (hr : r < g.2.2) (hn : n ≤ 8) (hT : ∀ j, T j < 10) (ht : t < 10) (hs : s < 2147483648) (h1 : CM I J n T s) (h : ∀ J1, J1 17 0 28 = lN (hldV V r n (pb (tdist t T) n) s).1 → Q (b2i ((hldV V r n (pb (tdist t T) n) s).2.2 = true)) I J1) : wX12_isLetIn g (nI r) (nI t) I J Q := by
  have hr6 := vok_r hV
  have i1 : vp_in (nI r) 6 := vp_in_nI (by omega) (by decide)
  unfold wX12_isLetIn
  unfold hldV at h
  rw [h1.1, cl_nI (by omega), mv_at hS.1 r (k := 25) (by decide)]
  by_cases h0 : n = 0
  · rw [if_pos (Or.inl h0)] at h
    exact br_t (show nI n = 0 by rw [h0]; rfl) (h J h1.2.2)
  · refine br_f (nI_ne0 (by omega) (by omega)) ⟨i1, ?_⟩
    by_cases hq : nI n < V 25 r
    · rw [if_pos (Or.inr hq)] at h
      exact br_f (show ¬ V 25 r ≤ nI n by rw [ti_lt] at hq; rw [ti_le]; omega) (h J h1.2.2)
    · rw [if_neg (by simp [h0, hq])] at h
      refine br_t (show V 25 r ≤ nI n by rw [ti_lt] at hq; rw [ti_le]; omega) (sM_clubRound hn hT ht hs h1 (fun J1 hJ1 => ?_))
      rw [h1.1]
      refine sM_shuts hV hS hr ?_
      unfold wX12_isLetIn_b44
      rw [cl_nI (by omega), mv_at hS.1 r (k := 26) (by decide)]
      by_cases hb : shB V r (pb (tdist t T) n s).2 n = true
      · rw [b2i_t hb]
        refine br_t' (by decide) (br_f' rfl ⟨i1, ?_⟩)
        by_cases h26 : V 26 r = 0
        · rw [if_neg (by simp [h26])] at h
          have h := h J1 hJ1
          rw [hb] at h
          exact br_t h26 h
        · rw [if_pos ⟨h26, hb⟩] at h
          refine br_f h26 (sM_clubRound hn hT ht (pb_lt hs n) ⟨h1.1, h1.2.1, hJ1⟩ (fun J2 hJ2 => ?_))
          rw [h1.1]
          refine sM_shuts hV hS hr ?_
          have h := h J2 hJ2
          by_cases hb2 : shB V r (pb (tdist t T) n (pb (tdist t T) n s).1).2 n = true
          · rw [hb2] at h
            rw [b2i_t hb2]
            exact br_t' (by decide) h
          · rw [eq_false_of_ne_true hb2] at h
            rw [b2i_f hb2]
            exact br_f' rfl h
      · rw [if_neg (by simp [hb])] at h
        have h := h J1 hJ1
        rw [eq_false_of_ne_true hb] at h
        rw [b2i_f hb]
        exact br_f' rfl (br_t' (by decide) h)
end Years
