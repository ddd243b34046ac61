section IsRule
variable {g : GS} {V : MV} {nC len : Nat} {I : MI} {J : MJ}
theorem num_last {L : Nat → Int32} {q ra : Nat} {bl : Int32} (h : NUM L q bl ra) : 0 < q ∧ ¬ (L (q - 1) = 99 ∨ L (q - 1) = 121) := by
  have dg : ∀ a, a ≤ 9 → ¬ (nI (48 + a) = 99 ∨ nI (48 + a) = 121) := by
    intro a ha
    rintro (k | k)
    · exact absurd ((nI_eq (b := 99) (by omega) (by decide)).mp k) (by omega)
    · exact absurd ((nI_eq (b := 121) (by omega) (by decide)).mp k) (by omega)
  rcases h with ⟨rfl, c1, c2, a, c3, c4, c5, c6⟩ | ⟨rfl, c1, c2, c3, c4, c5⟩ | ⟨rfl, c1, c2, a, b, c3, c4, c5, c6, c7, c8, c9⟩
  · exact ⟨by decide, by rw [show 2 - 1 = 1 from rfl, c5]; exact dg a (by omega)⟩
  · exact ⟨by decide, by rw [show 2 - 1 = 1 from rfl, c5]; exact dg ra (by omega)⟩
  · exact ⟨by decide, by rw [show 3 - 1 = 2 from rfl, c4]; exact dg b (by omega)⟩
theorem last_8 {L : Nat → Int32} {f : Int32 × Int32 × Int32 × Int32} {i m ra : Nat} (h : PI L f i m ra) (h0 : 0 < i) (hl : L (i - 1) = 99 ∨ L (i - 1) = 121) : m = 8 := by
  have dg : ∀ a, a ≤ 9 → ¬ (nI (48 + a) = 99 ∨ nI (48 + a) = 121) := by
    intro a ha
    rintro (k | k)
    · exact absurd ((nI_eq (b := 99) (by omega) (by decide)).mp k) (by omega)
    · exact absurd ((nI_eq (b := 121) (by omega) (by decide)).mp k) (by omega)
  rcases h with ⟨rfl, b1, b2, b3⟩ | ⟨rfl, b1, b2, b3⟩ | ⟨rfl, b1, b2, b3⟩ | ⟨rfl, b1, b2, b3, b4, b5, b6⟩ | ⟨rfl, b1⟩ | ⟨rfl, q, b1, b2, b3⟩ | ⟨rfl, q, d, b1, b2, b3, b4, b5, b6⟩ | ⟨rfl, q, d, b1, b2, b3, b4, b5, b6, b7, b8⟩ | ⟨rfl, q, d, b⟩
  · omega
  · rw [b1, show 1 - 1 = 0 from rfl, b2] at hl; exact absurd hl (by decide)
  · rw [b1, show 1 - 1 = 0 from rfl, b2] at hl; exact absurd hl (by decide)
  · rw [b1, show 2 - 1 = 1 from rfl, b6] at hl; exact absurd hl (dg ra (by omega))
  · exact absurd hl (num_last b1).2
  · rw [b1, show q + 1 - 1 = q from rfl, b3] at hl; exact absurd hl (by decide)
  · rw [b1, show q + 2 - 1 = q + 1 from rfl, b5] at hl; exact absurd hl (dg d (by omega))
  · rw [b1, show q + 3 - 1 = q + 2 from rfl, b7] at hl; exact absurd hl (by decide)
  · rfl
theorem lst_8 {L : Nat → Int32} {f : Int32 × Int32 × Int32 × Int32} {i ra : Nat} (h : PI L f i 8 ra) : 0 < i ∧ (L (i - 1) = 99 ∨ L (i - 1) = 121) := by
  rcases h with h | h | h | h | h | h | h | h | h
  all_goals try exact absurd h.1 (by decide)
  obtain ⟨-, q, d, -, -, -, -, -, b7, -⟩ := h
  rcases b7 with ⟨rfl, -, y⟩ | ⟨rfl, -, -, y⟩
  · exact ⟨by omega, y⟩
  · exact ⟨by omega, y⟩
theorem sX_isRule {Q : Int32 → MI → MJ → Prop} (hV : VOK g V nC len) (hS : St g V nC len I) (h1 : ∀ c ra, ruN (V 28) len = some (c, 8, ra) → Q 1 I J) (h0 : (∀ c ra, ¬ ruN (V 28) len = some (c, 8, ra)) → Q 0 I J) : wX4_isRule g I J Q := by
  have hl : len ≤ 20 := hV.1.2.2.2.1
  have hL := hV.2.2.2.2.2.1
  have e1 : I 1 0 1 = nI len := hS.2.1.2.2.2.2
  unfold wX4_isRule
  rw [e1]
  by_cases z : len = 0
  · refine br_t (by rw [z]; decide) (h0 (fun c ra hr => ?_))
    have := (lst_8 (pi_ok (q0 := 0) (t0 := 0) (o0 := 0) hL len c 8 ra (Nat.le_refl _) hr)).1
    omega
  · refine br_f (nI_nle (by omega) (by omega)) ?_
    rw [show nI len - 1 = nI (len - 1) from pk_sub (b := 1) (by omega), cl_nI (by omega), hS.2.2.2.2.2 (len - 1) (by omega)]
    refine ⟨vp_in_nI (by omega) (by decide), ?_⟩
    have yes : (V 28 (len - 1) = 99 ∨ V 28 (len - 1) = 121) → wX4_firstFault g I J (fun r25 I25 J25 => ((¬ r25 = (I25 1 0 1) → Q 0 I25 J25) ∧ (r25 = (I25 1 0 1) → Q 1 I25 J25))) := by
      intro hy
      refine sX_first hV hS (fun i c m ra hi hr he => ?_)
      try dsimp only
      rw [e1]
      by_cases ei : i = len
      · subst ei
        have := last_8 (pi_ok (q0 := 0) (t0 := 0) (o0 := 0) hL i c m ra hi hr) (by omega) hy
        subst this
        exact br_f' rfl (h1 c ra hr)
      · refine br_t' (fun k => ei ((nI_eq (by omega) (by omega)).mp k)) (h0 (fun c' ra' hr' => ?_))
        have := ruN_none (he.resolve_left ei) len (by omega)
        rw [this] at hr'
        cases hr'
    unfold wX4_isCount
    by_cases a : V 28 (len - 1) = 99
    · exact br_t a (br_f (by decide) (yes (Or.inl a)))
    · refine br_f a ?_
      by_cases b : V 28 (len - 1) = 121
      · exact br_f' b (br_f (by decide) (yes (Or.inr b)))
      · refine br_t' b (br_t rfl (h0 (fun c ra hr => ?_)))
        exact (lst_8 (pi_ok (q0 := 0) (t0 := 0) (o0 := 0) hL len c 8 ra (Nat.le_refl _) hr)).2.elim a b
end IsRule
