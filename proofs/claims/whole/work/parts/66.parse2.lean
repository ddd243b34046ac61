def NUM (L : Nat → Int32) (q : Nat) (bl : Int32) (ra : Nat) : Prop :=
  (q = 2 ∧ L 0 = nI 98 ∧ ra = 0 ∧ ∃ a, 1 ≤ a ∧ a ≤ 8 ∧ L 1 = nI (48 + a) ∧ bl = nI a) ∨
  (q = 2 ∧ L 0 = nI 114 ∧ bl = 0 ∧ 2 ≤ ra ∧ ra ≤ 9 ∧ L 1 = nI (48 + ra)) ∨
  (q = 3 ∧ L 0 = nI 114 ∧ bl = 0 ∧ ∃ a b, L 1 = nI (48 + a) ∧ L 2 = nI (48 + b) ∧ a ≤ 2 ∧ b ≤ 9 ∧ ra = 10 * a + b ∧ 10 ≤ ra ∧ ra ≤ 20)
def PI (L : Nat → Int32) (f : Int32 × Int32 × Int32 × Int32) (i m ra : Nat) : Prop :=
  (m = 0 ∧ i = 0 ∧ ra = 0 ∧ f.1 = 0) ∨ (m = 1 ∧ i = 1 ∧ L 0 = nI 98 ∧ ra = 0) ∨ (m = 2 ∧ i = 1 ∧ L 0 = nI 114 ∧ f.1 = 0) ∨
  (m = 3 ∧ i = 2 ∧ L 0 = nI 114 ∧ f.1 = 0 ∧ 1 ≤ ra ∧ ra ≤ 9 ∧ L 1 = nI (48 + ra)) ∨ (m = 4 ∧ NUM L i f.1 ra) ∨
  (m = 5 ∧ ∃ q, i = q + 1 ∧ NUM L q f.1 ra ∧ L q = nI 113) ∨
  (m = 6 ∧ ∃ q d, i = q + 2 ∧ NUM L q f.1 ra ∧ L q = nI 113 ∧ d ≤ 8 ∧ L (q + 1) = nI (48 + d) ∧ f.2.1 = nI d) ∨
  (m = 7 ∧ ∃ q d, i = q + 3 ∧ NUM L q f.1 ra ∧ L q = nI 113 ∧ d ≤ 8 ∧ L (q + 1) = nI (48 + d) ∧ f.2.1 = nI d ∧ L (q + 2) = nI 116 ∧ f.2.2.1 = 1) ∨
  (m = 8 ∧ ∃ q d, NUM L q f.1 ra ∧ L q = nI 113 ∧ d ≤ 8 ∧ L (q + 1) = nI (48 + d) ∧ f.2.1 = nI d ∧ ((i = q + 3 ∧ f.2.2.1 = 0 ∧ (L (q + 2) = nI 99 ∨ L (q + 2) = nI 121)) ∨ (i = q + 4 ∧ L (q + 2) = nI 116 ∧ f.2.2.1 = 1 ∧ (L (q + 3) = nI 99 ∨ L (q + 3) = nI 121))) ∧ f.2.2.2 = b2i (L (i - 1) = 99))
theorem fR_id {m ra : Nat} {x : Int32} (h2 : ¬ nI m = 2) (h3 : ¬ nI m = 3) (hr : ra < 21) : tn (fR (nI m) (nI ra) x) = ra := by
  unfold fR
  rw [if_neg h2, if_neg h3]
  exact cl_nI (by omega)
theorem pi_ok {L : Nat → Int32} {len : Nat} {q0 t0 o0 : Int32} (hL : ∀ i, i < len → ∃ z, 1 ≤ z ∧ z ≤ 126 ∧ L i = nI z) : ∀ i c m ra, i ≤ len → ruN L i = some (c, m, ra) → PI L (fld L q0 t0 o0 i) i m ra
  | 0, c, m, ra, _, h => by
    cases h
    exact Or.inl ⟨rfl, rfl, rfl, rfl⟩
  | i + 1, c, m, ra, hi, h => by
    cases e : ruN L i with
    | none => rw [ruN, e] at h; cases h
    | some p =>
      obtain ⟨c1, m1, r1⟩ := p
      have ih := pi_ok (q0 := q0) (t0 := t0) (o0 := o0) hL i c1 m1 r1 (by omega) e
      obtain ⟨k1, k2, k3, k4⟩ := ruN_ok hL i c1 m1 r1 (by omega) e
      obtain ⟨z, z1, z2, ez⟩ := hL i (by omega)
      rw [ruN_s e] at h
      rcases sim_ok c1 k1 m1 k2 r1 k3 k4 z (by omega) with ⟨a, -⟩ | ⟨a1, a2, a3, a4, a5, a6, a7⟩
      · rw [ez, if_pos a] at h; cases h
      · rw [ez, if_neg (by rw [a1]; exact nI_nm1 (by omega))] at h
        have hm : m = tn (dM (nI m1) (nI r1) (nI z)) := by cases h; rfl
        have hr : ra = tn (fR (nI m1) (nI r1) (nI z)) := by cases h; rfl
        have nm : ¬ dM (nI m1) (nI r1) (nI z) = -1 := by rw [a2]; exact nI_nm1 (by omega)
        have hz : z < 127 := by omega
        unfold PI
        rw [fld, e]
        simp only
        rcases ih with ⟨rfl, b1, b2, b3⟩ | ⟨rfl, b1, b2, b3⟩ | ⟨rfl, b1, b2, b3⟩ | ⟨rfl, b1, b2, b3, b4, b5, b6⟩ | ⟨rfl, b1⟩ | ⟨rfl, q, b1, b2, b3⟩ | ⟨rfl, q, d, b1, b2, b3, b4, b5, b6⟩ | ⟨rfl, q, d, b1, b2, b3, b4, b5, b6, b7, b8⟩ | ⟨rfl, q, d, b⟩
        · subst b1 b2
          rw [fR_id (by decide) (by decide) (by omega)] at hr
          rcases (of_decide_eq_true (st0_ok z hz)).resolve_left nm with ⟨y1, y2⟩ | ⟨y1, y2⟩
          · exact Or.inr (Or.inl ⟨hm.trans y2, rfl, by rw [ez, y1], hr⟩)
          · exact Or.inr (Or.inr (Or.inl ⟨hm.trans y2, rfl, by rw [ez, y1], by rw [if_neg (by decide)]; exact b3⟩))
        · subst b1
          rw [fR_id (by decide) (by decide) (by omega)] at hr
          obtain ⟨y1, y2, y3⟩ := (of_decide_eq_true (st1_ok r1 k3 z hz)).resolve_left nm
          refine Or.inr (Or.inr (Or.inr (Or.inr (Or.inl ⟨hm.trans y3, Or.inl ⟨rfl, b2, by omega, z - 48, by omega, by omega, by rw [ez, show 48 + (z - 48) = z by omega], ?_⟩⟩))))
          rw [if_pos (by decide), ez]
          exact pk_sub (b := 48) (by omega)
        · subst b1
          obtain ⟨y1, y2, y3, y4⟩ := (of_decide_eq_true (st2_ok r1 k3 z hz)).resolve_left nm
          have y4 : ra = z - 48 := hr.trans y4
          exact Or.inr (Or.inr (Or.inr (Or.inl ⟨hm.trans y3, rfl, b2, by rw [if_neg (by decide)]; exact b3, by omega, by omega, by rw [ez, y4, show 48 + (z - 48) = z by omega]⟩)))
        · subst b1
          have s3 := of_decide_eq_true (st3_ok r1 k3 z hz)
          rcases ((s3.resolve_left (by omega)).resolve_left (by omega)).resolve_left nm with ⟨y1, y2, y3⟩ | ⟨y1, y2, y3, y4⟩
          · have y3 : ra = 10 * r1 + (z - 48) := hr.trans y3
            exact Or.inr (Or.inr (Or.inr (Or.inr (Or.inl ⟨hm.trans y1, Or.inr (Or.inr ⟨rfl, b2, by rw [if_neg (by decide)]; exact b3, r1, z - 48, b6, by rw [ez, show 48 + (z - 48) = z by omega], by omega, by omega, y3, by omega, by omega⟩)⟩))))
          · have y4 : ra = r1 := hr.trans y4
            exact Or.inr (Or.inr (Or.inr (Or.inr (Or.inr (Or.inl ⟨hm.trans y1, 2, rfl, Or.inr (Or.inl ⟨rfl, b2, by rw [if_neg (by decide)]; exact b3, by omega, by omega, by rw [y4]; exact b6⟩), by rw [ez, y2]⟩)))))
        · rw [fR_id (by decide) (by decide) (by omega)] at hr
          obtain ⟨y1, y2⟩ := (of_decide_eq_true (st4_ok r1 k3 z hz)).resolve_left nm
          exact Or.inr (Or.inr (Or.inr (Or.inr (Or.inr (Or.inl ⟨hm.trans y2, i, rfl, by rw [if_neg (by decide), hr]; exact b1, by rw [ez, y1]⟩)))))
        · rw [fR_id (by decide) (by decide) (by omega)] at hr
          obtain ⟨y1, y2, y3⟩ := (of_decide_eq_true (st5_ok r1 k3 z hz)).resolve_left nm
          refine Or.inr (Or.inr (Or.inr (Or.inr (Or.inr (Or.inr (Or.inl ⟨hm.trans y3, q, z - 48, by omega, by rw [if_neg (by decide), hr]; exact b2, b3, by omega, by rw [← b1, ez, show 48 + (z - 48) = z by omega], ?_⟩))))))
          rw [if_pos (by decide), ez]
          exact pk_sub (b := 48) (by omega)
        · rw [fR_id (by decide) (by decide) (by omega)] at hr
          rcases (of_decide_eq_true (st6_ok r1 k3 z hz)).resolve_left nm with ⟨y1, y2⟩ | ⟨y1, y2⟩
          · refine Or.inr (Or.inr (Or.inr (Or.inr (Or.inr (Or.inr (Or.inr (Or.inl ⟨hm.trans y2, q, d, by omega, by rw [if_neg (by decide), hr]; exact b2, b3, b4, b5, by rw [if_neg (by decide)]; exact b6, by rw [← b1, ez, y1], ?_⟩)))))))
            rw [if_pos (by decide), ez, y1]
            rfl
          · refine Or.inr (Or.inr (Or.inr (Or.inr (Or.inr (Or.inr (Or.inr (Or.inr ⟨hm.trans y2, q, d, by rw [if_neg (by decide), hr]; exact b2, b3, b4, b5, by rw [if_neg (by decide)]; exact b6, Or.inl ⟨by omega, ?_, ?_⟩, ?_⟩)))))))
            · rw [if_pos (by decide), ez]
              rcases y1 with rfl | rfl <;> rfl
            · rw [← b1, ez]
              rcases y1 with rfl | rfl
              · exact Or.inl rfl
              · exact Or.inr rfl
            · rw [if_pos (by decide)]; rfl
        · rw [fR_id (by decide) (by decide) (by omega)] at hr
          obtain ⟨y1, y2⟩ := (of_decide_eq_true (st7_ok r1 k3 z hz)).resolve_left nm
          refine Or.inr (Or.inr (Or.inr (Or.inr (Or.inr (Or.inr (Or.inr (Or.inr ⟨hm.trans y2, q, d, by rw [if_neg (by decide), hr]; exact b2, b3, b4, b5, by rw [if_neg (by decide)]; exact b6, Or.inr ⟨by omega, b7, by rw [if_neg (by decide)]; exact b8, ?_⟩, ?_⟩)))))))
          · rw [← b1, ez]
            rcases y1 with rfl | rfl
            · exact Or.inl rfl
            · exact Or.inr rfl
          · rw [if_pos (by decide)]; rfl
        · exact absurd (of_decide_eq_true (st8_ok r1 k3 z hz)) nm
