/-! calls that change what lasts -/
def vset (V : MV) (k j : Nat) (v : Int32) : MV := fun a b => if a = k ∧ b = j then v else V a b
theorem vset_ne {V : MV} {k j a b : Nat} {v : Int32} (h : ¬ (a = k ∧ b = j)) : vset V k j v a b = V a b := by simp [vset, h]
theorem vset_same {V : MV} {k j : Nat} {v : Int32} : vset V k j v k j = v := by simp [vset]
theorem mview_set {I : MI} {k j : Nat} {v : Int32} (hk : (18 ≤ k ∧ k < 33) ∨ (k = 17 ∧ j < 20)) : mview (u3 I k 0 (upd (I k 0) j v)) = vset (mview I) k j v := by
  funext a b
  by_cases ha : a = k
  · subst ha
    by_cases hb : b = j
    · subst hb
      rw [vset_same]
      unfold mview
      rw [if_pos hk, u3_same, pk_us]
    · rw [vset_ne (fun h => hb h.2)]
      unfold mview
      rw [u3_same, pk_un hb]
  · rw [vset_ne (fun h => ha h.1)]
    unfold mview
    rw [u3_ne I _ (by omega)]
theorem mview_x {I : MI} {k p : Nat} {f : Nat → Int32} (hk : k < 17 ∨ 33 ≤ k) : mview (u3 I k p f) = mview I := mview_of (fun a j ha => by rw [u3_ne I f (by omega)])
section Mut
variable {g : GS} {V : MV} {nC len : Nat} {I : MI} {J : MJ}
theorem p_op1 : op1 Inv := by
  rintro g I J ⟨V, nC, len, hV, hS⟩
  unfold wX11_blank wX4_wipe wX12_blank
  have e13 := m13 hV hS
  have e1 : I 1 0 1 = nI len := hS.2.1.2.2.2.2
  obtain ⟨I1, hI1⟩ : ∃ z, z = u3 I 1 0 (upd (I 1 0) 1 0) := ⟨_, rfl⟩
  rw [← hI1]
  have em : mview I1 = V := by rw [hI1, mview_x (by decide)]; exact hS.1
  refine ⟨by rw [e1, mv_17 em (by decide)]; exact hV.2.1.2.2.2.symm, vset V 17 13 0, nC, 0, ?_, ?_, ?_⟩
  · obtain ⟨b, c, d⟩ := hV
    exact ⟨⟨b.1, b.2.1, b.2.2.1, by omega, b.2.2.2.2⟩, ⟨c.1, c.2.1, c.2.2.1, rfl⟩, d.1, d.2.1, d.2.2.1, fun i h => absurd h (Nat.not_lt_zero i), d.2.2.2.2.1, d.2.2.2.2.2⟩
  · rw [mview_set (Or.inr ⟨rfl, by decide⟩), em]
  · have hR := hS.2
    have f : ∀ k p, ¬ k = 1 → ¬ k = 17 → u3 I1 17 0 (upd (I1 17 0) 13 0) k p = I k p := fun k p h1 h2 => by
      rw [u3_ne I1 _ (by omega), hI1, u3_ne I _ (by omega)]
    have f1 : u3 I1 17 0 (upd (I1 17 0) 13 0) 1 0 1 = 0 := by
      rw [u3_ne I1 _ (by omega), hI1, u3_same]; rfl
    refine ⟨?_, fun r hr => ?_, fun p hp => ?_, fun c hc => ?_, fun i h => absurd h (Nat.not_lt_zero i)⟩
    · rw [f 0 0 (by decide) (by decide)]
      exact ⟨hR.1.1, hR.1.2.1, hR.1.2.2.1, hR.1.2.2.2.1, f1⟩
    · rw [f 43 r (by decide) (by decide)]; exact hR.2.1 r hr
    · have h := hR.2.2.1 p hp
      unfold persX at h ⊢
      rw [f 40 p (by decide) (by decide), f 41 p (by decide) (by decide), f 42 p (by decide) (by decide)]; exact h
    · rw [f 5 0 (by decide) (by decide)]; exact hR.2.2.2.1 c hc
theorem ten_of {a : Int32} (h : 0 ≤ a ∧ a ≤ 10) : ∃ z, z ≤ 10 ∧ a = nI z := by
  have h0 : (0 : Int32).toInt = 0 := by decide
  have h4 : (10 : Int32).toInt = 10 := by decide
  rw [ti_le, ti_le, h0, h4] at h
  exact ⟨a.toInt.toNat, by omega, nI_of_toInt (by omega)⟩
theorem p_op8 : op8 Inv := by
  rintro g I J a1 a2 ⟨V, nC, len, hV, hS⟩
  have hp8 := vok_p hV
  have hi := hS.inv (J := J) hV
  unfold wX11_comes
  rw [eX_personAt (x10 hS) hp8]
  cases h : ixOf a1 g.2.1 with
  | none =>
    refine ⟨fun _ => ?_, fun r hr => by cases hr⟩
    try dsimp only
    unfold wX12_comes
    rw [eM_isMember (m0 hV hS) (by omega), h, bs_none]
    exact br_f' rfl ⟨rfl, hi⟩
  | some p =>
    obtain ⟨hp, rfl⟩ := ixOf_some h
    have i3 : vp_in (nI p) 8 := vp_in_nI (by omega) (by decide)
    refine ⟨fun k => (by cases k), fun r' hr' => ?_⟩
    cases hr'
    rw [eX_within]
    by_cases hw : (0 : Int32) ≤ a2 ∧ a2 ≤ 10
    · rw [b2i_t hw]
      refine br_t' (by decide) ?_
      dsimp only
      obtain ⟨I1, hI1⟩ : ∃ z, z = u3 I 40 p (upd (I 40 p) 3 a2) := ⟨_, rfl⟩
      rw [← hI1]
      have em : mview I1 = V := by rw [hI1, mview_x (by decide)]; exact hS.1
      unfold wX12_comes
      rw [eM_isMember (n := g.2.1) (by rw [mv_17 em (by decide)]; exact hV.2.1.2.1) (by omega), h, bs_some]
      refine br_t' (by decide) ?_
      rw [eM_within, b2i_t hw]
      refine br_t' (by decide) ⟨i3, i3, ?_⟩
      rw [cl_nI (by omega)]
      refine ⟨by rw [(hS.2.2.2.1 p hp).2.1, mv_at em p (by decide)], vset V 20 p a2, nC, len, ?_, ?_, ?_⟩
      · obtain ⟨z, hz, rfl⟩ := ten_of hw
        obtain ⟨b, c, d⟩ := hV
        refine ⟨b, c, d.1, fun q hq => ?_, d.2.2.1, d.2.2.2.1, d.2.2.2.2.1, d.2.2.2.2.2⟩
        obtain ⟨kd, n, cm, h1, h2, h3, h4, h5, h6, h7, h8, h9⟩ := d.2.1 q hq
        by_cases e : q = p
        · subst e
          exact ⟨kd, n, z, h1, h2, hz, h4, h5, vset_same, h7, h8, h9⟩
        · exact ⟨kd, n, cm, h1, h2, h3, h4, h5, by rw [vset_ne (by omega)]; exact h6, h7, h8, h9⟩
      · rw [mview_set (Or.inl (by decide)), em]
      · have hR := hS.2
        have f : ∀ k q, ¬ (k = 40 ∧ q = p) → ¬ k = 20 → u3 I1 20 0 (upd (I1 20 0) p a2) k q = I k q := fun k q h1 h2 => by
          rw [u3_ne I1 _ (by omega), hI1, u3_ne I _ (by omega)]
        have f4 : ∀ j, ¬ j = 3 → u3 I1 20 0 (upd (I1 20 0) p a2) 40 p j = I 40 p j := fun j hj => by
          rw [u3_ne I1 _ (by omega), hI1, u3_same, pk_un hj]
        have f3 : u3 I1 20 0 (upd (I1 20 0) p a2) 40 p 3 = a2 := by
          rw [u3_ne I1 _ (by omega), hI1, u3_same, pk_us]
        refine ⟨?_, fun r hr => ?_, fun q hq => ?_, fun c hc => ?_, fun i h => ?_⟩
        · rw [f 0 0 (by omega) (by decide), f 1 0 (by omega) (by decide)]; exact hR.1
        · rw [f 43 r (by omega) (by decide)]; exact hR.2.1 r hr
        · have hpx := hR.2.2.1 q hq
          unfold persX at hpx ⊢
          by_cases e : q = p
          · subst e
            rw [f4 0 (by decide), f3, f4 6 (by decide), f4 4 (by decide), f4 5 (by decide), f 41 q (by omega) (by decide), f 42 q (by omega) (by decide), vset_same]
            exact ⟨hpx.1, rfl, hpx.2.2.1, hpx.2.2.2.1, hpx.2.2.2.2.1, hpx.2.2.2.2.2⟩
          · rw [f 40 q (by omega) (by decide), f 41 q (by omega) (by decide), f 42 q (by omega) (by decide), vset_ne (show ¬ (20 = 20 ∧ q = p) by omega)]
            exact hpx
        · rw [f 5 0 (by omega) (by decide)]; exact hR.2.2.2.1 c hc
        · rw [f 2 0 (by omega) (by decide)]; exact hR.2.2.2.2 i h
    · rw [b2i_f hw]
      refine br_f' rfl ?_
      try dsimp only
      unfold wX12_comes
      rw [eM_isMember (m0 hV hS) (by omega), h, bs_some]
      refine br_t' (by decide) ?_
      rw [eM_within, b2i_f hw]
      exact br_f' rfl ⟨rfl, hi⟩
end Mut
