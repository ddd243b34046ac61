/-! image -/
def imV (V : MV) (nP nC : Nat) : MV := fun a b => if a = 17 ∧ b = 15 then 1 else if a = 17 ∧ b = 16 then nI nP else if a = 17 ∧ b = 17 then nI nC else if a = 29 ∧ b < nP then V 20 b else if a = 30 ∧ b < 48 then V 22 b else V a b
section Image
variable {g : GS} {V : MV} {nC len : Nat} {I : MI} {J : MJ}
def KI (nC : Nat) (I : MI) (i : Nat) (I1 : MI) : Prop := (∀ a b, ¬ (a = 40 ∨ a = 42) → I1 a b = I a b) ∧ (∀ p, i ≤ p → I1 40 p = I 40 p ∧ I1 42 p = I 42 p) ∧ ∀ p, p < i → I1 40 p 0 = I 40 p 0 ∧ I1 40 p 3 = I 40 p 3 ∧ I1 40 p 6 = I 40 p 6 ∧ I1 40 p 4 = I 40 p 3 ∧ I1 40 p 5 = nI nC ∧ ∀ c, c < nC → I1 42 p c = I 41 p c
theorem sX_keep {p : Nat} {I1 : MI} {Q : MI → MJ → Prop} (hc : nC ≤ 6) (h1 : KI nC I p I1) (h : ∀ I2, KI nC I (p + 1) I2 → Q I2 J) : wX5_keep g p (nI nC) I1 J Q := by
  unfold wX5_keep
  rw [if_neg (show ¬ (6 : Int32) < nI nC from nI_nlt (a := 6) hc (by decide))]
  refine nm_e ?_
  obtain ⟨k1, k2, k3⟩ := h1
  rw [u3_same, pk_us, cl_nI (by omega), show Int32.toNatClampNeg 0 = 0 from rfl]
  refine ⟨⟨by decide, by decide, nI_pos (by omega), by omega, by omega⟩, h _ ⟨fun a b hab => ?_, fun q hq => ?_, fun q hq => ?_⟩⟩
  · rw [u3_ne _ _ (by omega), u3_ne _ _ (by omega), u3_ne _ _ (by omega)]; exact k1 a b hab
  · rw [u3_ne _ _ (by omega), u3_ne _ _ (by omega), u3_ne _ _ (by omega), u3_ne _ _ (by omega), u3_ne _ _ (by omega), u3_ne _ _ (by omega)]; exact k2 q (by omega)
  · by_cases e : q = p
    · subst e
      have kk := k2 q (Nat.le_refl _)
      rw [u3_ne _ _ (by omega), u3_same, u3_same]
      refine ⟨?_, ?_, ?_, ?_, ?_, fun c hc2 => ?_⟩
      · rw [pk_un (by decide), pk_un (by decide), kk.1]
      · rw [pk_un (by decide), pk_un (by decide), kk.1]
      · rw [pk_un (by decide), pk_un (by decide), kk.1]
      · rw [pk_un (by decide), pk_us, kk.1]
      · rw [pk_us]
      · rw [u3_same, pk_cpy_in (by omega) (by omega), u3_ne _ _ (by omega), u3_ne _ _ (by omega), k1 41 q (by omega)]
        rw [show 0 + (c - 0) = c by omega]
    · rw [u3_ne _ _ (by omega), u3_ne _ _ (by omega), u3_ne _ _ (by omega), u3_ne _ _ (by omega), u3_ne _ _ (by omega), u3_ne _ _ (by omega)]; exact k3 q (by omega)
theorem imV_ok (hV : VOK g V nC len) : VOK g (imV V g.2.1 nC) nC len := by
  have hp8 := vok_p hV
  have hc6 := vok_c hV
  obtain ⟨b, c, d⟩ := hV
  refine ⟨b, c, d.1, d.2.1, d.2.2.1, d.2.2.2.1, ⟨Or.inr rfl, fun _ => ⟨g.2.1, nC, Nat.le_refl _, Nat.le_refl _, rfl, rfl, fun p hp => ⟨?_, fun cc hcc => ?_⟩⟩⟩, d.2.2.2.2.2⟩
  · obtain ⟨kd, n, cm, h1, h2, h3, h4, h5, h6, h7⟩ := d.2.1 p hp
    refine ⟨cm, h3, ?_⟩
    show (if 29 = 17 ∧ p = 15 then 1 else if 29 = 17 ∧ p = 16 then nI g.2.1 else if 29 = 17 ∧ p = 17 then nI nC else if 29 = 29 ∧ p < g.2.1 then V 20 p else if 29 = 30 ∧ p < 48 then V 22 p else V 29 p) = nI cm
    rw [if_neg (by omega), if_neg (by omega), if_neg (by omega), if_pos ⟨rfl, hp⟩]
    exact h6
  · obtain ⟨kd, n, cm, h1, h2, h3, h4, h5, h6, h7, h8, h9⟩ := d.2.1 p hp
    obtain ⟨z, hz, ez⟩ := h9 cc (by omega)
    refine ⟨z, hz, ?_⟩
    show (if 30 = 17 ∧ 6 * p + cc = 15 then 1 else if 30 = 17 ∧ 6 * p + cc = 16 then nI g.2.1 else if 30 = 17 ∧ 6 * p + cc = 17 then nI nC else if 30 = 29 ∧ 6 * p + cc < g.2.1 then V 20 (6 * p + cc) else if 30 = 30 ∧ 6 * p + cc < 48 then V 22 (6 * p + cc) else V 30 (6 * p + cc)) = nI z
    rw [if_neg (by omega), if_neg (by omega), if_neg (by omega), if_neg (by omega), if_pos ⟨rfl, by omega⟩]
    exact ez
theorem imV_29 {p nP : Nat} (hp : p < nP) : imV V nP nC 29 p = V 20 p := by
  unfold imV
  rw [if_neg (by omega), if_neg (by omega), if_neg (by omega), if_pos ⟨rfl, hp⟩]
theorem imV_30 {j nP : Nat} (hj : j < 48) : imV V nP nC 30 j = V 22 j := by
  unfold imV
  rw [if_neg (by omega), if_neg (by omega), if_neg (by omega), if_neg (by omega), if_pos ⟨rfl, hj⟩]
theorem p_op29 : op29 Inv := by
  rintro g I J ⟨V, nC, len, hV, hS⟩
  have hp8 := vok_p hV
  have hc6 := vok_c hV
  unfold wX11_image
  refine loop_0 (fun n i (s : MI) => wX11_image_b2 g (fun r I1 J1 => wX12_image g I1 J1 (fun r2 I2 J2 => r = r2 ∧ Inv g I2 J2)) n (nI i) s J) (fun i s => KI nC I i s) g.2.1 I ⟨fun _ _ _ => rfl, fun _ _ => ⟨rfl, rfl⟩, fun p hp => absurd hp (Nat.not_lt_zero p)⟩ (fun n s hs => ?_) (fun n i s hi hs ih => ?_)
  case refine_2 =>
    unfold wX11_image_b2
    rw [hs.1 0 0 (by omega), x10 hS, x11 hS, cl_nI (by omega)]
    refine br_f (nI_ge hi (by omega)) ⟨vp_in_nI (by omega) (by decide), br_f' hi (sX_keep hc6 hs (fun I2 h2 => ?_))⟩
    rw [nI_1]
    exact ih I2 h2
  unfold wX11_image_b2
  have s0 := hs.1 0 0 (by omega)
  rw [s0, x10 hS]
  refine br_t (nI_le (Nat.le_refl _) (by omega)) ?_
  obtain ⟨A, hA⟩ : ∃ z, z = u3 s 0 0 (upd (I 0 0) 12 1) := ⟨_, rfl⟩
  rw [← hA]
  have a0 : ∀ j, ¬ j = 12 → A 0 0 j = I 0 0 j := fun j hj => by rw [hA, u3_same, pk_un hj]
  have a12 : A 0 0 12 = 1 := by rw [hA, u3_same, pk_us]
  have aF : ∀ a b, ¬ (a = 40 ∨ a = 42 ∨ a = 0) → A a b = I a b := fun a b h => by rw [hA, u3_ne _ _ (by omega), hs.1 a b (by omega)]
  have a40 : ∀ p, A 40 p = s 40 p := fun p => by rw [hA, u3_ne _ _ (by omega)]
  have a42 : ∀ p, A 42 p = s 42 p := fun p => by rw [hA, u3_ne _ _ (by omega)]
  have em : mview A = V := by
    rw [← hS.1]
    exact mview_of (fun a j ha => by rw [aF a 0 (by omega)])
  have hr : A 0 0 10 = nI g.2.1 := by rw [a0 10 (by decide)]; exact x10 hS
  have mm : ∀ {j}, j < 20 → A 17 0 j = V 17 j := fun hj => mv_17 em hj
  have m20 : ∀ j, A 20 0 j = V 20 j := fun j => mv_at em j (by decide)
  have m22 : ∀ j, A 22 0 j = V 22 j := fun j => mv_at em j (by decide)
  try dsimp only
  rw [hr]
  unfold wX12_image
  refine nm_e ?_
  -- the fields
  obtain ⟨B, hB⟩ : ∃ z, z = u3 (u3 (u3 A 17 0 (upd (A 17 0) 15 1)) 17 0 (upd ((u3 A 17 0 (upd (A 17 0) 15 1)) 17 0) 16 ((u3 A 17 0 (upd (A 17 0) 15 1)) 17 0 0))) 17 0 (upd ((u3 (u3 A 17 0 (upd (A 17 0) 15 1)) 17 0 (upd ((u3 A 17 0 (upd (A 17 0) 15 1)) 17 0) 16 ((u3 A 17 0 (upd (A 17 0) 15 1)) 17 0 0))) 17 0) 17 ((u3 (u3 A 17 0 (upd (A 17 0) 15 1)) 17 0 (upd ((u3 A 17 0 (upd (A 17 0) 15 1)) 17 0) 16 ((u3 A 17 0 (upd (A 17 0) 15 1)) 17 0 0))) 17 0 4)) := ⟨_, rfl⟩
  rw [← hB]
  have bF : ∀ a b, ¬ a = 17 → B a b = A a b := fun a b h => by rw [hB, u3_ne _ _ (by omega), u3_ne _ _ (by omega), u3_ne _ _ (by omega)]
  have b17 : ∀ j, ¬ (j = 15 ∨ j = 16 ∨ j = 17) → B 17 0 j = A 17 0 j := fun j h => by rw [hB, u3_same, pk_un (by omega), u3_same, pk_un (by omega), u3_same, pk_un (by omega)]
  have b15 : B 17 0 15 = 1 := by rw [hB, u3_same, pk_un (by omega), u3_same, pk_un (by omega), u3_same, pk_us]
  have b16 : B 17 0 16 = nI g.2.1 := by rw [hB, u3_same, pk_un (by omega), u3_same, pk_us, u3_same, pk_un (by omega), mm (by decide)]; exact hV.2.1.2.1
  have b177 : B 17 0 17 = nI nC := by rw [hB, u3_same, pk_us, u3_same, pk_un (by omega), u3_same, pk_un (by omega), mm (by decide)]; exact hV.2.1.2.2.1
  clear hB
  have c0 : B 17 0 0 = nI g.2.1 := by rw [b17 0 (by omega), mm (by decide)]; exact hV.2.1.2.1
  refine loop_0 (fun n i (z : MI) => wX12_image_b23 g (fun r2 I2 J2 => nI g.2.1 = r2 ∧ Inv g I2 J2) n (nI i) z J) (fun i z => (∀ a b, ¬ a = 29 → z a b = B a b) ∧ ∀ j, z 29 0 j = if j < i then V 20 j else V 29 j) g.2.1 B ⟨fun _ _ _ => rfl, fun j => by rw [if_neg (Nat.not_lt_zero j), bF 29 0 (by decide)]; exact mv_at em j (by decide)⟩ (fun n z hz => ?_) (fun n i z hi hz ih => ?_)
  case refine_2 =>
    unfold wX12_image_b23
    rw [hz.1 17 0 (by decide), c0, cl_nI (by omega), hz.1 20 0 (by decide), bF 20 0 (by decide), m20, nI_1]
    refine br_f (nI_ge hi (by omega)) ⟨vp_in_nI (by omega) (by decide), vp_in_nI (by omega) (by decide), ih _ ⟨fun a b h => ?_, fun j => ?_⟩⟩
    · rw [u3_ne _ _ (by omega)]; exact hz.1 a b h
    · rw [u3_same]
      by_cases e : j = i
      · rw [e, pk_us, if_pos (by omega)]
      · rw [pk_un e, hz.2 j]
        by_cases e2 : j < i
        · rw [if_pos e2, if_pos (by omega)]
        · rw [if_neg e2, if_neg (by omega)]
  unfold wX12_image_b23
  rw [hz.1 17 0 (by decide), c0]
  refine br_t (nI_le (Nat.le_refl _) (by omega)) ?_
  have z30 : ∀ j, z 30 0 j = V 30 j := fun j => by rw [hz.1 30 0 (by decide), bF 30 0 (by decide)]; exact mv_at em j (by decide)
  refine loop_0 (fun n i (y : MI) => wX12_image_b51 g (fun r2 I2 J2 => nI g.2.1 = r2 ∧ Inv g I2 J2) n (nI i) y J) (fun i y => (∀ a b, ¬ a = 30 → y a b = z a b) ∧ ∀ j, y 30 0 j = if j < i then V 22 j else V 30 j) 48 z ⟨fun _ _ _ => rfl, fun j => by rw [if_neg (Nat.not_lt_zero j)]; exact z30 j⟩ (fun n y hy => ?_) (fun n i y hi hy ih => ?_)
  case refine_2 =>
    unfold wX12_image_b51
    rw [cl_nI (by omega), hy.1 22 0 (by decide), hz.1 22 0 (by decide), bF 22 0 (by decide), m22, nI_1]
    refine br_f (nI_ge (b := 48) hi (by decide)) ⟨vp_in_nI (by omega) (by decide), vp_in_nI (by omega) (by decide), ih _ ⟨fun a b h => ?_, fun j => ?_⟩⟩
    · rw [u3_ne _ _ (by omega)]; exact hy.1 a b h
    · rw [u3_same]
      by_cases e : j = i
      · rw [e, pk_us, if_pos (by omega)]
      · rw [pk_un e, hy.2 j]
        by_cases e2 : j < i
        · rw [if_pos e2, if_pos (by omega)]
        · rw [if_neg e2, if_neg (by omega)]
  unfold wX12_image_b51
  refine br_t (nI_le (a := 48) (Nat.le_refl _) (by decide)) ?_
  have yF : ∀ a b, ¬ (a = 17 ∨ a = 29 ∨ a = 30) → y a b = A a b := fun a b h => by rw [hy.1 a b (by omega), hz.1 a b (by omega), bF a b (by omega)]
  have y17 : y 17 0 = B 17 0 := by rw [hy.1 17 0 (by decide), hz.1 17 0 (by decide)]
  have y29 : ∀ j, y 29 0 j = if j < g.2.1 then V 20 j else V 29 j := fun j => by rw [hy.1 29 0 (by decide)]; exact hz.2 j
  refine ⟨by rw [y17, c0], imV V g.2.1 nC, nC, len, imV_ok hV, ?_, ?_⟩
  · funext a b
    unfold mview imV
    by_cases h17 : a = 17
    · subst h17
      rw [y17]
      by_cases e15 : b = 15
      · rw [if_pos (by omega), if_pos (by omega), e15, b15]
      · by_cases e16 : b = 16
        · rw [if_pos (by omega), if_neg (by omega), if_pos (by omega), e16, b16]
        · by_cases e17 : b = 17
          · rw [if_pos (by omega), if_neg (by omega), if_neg (by omega), if_pos (by omega), e17, b177]
          · rw [if_neg (show ¬ (17 = 17 ∧ b = 15) by omega), if_neg (show ¬ (17 = 17 ∧ b = 16) by omega), if_neg (show ¬ (17 = 17 ∧ b = 17) by omega), if_neg (show ¬ (17 = 29 ∧ b < g.2.1) by omega), if_neg (show ¬ (17 = 30 ∧ b < 48) by omega), b17 b (by omega), ← em]
            rfl
    · rw [if_neg (show ¬ (a = 17 ∧ b = 15) by omega), if_neg (show ¬ (a = 17 ∧ b = 16) by omega), if_neg (show ¬ (a = 17 ∧ b = 17) by omega)]
      by_cases h29 : a = 29
      · subst h29
        rw [if_pos (by omega), y29 b, if_neg (show ¬ (29 = 30 ∧ b < 48) by omega)]
        by_cases e : b < g.2.1
        · rw [if_pos e, if_pos ⟨rfl, e⟩]
        · rw [if_neg e, if_neg (by omega)]
      · rw [if_neg (show ¬ (a = 29 ∧ b < g.2.1) by omega)]
        by_cases h30 : a = 30
        · subst h30
          rw [if_pos (by omega), hy.2 b]
          by_cases e : b < 48
          · rw [if_pos e, if_pos ⟨rfl, e⟩]
          · rw [if_neg e, if_neg (by omega)]
        · rw [if_neg (show ¬ (a = 30 ∧ b < 48) by omega), yF a 0 (by omega), ← em]
          rfl
  · have hR := hS.2
    refine ⟨?_, fun r hr => ?_, fun p hp => ?_, fun c hc => ?_, fun i h => ?_⟩
    · rw [yF 0 0 (by omega), yF 1 0 (by omega), a0 9 (by decide), a0 10 (by decide), a0 11 (by decide), a12, aF 1 0 (by omega)]
      exact ⟨hR.1.1, hR.1.2.1, hR.1.2.2.1, rfl, hR.1.2.2.2.2⟩
    · rw [yF 43 r (by omega), aF 43 r (by omega)]; exact hR.2.1 r hr
    · have hpx := hR.2.2.1 p hp
      obtain ⟨k1, k2, k3, k4, k5, k6⟩ := hs.2.2 p hp
      unfold persX at hpx ⊢
      rw [yF 40 p (by omega), yF 41 p (by omega), yF 42 p (by omega), a40 p, aF 41 p (by omega), a42 p, k1, k2, k3, k4, k5]
      refine ⟨hpx.1, hpx.2.1, hpx.2.2.1, hpx.2.2.2.1, hpx.2.2.2.2.1, fun h => absurd (show (1 : Int32) = 0 from h) (by decide), fun _ => ⟨fun _ => ⟨?_, rfl, fun c hc => ?_⟩, fun h => absurd (show p < (imV V g.2.1 nC 17 16).toNatClampNeg from ?_) h⟩⟩
      · rw [imV_29 hp]; exact hpx.2.1
      · have hc : c < (nI nC).toNatClampNeg := hc
        rw [cl_nI (by omega)] at hc
        rw [imV_30 (by omega), k6 c hc]
        exact hpx.2.2.2.2.1 c (by omega)
      · show p < (nI g.2.1).toNatClampNeg
        rw [cl_nI (by omega)]
        exact hp
    · rw [yF 5 0 (by omega), aF 5 0 (by omega)]; exact hR.2.2.2.1 c hc
    · rw [yF 2 0 (by omega), aF 2 0 (by omega)]; exact hR.2.2.2.2 i h
end Image
