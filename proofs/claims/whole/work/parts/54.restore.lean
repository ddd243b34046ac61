/-! restore -/
def reV (V : MV) (kM kC : Nat) : MV := fun a b => if a = 20 ∧ b < kM then V 29 b else if a = 22 ∧ b / 6 < kM ∧ b % 6 < kC then V 30 b else V a b
theorem reV_20 {V : MV} {kM kC p : Nat} (h : p < kM) : reV V kM kC 20 p = V 29 p := by unfold reV; rw [if_pos ⟨rfl, h⟩]
theorem reV_20' {V : MV} {kM kC p : Nat} (h : ¬ p < kM) : reV V kM kC 20 p = V 20 p := by unfold reV; rw [if_neg (by omega), if_neg (by omega)]
theorem reV_22 {V : MV} {kM kC p c : Nat} (h : p < kM) (hc : c < kC) (h6 : c < 6) : reV V kM kC 22 (6 * p + c) = V 30 (6 * p + c) := by unfold reV; rw [if_neg (by omega), if_pos ⟨rfl, by omega, by omega⟩]
theorem reV_22' {V : MV} {kM kC p c : Nat} (h6 : c < 6) (h : ¬ (p < kM ∧ c < kC)) : reV V kM kC 22 (6 * p + c) = V 22 (6 * p + c) := by unfold reV; rw [if_neg (by omega), if_neg (by omega)]
section Restore
variable {g : GS} {V : MV} {nC len : Nat} {I : MI} {J : MJ}
def KR (kM kC : Nat) (I : MI) (i : Nat) (I1 : MI) : Prop := (∀ a b, ¬ (a = 40 ∨ a = 41) → I1 a b = I a b) ∧ (∀ p, i ≤ p ∨ kM ≤ p → I1 40 p = I 40 p ∧ I1 41 p = I 41 p) ∧ ∀ p, p < i → p < kM → (∀ j, ¬ j = 3 → I1 40 p j = I 40 p j) ∧ I1 40 p 3 = I 40 p 4 ∧ ∀ c, I1 41 p c = if c < kC then I 42 p c else I 41 p c
theorem sX_takeBack {p kM kC : Nat} {I1 : MI} {Q : MI → MJ → Prop} (hk : kC ≤ 6) (hm : p < kM → I 40 p 5 = nI kC ∧ ¬ I 40 p 4 = -1) (hn : ¬ p < kM → I 40 p 4 = -1) (h1 : KR kM kC I p I1) (h : ∀ I2, KR kM kC I (p + 1) I2 → Q I2 J) : wX5_takeBack g p I1 J Q := by
  unfold wX5_takeBack
  obtain ⟨k1, k2, k3⟩ := h1
  have kk := k2 p (Or.inl (Nat.le_refl _))
  rw [kk.1]
  by_cases hp : p < kM
  · obtain ⟨e5, e4⟩ := hm hp
    refine br_f e4 ?_
    rw [u3_same, pk_un (by decide), e5, cl_nI (by omega), show Int32.toNatClampNeg 0 = 0 from rfl]
    refine ⟨⟨by decide, by decide, nI_pos (by omega), by omega, by omega⟩, h _ ⟨fun a b hab => ?_, fun q hq => ?_, fun q hq hqm => ?_⟩⟩
    · rw [u3_ne _ _ (by omega), u3_ne _ _ (by omega)]; exact k1 a b hab
    · rw [u3_ne _ _ (by omega), u3_ne _ _ (by omega), u3_ne _ _ (by omega), u3_ne _ _ (by omega)]; exact k2 q (by omega)
    · by_cases e : q = p
      · subst e
        refine ⟨fun j hj => ?_, ?_, fun c => ?_⟩
        · rw [u3_ne _ _ (by omega), u3_same, pk_un hj]
        · rw [u3_ne _ _ (by omega), u3_same, pk_us]
        · rw [u3_same, u3_ne _ _ (by omega), u3_ne _ _ (by omega), kk.2, k1 42 q (by omega)]
          by_cases ec : c < kC
          · rw [pk_cpy_in (by omega) (by omega), if_pos ec, show 0 + (c - 0) = c by omega]
          · rw [pk_cpy_out (by omega), if_neg ec]
      · rw [u3_ne _ _ (by omega), u3_ne _ _ (by omega), u3_ne _ _ (by omega), u3_ne _ _ (by omega)]; exact k3 q (by omega) hqm
  · refine br_t (hn hp) (h _ ⟨k1, fun q hq => ?_, fun q hq hqm => k3 q (by omega) hqm⟩)
    exact k2 q (by omega)
theorem nI_nm1 {n : Nat} (h : n < 2 ^ 31) : ¬ nI n = -1 := by
  intro e
  have := congrArg Int32.toInt e
  rw [nI_toInt h, show (-1 : Int32).toInt = -1 from rfl] at this
  omega
theorem p_op30 : op30 Inv := by
  rintro g I J ⟨V, nC, len, hV, hS⟩
  have hp8 := vok_p hV
  have hc6 := vok_c hV
  have e12 : I 0 0 12 = V 17 15 := hS.2.1.2.2.2.1
  have e15 : I 17 0 15 = V 17 15 := mv_17 hS.1 (by decide)
  unfold wX11_restore
  rw [e12]
  by_cases h15 : V 17 15 = 0
  · refine br_f' h15 ?_
    try dsimp only
    unfold wX12_restore
    rw [e15]
    exact br_f' h15 ⟨rfl, hS.inv hV⟩
  refine br_t' h15 ?_
  obtain ⟨kM, kC, hkM, hkC, e16, e17, hK⟩ := hV.2.2.2.2.2.2.1.2 h15
  have hX : ∀ p, p < g.2.1 → (p < kM → I 40 p 4 = V 29 p ∧ I 40 p 5 = nI kC ∧ ∀ c, c < kC → I 42 p c = V 30 (6 * p + c)) ∧ (¬ p < kM → I 40 p 4 = -1) := by
    intro p hp
    have h := (hS.2.2.2.1 p hp).2.2.2.2.2.2 h15
    rw [e16, e17, cl_nI (by omega), cl_nI (by omega)] at h
    exact h
  refine loop_0 (fun n i (s : MI) => wX11_restore_b12 g (fun r I1 J1 => wX12_restore g I1 J1 (fun r2 I2 J2 => r = r2 ∧ Inv g I2 J2)) n (nI i) s J) (fun i s => KR kM kC I i s) g.2.1 I ⟨fun _ _ _ => rfl, fun _ _ => ⟨rfl, rfl⟩, fun p hp => absurd hp (Nat.not_lt_zero p)⟩ (fun n A hs => ?_) (fun n i s hi hs ih => ?_)
  case refine_2 =>
    unfold wX11_restore_b12
    rw [hs.1 0 0 (by omega), x10 hS, cl_nI (by omega)]
    refine br_f (nI_ge hi (by omega)) ⟨vp_in_nI (by omega) (by decide), br_f' hi (sX_takeBack (by omega) (fun hm => ⟨((hX i hi).1 hm).2.1, ?_⟩) (hX i hi).2 hs (fun I2 h2 => ?_))⟩
    · obtain ⟨⟨cm, hcm, ecm⟩, -⟩ := hK i hm
      rw [((hX i hi).1 hm).1, ecm]
      exact nI_nm1 (by omega)
    · rw [nI_1]
      exact ih I2 h2
  unfold wX11_restore_b12
  have aF : ∀ a b, ¬ (a = 40 ∨ a = 41) → A a b = I a b := hs.1
  rw [aF 0 0 (by omega), x10 hS]
  refine br_t (nI_le (Nat.le_refl _) (by omega)) ?_
  have em : mview A = V := by
    rw [← hS.1]
    exact mview_of (fun a j ha => by rw [aF a 0 (by omega)])
  have a17 : ∀ {j}, j < 20 → A 17 0 j = V 17 j := fun hj => mv_17 em hj
  have m29 : ∀ j, A 29 0 j = V 29 j := fun j => mv_at em j (by decide)
  have m30 : ∀ j, A 30 0 j = V 30 j := fun j => mv_at em j (by decide)
  try dsimp only
  unfold wX12_restore
  rw [a17 (by decide)]
  refine br_t' h15 ?_
  refine loop_0 (fun n i (z : MI) => wX12_restore_b12 g (fun r2 I2 J2 => nI g.2.1 = r2 ∧ Inv g I2 J2) n (nI i) z J) (fun i z => (∀ a b, ¬ (a = 20 ∨ a = 22) → z a b = A a b) ∧ (∀ j, z 20 0 j = reV V i kC 20 j) ∧ ∀ j, z 22 0 j = reV V i kC 22 j) kM A ⟨fun _ _ _ => rfl, fun j => ?_, fun j => ?_⟩ (fun n z hz => ?_) (fun n i z hi hz ih => ?_)
  · rw [reV_20' (Nat.not_lt_zero j)]; exact mv_at em j (by decide)
  · unfold reV
    rw [if_neg (by omega), if_neg (by omega)]; exact mv_at em j (by decide)
  · unfold wX12_restore_b12
    rw [hz.1 17 0 (by omega), a17 (by decide), a17 (by decide), e16]
    refine br_t (nI_le (Nat.le_refl _) (by omega)) ⟨hV.2.1.2.1.symm, reV V kM kC, nC, len, ?_, ?_, ?_⟩
    · obtain ⟨b, c, d⟩ := hV
      refine ⟨b, c, d.1, fun p hp => ?_, d.2.2.1, d.2.2.2.1, d.2.2.2.2.1, fun p cc h1 h2 h3 => ?_⟩
      · obtain ⟨kd, n, cm, h1, h2, h3, h4, h5, h6, h7, h8, h9⟩ := d.2.1 p hp
        by_cases e : p < kM
        · obtain ⟨⟨cm', hcm', ecm'⟩, hz'⟩ := hK p e
          refine ⟨kd, n, cm', h1, h2, hcm', h4, h5, by rw [reV_20 e]; exact ecm', h7, h8, fun cc hcc => ?_⟩
          by_cases e2 : cc < kC
          · rw [reV_22 e e2 hcc]; exact hz' cc e2
          · rw [reV_22' hcc (by omega)]; exact h9 cc hcc
        · refine ⟨kd, n, cm, h1, h2, h3, h4, h5, by rw [reV_20' e]; exact h6, h7, h8, fun cc hcc => ?_⟩
          rw [reV_22' hcc (by omega)]; exact h9 cc hcc
      · rw [reV_22' h3 (by omega)]; exact d.2.2.2.2.2 p cc h1 h2 h3
    · funext a b
      by_cases h20 : a = 20
      · subst h20
        unfold mview
        rw [if_pos (by omega), hz.2.1 b]
      · by_cases h22 : a = 22
        · subst h22
          unfold mview
          rw [if_pos (by omega), hz.2.2 b]
        · unfold mview reV
          rw [if_neg (show ¬ (a = 20 ∧ b < kM) by omega), if_neg (show ¬ (a = 22 ∧ b / 6 < kM ∧ b % 6 < kC) by omega), hz.1 a 0 (by omega), ← em]
          rfl
    · have hR := hS.2
      have zF : ∀ a b, ¬ (a = 20 ∨ a = 22 ∨ a = 40 ∨ a = 41) → z a b = I a b := fun a b h => by rw [hz.1 a b (by omega), aF a b (by omega)]
      have z40 : ∀ p, z 40 p = A 40 p := fun p => hz.1 40 p (by omega)
      have z41 : ∀ p, z 41 p = A 41 p := fun p => hz.1 41 p (by omega)
      refine ⟨?_, fun r hr => ?_, fun p hp => ?_, fun c hc => ?_, fun i h => ?_⟩
      · rw [zF 0 0 (by omega), zF 1 0 (by omega)]; exact hR.1
      · rw [zF 43 r (by omega)]; exact hR.2.1 r hr
      · have hpx := hR.2.2.1 p hp
        unfold persX at hpx ⊢
        rw [z40 p, z41 p, zF 42 p (by omega)]
        by_cases e : p < kM
        · obtain ⟨k1, k2, k3⟩ := hs.2.2 p hp e
          rw [k1 0 (by decide), k2, k1 6 (by decide), k1 4 (by decide), k1 5 (by decide), reV_20 e]
          refine ⟨hpx.1, ((hX p hp).1 e).1, hpx.2.2.1, hpx.2.2.2.1, fun c hc => ?_, hpx.2.2.2.2.2⟩
          rw [k3 c]
          by_cases ec : c < kC
          · rw [if_pos ec, reV_22 e ec hc]; exact ((hX p hp).1 e).2.2 c ec
          · rw [if_neg ec, reV_22' hc (by omega)]; exact hpx.2.2.2.2.1 c hc
        · obtain ⟨k1, k2⟩ := hs.2.1 p (Or.inr (by omega))
          rw [k1, k2, reV_20' e]
          refine ⟨hpx.1, hpx.2.1, hpx.2.2.1, hpx.2.2.2.1, fun c hc => ?_, hpx.2.2.2.2.2⟩
          rw [reV_22' hc (by omega)]; exact hpx.2.2.2.2.1 c hc
      · rw [zF 5 0 (by omega)]; exact hR.2.2.2.1 c hc
      · rw [zF 2 0 (by omega)]; exact hR.2.2.2.2 i h
  · unfold wX12_restore_b12
    rw [hz.1 17 0 (by omega), a17 (by decide), e16, cl_nI (by omega), hz.1 29 0 (by omega), m29]
    refine br_f (nI_ge hi (by omega)) ⟨vp_in_nI (by omega) (by decide), vp_in_nI (by omega) (by decide), ?_⟩
    refine loop_0 (fun n2 c (y : MI) => wX12_restore_b34 g (fun v1 I J => wX12_restore_b12 g (fun r2 I2 J2 => nI g.2.1 = r2 ∧ Inv g I2 J2) n v1 I J) (fun r2 I2 J2 => nI g.2.1 = r2 ∧ Inv g I2 J2) n2 (nI i) (nI c) y J) (fun c y => (∀ a b, ¬ (a = 20 ∨ a = 22) → y a b = A a b) ∧ (∀ j, y 20 0 j = reV V (i + 1) kC 20 j) ∧ ∀ j, y 22 0 j = if 6 * i ≤ j ∧ j < 6 * i + c then V 30 j else reV V i kC 22 j) kC _ ⟨fun a b h => ?_, fun j => ?_, fun j => ?_⟩ (fun n2 y hy => ?_) (fun n2 c y hc hy ih2 => ?_)
    · rw [u3_ne _ _ (by omega)]; exact hz.1 a b h
    · rw [u3_same]
      by_cases e : j = i
      · rw [e, pk_us, reV_20 (by omega)]
      · rw [pk_un e, hz.2.1 j]
        by_cases e2 : j < i
        · rw [reV_20 e2, reV_20 (by omega)]
        · rw [reV_20' e2, reV_20' (by omega)]
    · rw [u3_ne _ _ (by omega), if_neg (by omega)]; exact hz.2.2 j
    · unfold wX12_restore_b34
      rw [hy.1 17 0 (by omega), a17 (by decide), e17, nI_1]
      refine br_t (nI_le (Nat.le_refl _) (by omega)) (ih y ⟨hy.1, hy.2.1, fun j => ?_⟩)
      rw [hy.2.2 j]
      unfold reV
      rw [if_neg (show ¬ (22 = 20 ∧ j < i) by omega), if_neg (show ¬ (22 = 20 ∧ j < i + 1) by omega)]
      by_cases e1 : 6 * i ≤ j ∧ j < 6 * i + kC
      · rw [if_pos e1, if_pos (by omega)]
      · rw [if_neg e1]
        by_cases e2 : j / 6 < i ∧ j % 6 < kC
        · rw [if_pos (by omega), if_pos (by omega)]
        · rw [if_neg (by omega), if_neg (by omega)]
    · unfold wX12_restore_b34
      rw [hy.1 17 0 (by omega), a17 (by decide), e17, ix6, cl_nI (by omega), hy.1 30 0 (by omega), m30, nI_1 c]
      refine br_f (nI_ge hc (by omega)) ⟨vp_in_nI (by omega) (by decide), vp_in_nI (by omega) (by decide), ih2 _ ⟨fun a b h => ?_, fun j => ?_, fun j => ?_⟩⟩
      · rw [u3_ne _ _ (by omega)]; exact hy.1 a b h
      · rw [u3_ne _ _ (by omega)]; exact hy.2.1 j
      · rw [u3_same]
        by_cases e : j = 6 * i + c
        · rw [e, pk_us, if_pos (by omega)]
        · rw [pk_un e, hy.2.2 j]
          by_cases e2 : 6 * i ≤ j ∧ j < 6 * i + c
          · rw [if_pos e2, if_pos (by omega)]
          · rw [if_neg e2, if_neg (by omega)]
end Restore
