/-! the drawn balls: evening -/
def nxt (s : Nat) : Nat := (1103515245 * s + 12345) % 2147483648
def tnt (s : Nat) : Nat := s / 65536 % 10
theorem nxt_lt (s : Nat) : nxt s < 2147483648 := Nat.mod_lt _ (by decide)
theorem tnt_lt (s : Nat) : tnt s < 10 := Nat.mod_lt _ (by decide)
theorem seedI (s : Nat) : (1103515245 * nI s + 12345) &&& 2147483647 = nI (nxt s) := by
  rw [show (1103515245 : Int32) = nI 1103515245 from rfl, show (12345 : Int32) = nI 12345 from rfl, pk_mul, nI_add, pk_and _ 31 (by decide)]
  refine congrArg nI ?_
  show (Int32.ofNat (1103515245 * s + 12345)).toBitVec.toNat % 2 ^ 31 = nxt s
  unfold nxt
  rw [show (Int32.ofNat (1103515245 * s + 12345)).toBitVec.toNat = (1103515245 * s + 12345) % 2 ^ 32 from BitVec.toNat_ofNat _ _]
  omega
theorem seedL {s : Nat} (hs : s < 2147483648) : (1103515245 * lN s + 12345) &&& 2147483647 = lN (nxt s) := by
  rw [show (1103515245 : Int64) = lN 1103515245 from rfl, show (12345 : Int64) = lN 12345 from rfl, lN_mul, lN_add]
  apply Int64.toBitVec_inj.mp
  rw [Int64.toBitVec_and]
  apply BitVec.eq_of_toNat_eq
  rw [BitVec.toNat_and]
  show (BitVec.ofNat 64 (1103515245 * s + 12345)).toNat &&& (2 ^ 31 - 1) = (BitVec.ofNat 64 (nxt s)).toNat
  rw [Nat.and_two_pow_sub_one_eq_mod, BitVec.toNat_ofNat, BitVec.toNat_ofNat]
  rw [Nat.mod_mod_of_dvd _ (show 2 ^ 31 ∣ 2 ^ 64 from ⟨2 ^ 33, by decide⟩), Nat.mod_eq_of_lt (a := nxt s) (Nat.lt_trans (nxt_lt s) (by decide))]
  rfl
theorem tntI {s : Nat} (hs : s < 2147483648) : (nI s / 65536) - (nI s / 65536) / 10 * 10 = nI (tnt s) := by
  rw [show (65536 : Int32) = nI 65536 from rfl, pk_div (by omega) (by decide) (by decide), show (10 : Int32) = nI 10 from rfl, pk_rem (by omega) (by decide) (by decide)]
  rfl
theorem tntL {s : Nat} (hs : s < 2147483648) : Int64.toInt32 ((lN s / 65536) - (lN s / 65536) / Int32.toInt64 10 * Int32.toInt64 10) = nI (tnt s) := by
  rw [show (65536 : Int64) = lN 65536 from rfl, pk_lDiv (by omega) (by decide) (by decide), show Int32.toInt64 10 = lN 10 from rfl, pk_lRem (by omega) (by decide) (by decide), lN_i]
  rfl
/-- one ball after the other: the seed, and the black ones -/
def pbS (x : Int32) (p : Nat × Nat) : Nat × Nat := (nxt p.1, p.2 + (if x ≤ nI (tnt (nxt p.1)) then 0 else 1))
def pb (L : Nat → Int32) : Nat → Nat → Nat × Nat
  | 0, s => (s, 0)
  | n + 1, s => pbS (L n) (pb L n s)
def goR (bl : Nat → Int32) (sel : Nat → Bool) : Nat → Nat → Nat × Nat
  | 0, s => (s, 0)
  | n + 1, s => if sel n then pbS (bl n) (goR bl sel n s) else goR bl sel n s
theorem pb_s (L : Nat → Int32) (n s : Nat) : pb L (n + 1) s = pbS (L n) (pb L n s) := rfl
theorem goR_s (bl : Nat → Int32) (sel : Nat → Bool) (n s : Nat) : goR bl sel (n + 1) s = if sel n then pbS (bl n) (goR bl sel n s) else goR bl sel n s := rfl
theorem pb_c {L M : Nat → Int32} : ∀ n s, (∀ j, j < n → L j = M j) → pb L n s = pb M n s
  | 0, _, _ => rfl
  | n + 1, s, h => by rw [pb_s, pb_s, h n (by omega), pb_c n s (fun j hj => h j (by omega))]
theorem pb_lt {L : Nat → Int32} {s : Nat} (hs : s < 2147483648) : ∀ n, (pb L n s).1 < 2147483648
  | 0 => hs
  | n + 1 => nxt_lt _
theorem pb_le {L : Nat → Int32} {s : Nat} : ∀ n, (pb L n s).2 ≤ n
  | 0 => Nat.le_refl _
  | n + 1 => by
    have := pb_le (L := L) (s := s) n
    show (pb L n s).2 + (if L n ≤ nI (tnt (nxt (pb L n s).1)) then 0 else 1) ≤ n + 1
    split <;> omega
/-- the seed, the black balls (or -1), and whether the candidate is in -/
def hldV (V : MV) (r : Nat) (n : Nat) (p : Nat → Nat × Nat) (s : Nat) : Nat × Int32 × Bool :=
  if n = 0 ∨ nI n < V 25 r then (s, -1, false)
  else if ¬ V 26 r = 0 ∧ shB V r (p s).2 n = true then ((p (p s).1).1, nI (p (p s).1).2, !shB V r (p (p s).1).2 n)
  else ((p s).1, nI (p s).2, !shB V r (p s).2 n)
def Fr (q : Nat) (I I1 : MI) : Prop := ∀ a b, ¬ (a = 10 ∧ b = q) → I1 a b = I a b
section Even
variable {g : GS} {V : MV} {nC len : Nat} {I : MI} {J : MJ}
theorem St.fr {I1 : MI} {q : Nat} (h : St g V nC len I) (f : Fr q I I1) : St g V nC len I1 := by
  refine ⟨?_, RX_of h.2 (fun a b ha => f a b (by omega))⟩
  rw [← h.1]
  exact mview_of (fun a j ha => by rw [f a 0 (by omega)])
theorem Fr.u {q : Nat} {I I1 : MI} (f : Fr q I I1) {h : Nat → Int32} : Fr q I (u3 I1 10 q h) := fun a b n => (u3_ne _ _ n).trans (f a b n)
theorem Fr.r {q : Nat} {I : MI} : Fr q I I := fun _ _ _ => rfl
theorem Fr.t {q : Nat} {I I1 I2 : MI} (f : Fr q I I1) (f2 : Fr q I1 I2) : Fr q I I2 := fun a b n => (f2 a b n).trans (f a b n)
theorem sX_putBalls {q n s : Nat} {L : Nat → Int32} {Q : MI → MJ → Prop} (hn : n ≤ 8) (hs : s < 2147483648) (hL : I 11 q = L) (h1 : I 10 q 1 = nI n) (h2 : I 10 q 2 = nI s) (h : ∀ I1, Fr q I I1 → I1 10 q 1 = nI n → I1 10 q 2 = nI (pb L n s).1 → I1 10 q 3 = nI (pb L n s).2 → Q I1 J) : wX0_putBalls g q I J Q := by
  have key : ∀ d i I2, i + d = n → Fr q I I2 → I2 10 q 1 = nI n → I2 10 q 2 = nI (pb L i s).1 → I2 10 q 3 = nI (pb L i s).2 → wX0_putBalls_b7 g Q (d + 1) q (nI i) I2 J := by
    intro d
    induction d with
    | zero =>
      intro i I2 hi f e1 e2 e3
      have : i = n := by omega
      subst this
      unfold wX0_putBalls_b7
      rw [e1]
      exact br_t (nI_le (Nat.le_refl _) (by omega)) (h I2 f e1 e2 e3)
    | succ d ih =>
      intro i I2 hi f e1 e2 e3
      unfold wX0_putBalls_b7 wX0_nextSeed wX0_drawnTenth wX0_putBalls_b52
      rw [e1]
      refine br_f (nI_ge (by omega) (by omega)) ?_
      try dsimp only
      rw [u3_same, pk_us, e2, seedI, tntI (nxt_lt _), cl_nI (by omega), u3_ne _ _ (show ¬ (11 = 10 ∧ q = q) by omega), f 11 q (by omega), hL, nI_1]
      refine ⟨vp_in_nI (by omega) (by decide), ?_⟩
      have ih2 := fun I2 f2 => ih (i + 1) I2 (by omega) f2
      rw [pb_s] at ih2
      unfold pbS at ih2
      by_cases hx : L i ≤ nI (tnt (nxt (pb L i s).1))
      · refine br_t hx (ih2 _ f.u ?_ ?_ ?_)
        · rw [u3_same, pk_un (by decide)]; exact e1
        · rw [u3_same, pk_us]
        · rw [u3_same, pk_un (by decide), if_pos hx]; exact e3
      · refine br_f hx (ih2 _ f.u.u ?_ ?_ ?_)
        · rw [u3_same, pk_un (by decide), pk_un (by decide)]; exact e1
        · rw [u3_same, pk_un (by decide), pk_us]
        · rw [u3_same, pk_us, pk_un (by decide), if_neg hx, e3, nI_1]
  refine ⟨n + 1, key n 0 _ (by omega) Fr.r.u ?_ ?_ ?_⟩
  · rw [u3_same, pk_un (by decide)]; exact h1
  · rw [u3_same, pk_un (by decide)]; exact h2
  · rw [u3_same, pk_us]; rfl
theorem sX_hold {q n s r : Nat} {L : Nat → Int32} {Q : MI → MJ → Prop} (hS : St g V nC len I) (hr : r < g.2.2) (hn : n ≤ 8) (hs : s < 2147483648) (hL : I 11 q = L) (h1 : I 10 q 1 = nI n) (h : ∀ I1, Fr q I I1 → I1 10 q 1 = nI n → I1 10 q 2 = nI (hldV V r n (pb L n) s).1 → I1 10 q 3 = (hldV V r n (pb L n) s).2.1 → I1 10 q 4 = b2i ((hldV V r n (pb L n) s).2.2 = true) → Q I1 J) : wX0_hold g q r (nI s) I J Q := by
  unfold wX0_hold
  refine nm_e ?_
  have f0 : Fr q I (u3 (u3 (u3 I 10 q (upd (I 10 q) 2 (nI s))) 10 q (upd ((u3 I 10 q (upd (I 10 q) 2 (nI s))) 10 q) 3 ((-1)))) 10 q (upd ((u3 (u3 I 10 q (upd (I 10 q) 2 (nI s))) 10 q (upd ((u3 I 10 q (upd (I 10 q) 2 (nI s))) 10 q) 3 ((-1)))) 10 q) 4 0)) := Fr.r.u.u.u
  revert f0
  have v1 : (u3 (u3 (u3 I 10 q (upd (I 10 q) 2 (nI s))) 10 q (upd ((u3 I 10 q (upd (I 10 q) 2 (nI s))) 10 q) 3 ((-1)))) 10 q (upd ((u3 (u3 I 10 q (upd (I 10 q) 2 (nI s))) 10 q (upd ((u3 I 10 q (upd (I 10 q) 2 (nI s))) 10 q) 3 ((-1)))) 10 q) 4 0)) 10 q 1 = nI n := by
    rw [u3_same, pk_un (by decide), u3_same, pk_un (by decide), u3_same, pk_un (by decide)]; exact h1
  have v2 : (u3 (u3 (u3 I 10 q (upd (I 10 q) 2 (nI s))) 10 q (upd ((u3 I 10 q (upd (I 10 q) 2 (nI s))) 10 q) 3 ((-1)))) 10 q (upd ((u3 (u3 I 10 q (upd (I 10 q) 2 (nI s))) 10 q (upd ((u3 I 10 q (upd (I 10 q) 2 (nI s))) 10 q) 3 ((-1)))) 10 q) 4 0)) 10 q 2 = nI s := by
    rw [u3_same, pk_un (by decide), u3_same, pk_un (by decide), u3_same, pk_us]
  have v3 : (u3 (u3 (u3 I 10 q (upd (I 10 q) 2 (nI s))) 10 q (upd ((u3 I 10 q (upd (I 10 q) 2 (nI s))) 10 q) 3 ((-1)))) 10 q (upd ((u3 (u3 I 10 q (upd (I 10 q) 2 (nI s))) 10 q (upd ((u3 I 10 q (upd (I 10 q) 2 (nI s))) 10 q) 3 ((-1)))) 10 q) 4 0)) 10 q 3 = -1 := by
    rw [u3_same, pk_un (by decide), u3_same, pk_us]
  have v4 : (u3 (u3 (u3 I 10 q (upd (I 10 q) 2 (nI s))) 10 q (upd ((u3 I 10 q (upd (I 10 q) 2 (nI s))) 10 q) 3 ((-1)))) 10 q (upd ((u3 (u3 I 10 q (upd (I 10 q) 2 (nI s))) 10 q (upd ((u3 I 10 q (upd (I 10 q) 2 (nI s))) 10 q) 3 ((-1)))) 10 q) 4 0)) 10 q 4 = 0 := by
    rw [u3_same, pk_us]
  revert v1 v2 v3 v4
  generalize (u3 (u3 (u3 I 10 q (upd (I 10 q) 2 (nI s))) 10 q (upd ((u3 I 10 q (upd (I 10 q) 2 (nI s))) 10 q) 3 ((-1)))) 10 q (upd ((u3 (u3 I 10 q (upd (I 10 q) 2 (nI s))) 10 q (upd ((u3 I 10 q (upd (I 10 q) 2 (nI s))) 10 q) 3 ((-1)))) 10 q) 4 0)) = I0
  intro v1 v2 v3 v4 f0
  have hS0 := hS.fr f0
  have hL0 : I0 11 q = L := by rw [f0 11 q (by omega)]; exact hL
  rw [v1]
  refine sX_hasQuorum hS0 hr (by omega) ?_
  unfold hldV at h
  by_cases hq : n = 0 ∨ nI n < V 25 r
  · rw [if_pos hq] at h
    rw [b2i_f (by simp [hq])]
    exact br_f' rfl (h I0 f0 v1 v2 v3 v4)
  · rw [if_neg hq] at h
    rw [b2i_t hq]
    refine br_t' (by decide) (sX_putBalls hn hs hL0 v1 v2 (fun I1 f1 e1 e2 e3 => ?_))
    have hS1 := hS0.fr f1
    have f01 := f0.t f1
    have last : ∀ (I2 : MI) (s2 k2 : Nat), Fr q I I2 → I2 10 q 1 = nI n → I2 10 q 2 = nI s2 → I2 10 q 3 = nI k2 → (∀ I3, Fr q I I3 → I3 10 q 1 = nI n → I3 10 q 2 = nI s2 → I3 10 q 3 = nI k2 → I3 10 q 4 = b2i ((!shB V r k2 n) = true) → Q I3 J) → wX0_hold_b57 g Q q r I2 J := by
      intro I2 s2 k2 f2 c1 c2 c3 hh
      unfold wX0_hold_b57 wX0_hold_b78
      rw [c1, c3]
      refine sX_shutsOut (hS.fr f2) hr ?_
      by_cases hb : shB V r k2 n = true
      · rw [b2i_t hb]
        refine br_t' (by decide) ⟨Or.inl rfl, hh _ f2.u ?_ ?_ ?_ ?_⟩
        · rw [u3_same, pk_un (by decide)]; exact c1
        · rw [u3_same, pk_un (by decide)]; exact c2
        · rw [u3_same, pk_un (by decide)]; exact c3
        · rw [u3_same, pk_us, hb]; rfl
      · rw [b2i_f hb]
        refine br_f' rfl ⟨Or.inr rfl, hh _ f2.u ?_ ?_ ?_ ?_⟩
        · rw [u3_same, pk_un (by decide)]; exact c1
        · rw [u3_same, pk_un (by decide)]; exact c2
        · rw [u3_same, pk_un (by decide)]; exact c3
        · rw [u3_same, pk_us, b2i_t (by simp [hb])]
    rw [(hS1.2.2.1 r hr).2.2.2.1]
    by_cases h26 : V 26 r = 0
    · rw [if_neg (by simp [h26])] at h
      exact br_t h26 (last I1 _ _ f01 e1 e2 e3 h)
    · refine br_f h26 ?_
      rw [e1, e3]
      refine sX_shutsOut hS1 hr ?_
      by_cases hb : shB V r (pb L n s).2 n = true
      · rw [if_pos ⟨h26, hb⟩] at h
        rw [b2i_t hb]
        have hL1 : I1 11 q = L := by rw [f01 11 q (by omega)]; exact hL
        refine br_f (by decide) (sX_putBalls hn (pb_lt hs n) hL1 e1 e2 (fun I2 f2 c1 c2 c3 => last I2 _ _ (f01.t f2) c1 c2 c3 h))
      · rw [if_neg (by simp [hb])] at h
        rw [b2i_f hb]
        exact br_t rfl (last I1 _ _ f01 e1 e2 e3 h)
end Even
