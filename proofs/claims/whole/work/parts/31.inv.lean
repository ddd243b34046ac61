/-- the model's lasting cells, as a function -/
def mview (I : MI) : Nat → Nat → Int32 := fun k j => if (18 ≤ k ∧ k < 33) ∨ (k = 17 ∧ j < 20) then I k 0 j else 0
abbrev MV : Type := Nat → Nat → Int32
def ruleV (V : MV) (r : Nat) : Prop := ∃ bl ra qu : Nat, ((1 ≤ bl ∧ bl ≤ 8 ∧ ra = 0) ∨ (bl = 0 ∧ 2 ≤ ra ∧ ra ≤ 20)) ∧ qu ≤ 8 ∧ V 23 r = nI bl ∧ V 24 r = nI ra ∧ V 25 r = nI qu ∧ isB (V 26 r) ∧ isB (V 27 r)
def persV (V : MV) (p : Nat) : Prop := ∃ kd n cm : Nat, kd ≤ 4 ∧ n ≤ 7 ∧ cm ≤ 10 ∧ V 18 p = nI kd ∧ V 19 p = nI n ∧ V 20 p = nI cm ∧ (kd < 2 → n = 0) ∧ (kd = 2 → n ≤ 5) ∧ ∀ c, c < 6 → ∃ z, z ≤ 10 ∧ V 22 (6 * p + c) = nI z
def keptV (g : GS) (V : MV) (nC : Nat) : Prop := isB (V 17 15) ∧ (¬ V 17 15 = 0 → ∃ kM kC : Nat, kM ≤ g.2.1 ∧ kC ≤ nC ∧ V 17 16 = nI kM ∧ V 17 17 = nI kC ∧ ∀ p, p < kM → (∃ cm, cm ≤ 10 ∧ V 29 p = nI cm) ∧ ∀ c, c < kC → ∃ z, z ≤ 10 ∧ V 30 (6 * p + c) = nI z)
def VOK (g : GS) (V : MV) (nC len : Nat) : Prop :=
  (g.2.1 ≤ 8 ∧ g.2.2 ≤ 6 ∧ nC ≤ 6 ∧ len ≤ 20 ∧ (0 < nC → 0 < g.2.1)) ∧
  (V 17 7 = nI g.2.2 ∧ V 17 0 = nI g.2.1 ∧ V 17 4 = nI nC ∧ V 17 13 = nI len) ∧
  (∀ r, r < g.2.2 → ruleV V r) ∧ (∀ p, p < g.2.1 → persV V p) ∧ (∀ c, c < nC → ∃ f, f < g.2.1 ∧ V 21 c = nI f) ∧
  (∀ i, i < len → ∃ z, 1 ≤ z ∧ z ≤ 126 ∧ V 28 i = nI z) ∧ keptV g V nC ∧ ∀ p c, g.2.1 ≤ p → p < 8 → c < 6 → V 22 (6 * p + c) = 0
def persX (g : GS) (I : MI) (V : MV) (p : Nat) : Prop := I 40 p 0 = nI p ∧ I 40 p 3 = V 20 p ∧ g.1 p = kcOf (V 18 p) ∧ I 40 p 6 = xOf (V 18 p) (V 19 p) ∧ (∀ c, c < 6 → I 41 p c = V 22 (6 * p + c)) ∧
  (V 17 15 = 0 → I 40 p 4 = -1) ∧ (¬ V 17 15 = 0 → (p < (V 17 16).toNatClampNeg → I 40 p 4 = V 29 p ∧ I 40 p 5 = V 17 17 ∧ ∀ c, c < (V 17 17).toNatClampNeg → I 42 p c = V 30 (6 * p + c)) ∧ (¬ p < (V 17 16).toNatClampNeg → I 40 p 4 = -1))
def RX (g : GS) (I : MI) (V : MV) (nC len : Nat) : Prop :=
  (I 0 0 9 = nI g.2.2 ∧ I 0 0 10 = nI g.2.1 ∧ I 0 0 11 = nI nC ∧ I 0 0 12 = V 17 15 ∧ I 1 0 1 = nI len) ∧
  (∀ r, r < g.2.2 → I 43 r 0 = V 23 r ∧ I 43 r 1 = V 24 r ∧ I 43 r 2 = V 25 r ∧ I 43 r 3 = V 26 r ∧ I 43 r 4 = V 27 r) ∧
  (∀ p, p < g.2.1 → persX g I V p) ∧ (∀ c, c < nC → I 5 0 c = V 21 c) ∧ ∀ i, i < len → I 2 0 i = V 28 i
/-- the class's and the model's cells both hold V -/
def St (g : GS) (V : MV) (nC len : Nat) (I : MI) : Prop := mview I = V ∧ RX g I V nC len
def Inv (g : GS) (I : MI) (_ : MJ) : Prop := ∃ (V : MV) (nC len : Nat), VOK g V nC len ∧ St g V nC len I
theorem St.inv {g : GS} {V : MV} {nC len : Nat} {I : MI} {J : MJ} (hV : VOK g V nC len) (h : St g V nC len I) : Inv g I J := ⟨V, nC, len, hV, h⟩
theorem inv00 : Inv g00 I00 J00 := by
  refine ⟨fun _ _ => 0, 0, 0, ⟨by decide, ⟨rfl, rfl, rfl, rfl⟩, fun r h => absurd h (Nat.not_lt_zero r), fun r h => absurd h (Nat.not_lt_zero r), fun r h => absurd h (Nat.not_lt_zero r), fun r h => absurd h (Nat.not_lt_zero r), ⟨Or.inl rfl, fun h => absurd rfl h⟩, fun _ _ _ _ _ => rfl⟩, ?_, ⟨rfl, rfl, rfl, rfl, rfl⟩, fun r h => absurd h (Nat.not_lt_zero r), fun r h => absurd h (Nat.not_lt_zero r), fun r h => absurd h (Nat.not_lt_zero r), fun r h => absurd h (Nat.not_lt_zero r)⟩
  funext k j
  unfold mview I00
  split <;> rfl
section StL
variable {g : GS} {V : MV} {nC len : Nat} {I : MI}
theorem mv_at (h : mview I = V) {k : Nat} (j : Nat) (hk : 18 ≤ k ∧ k < 33) : I k 0 j = V k j := by
  rw [← h]
  unfold mview
  rw [if_pos (Or.inl hk)]
theorem mv_17 (h : mview I = V) {j : Nat} (hj : j < 20) : I 17 0 j = V 17 j := by
  rw [← h]
  unfold mview
  rw [if_pos (Or.inr ⟨rfl, hj⟩)]
theorem RX_of {I' : MI} (h : RX g I V nC len) (e : ∀ k p, k = 0 ∨ k = 1 ∨ k = 2 ∨ k = 5 ∨ k = 40 ∨ k = 41 ∨ k = 42 ∨ k = 43 → I' k p = I k p) : RX g I' V nC len := by
  have e0 := e 0 0 (by omega)
  have e1 := e 1 0 (by omega)
  have e2 := e 2 0 (by omega)
  have e5 := e 5 0 (by omega)
  unfold RX persX at *
  rw [e0, e1, e2, e5]
  refine ⟨h.1, fun r hr => ?_, fun p hp => ?_, h.2.2.2⟩
  · rw [e 43 r (by omega)]; exact h.2.1 r hr
  · rw [e 40 p (by omega), e 41 p (by omega), e 42 p (by omega)]; exact h.2.2.1 p hp
theorem mview_of {I' : MI} (e : ∀ k j, (18 ≤ k ∧ k < 33) ∨ (k = 17 ∧ j < 20) → I' k 0 j = I k 0 j) : mview I' = mview I := by
  funext k j
  unfold mview
  by_cases h : (18 ≤ k ∧ k < 33) ∨ (k = 17 ∧ j < 20)
  · rw [if_pos h, if_pos h, e k j h]
  · rw [if_neg h, if_neg h]
/-- a change of the class's own scratch cells -/
theorem St.x (h : St g V nC len I) {k p : Nat} {f : Nat → Int32} (hk : 6 ≤ k ∧ k ≤ 14) : St g V nC len (u3 I k p f) := by
  refine ⟨?_, RX_of h.2 (fun a b ha => u3_ne I f (by omega))⟩
  rw [← h.1]
  exact mview_of (fun a j ha => by rw [u3_ne I f (by omega)])
/-- a change of the model's tastes -/
theorem St.m33 (h : St g V nC len I) {p : Nat} {f : Nat → Int32} : St g V nC len (u3 I 33 p f) := by
  refine ⟨?_, RX_of h.2 (fun a b ha => u3_ne I f (by omega))⟩
  rw [← h.1]
  exact mview_of (fun a j ha => by rw [u3_ne I f (by omega)])
/-- a change of the model's scratch fields -/
theorem St.m17 (h : St g V nC len I) {j : Nat} {v : Int32} (hj : 20 ≤ j) : St g V nC len (u3 I 17 0 (upd (I 17 0) j v)) := by
  refine ⟨?_, RX_of h.2 (fun a b ha => u3_ne I _ (by omega))⟩
  rw [← h.1]
  refine mview_of (fun a i ha => ?_)
  by_cases e : a = 17
  · subst e
    rw [u3_same, pk_un (by omega)]
  · rw [u3_ne I _ (by omega)]
end StL
