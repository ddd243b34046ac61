section ToRule
variable {g : GS} {V : MV} {nC len : Nat} {I : MI} {J : MJ}
theorem sX_codeAt {k : Nat} {Q : Int32 → MI → MJ → Prop} (hV : VOK g V nC len) (hS : St g V nC len I) (hk : k < len) (h : Q (V 28 k) I J) : wX4_codeAt g (nI k) I J Q := by
  have hl : len ≤ 20 := hV.1.2.2.2.1
  unfold wX4_codeAt
  rw [hS.2.1.2.2.2.2, cl_nI (by omega), hS.2.2.2.2.2 k hk]
  exact br_f (nI_pos (by omega)) (br_f (nI_ge hk (by omega)) ⟨vp_in_nI (by omega) (by decide), h⟩)
theorem dig_ne {a : Nat} (h : a ≤ 9) : ¬ nI (48 + a) = 113 := fun k => absurd ((nI_eq (b := 113) (by omega) (by decide)).mp k) (by omega)
theorem num_step {n a : Nat} : 10 * nI n + nI (48 + a) - 48 = nI (10 * n + a) := by
  rw [show (10 : Int32) = nI 10 from rfl, pk_mul, nI_add, show (48 : Int32) = nI 48 from rfl, pk_sub (by omega)]
  congr 1
  omega
theorem sX_toRule {f : Int32 × Int32 × Int32 × Int32} {ra : Nat} {Q : Int32 → Int32 → Int32 → Int32 → Int32 → MI → MJ → Prop} (hV : VOK g V nC len) (hS : St g V nC len I) (hP : PI (V 28) f len 8 ra) (h : Q f.1 (nI ra) f.2.1 f.2.2.1 f.2.2.2 I J) : wX4_toRule g I J Q := by
  have hl : len ≤ 20 := hV.1.2.2.2.1
  have e1 : I 1 0 1 = nI len := hS.2.1.2.2.2.2
  rcases hP with hP | hP | hP | hP | hP | hP | hP | hP | hP
  all_goals try exact absurd hP.1 (by decide)
  obtain ⟨-, q, d, bN, b3, b4, b5, b6, b7, b8⟩ := hP
  have hlen : q + 3 ≤ len := by rcases b7 with ⟨y, -⟩ | ⟨y, -⟩ <;> omega
  have tail : ∀ v : Int32, (V 28 0 = nI 98 → v = f.1 ∧ (0 : Int32) = nI ra) → (¬ V 28 0 = nI 98 → (0 : Int32) = f.1 ∧ v = nI ra) → wX4_toRule_b44 g Q (nI q) v I J := by
    intro v hA hB
    have fin : ∀ (t : Int32), (t = 0 → (0 : Int32) = f.1 ∧ v = nI ra) → (¬ t = 0 → v = f.1 ∧ (0 : Int32) = nI ra) → wX4_toRule_b59 g Q (nI q) v t I J := by
      intro t t1 t2
      unfold wX4_toRule_b59
      rw [nI_1, show nI q + 2 = nI (q + 2) from nI_add q 2]
      refine sX_codeAt hV hS (by omega) (sX_codeAt hV hS (by omega) ?_)
      have qd : V 28 (q + 1) - 48 = f.2.1 := by
        rw [b5, b6]
        exact (pk_sub (a := 48 + d) (b := 48) (by omega)).trans (by rw [show 48 + d - 48 = d by omega])
      have last : ∀ tw : Int32, tw = f.2.2.1 → isB tw → wX4_toRule_b89 g Q v t (V 28 (q + 1) - 48) tw I J := by
        intro tw htw hB2
        unfold wX4_toRule_b89
        rw [e1, show nI len - 1 = nI (len - 1) from pk_sub (b := 1) (by omega)]
        refine sX_codeAt hV hS (by omega) ?_
        have out : ∀ o : Int32, o = f.2.2.2 → isB o → wX4_toRule_b111 g Q v t (V 28 (q + 1) - 48) tw o I J := by
          intro o ho hB3
          unfold wX4_toRule_b111
          refine ⟨hB2, hB3, ?_⟩
          rw [qd, htw, ho]
          by_cases ht : t = 0
          · rw [if_pos ht, if_pos ht, (t1 ht).1, (t1 ht).2]; exact h
          · rw [if_neg ht, if_neg ht, (t2 ht).1, (t2 ht).2]; exact h
        by_cases ho : V 28 (len - 1) = 99
        · exact br_f' ho (out 1 (by rw [b8, b2i_t ho]) (Or.inr rfl))
        · exact br_t' ho (out 0 (by rw [b8, b2i_f ho]) (Or.inl rfl))
      rcases b7 with ⟨y1, y2, y3⟩ | ⟨y1, y2, y3, y4⟩
      · have : ¬ V 28 (q + 2) = 116 := by
          rcases y3 with y | y <;> rw [y] <;> decide
        exact br_t' this (last 0 y2.symm (Or.inl rfl))
      · exact br_f' y2 (last 1 y3.symm (Or.inr rfl))
    unfold wX4_toRule_b44
    refine sX_codeAt (k := 0) hV hS (by omega) ?_
    by_cases e : V 28 0 = nI 98
    · exact br_f' e (fin 1 (fun k => absurd k (by decide)) (fun _ => hA e))
    · exact br_t' e (fin 0 (fun _ => hB e) (fun k => absurd rfl k))
  have rd : ∀ {k : Nat}, k < len → I 2 0 (Int32.toNatClampNeg (nI k)) = V 28 k := fun hk => by rw [cl_nI (by omega)]; exact hS.2.2.2.2.2 _ hk
  have stepN : ∀ {n k a : Nat} {v : Int32}, k < len → a ≤ 9 → V 28 k = nI (48 + a) → wX4_toRule_b4 g Q n (nI (k + 1)) (nI (10 * tn v + a)) I J → v = nI (tn v) → wX4_toRule_b4 g Q (n + 1) (nI k) v I J := by
    intro n k a v hk ha eL hh hv
    unfold wX4_toRule_b4
    rw [e1, rd hk, eL, nI_1]
    refine br_f (nI_ge hk (by omega)) ⟨vp_in_nI (by omega) (by decide), br_f (dig_ne ha) ⟨vp_in_nI (by omega) (by decide), ?_⟩⟩
    rw [hv, num_step]
    exact hh
  have stop : ∀ {n : Nat} {v : Int32}, wX4_toRule_b44 g Q (nI q) v I J → wX4_toRule_b4 g Q (n + 1) (nI q) v I J := by
    intro n v hh
    unfold wX4_toRule_b4
    rw [e1, rd (show q < len by omega), b3]
    exact br_f (nI_ge (by omega) (by omega)) ⟨vp_in_nI (by omega) (by decide), br_t rfl hh⟩
  refine ⟨4, ?_⟩
  rcases bN with ⟨rfl, c1, c2, a, c3, c4, c5, c6⟩ | ⟨rfl, c1, c2, c3, c4, c5⟩ | ⟨rfl, c1, c2, a, b, c3, c4, c5, c6, c7, c8, c9⟩
  · refine stepN (k := 1) (a := a) (v := 0) (by omega) (by omega) c5 (stop (tail _ (fun _ => ⟨?_, by rw [c2]; rfl⟩) (fun k => absurd c1 k))) rfl
    rw [c6, show tn 0 = 0 from rfl]
    congr 1
    omega
  · refine stepN (k := 1) (a := ra) (v := 0) (by omega) (by omega) c5 (stop (tail _ (fun k => absurd (c1.symm.trans k) (by decide)) (fun _ => ⟨c2.symm, ?_⟩))) rfl
    rw [show tn 0 = 0 from rfl]
    congr 1
    omega
  · refine stepN (k := 1) (a := a) (v := 0) (by omega) (by omega) c3 (stepN (k := 2) (a := b) (by omega) c6 c4 (stop (tail _ (fun k => absurd (c1.symm.trans k) (by decide)) (fun _ => ⟨c2.symm, ?_⟩))) ?_) rfl
    · rw [show tn 0 = 0 from rfl, show tn (nI (10 * 0 + a)) = 10 * 0 + a from cl_nI (by omega)]
      congr 1
      omega
    · rw [show tn 0 = 0 from rfl, show tn (nI (10 * 0 + a)) = 10 * 0 + a from cl_nI (by omega)]
end ToRule
