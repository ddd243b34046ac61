/-- Arrays.fill over a long array of the world: ka its cell, n its length -/
def wJ7_fill_d0a16 (_ : GS) (ka n : Nat) (v : Int64) (I : MI) (J : MJ) (Q : MI → MJ → Prop) : Prop := Q I (u3 J ka 0 (fun t => if t < n then v else J ka 0 t))
theorem mbJ7_fill_d0a16 : MB yJ7_fill_d0a16 cJ7_fill_d0a16 5 none 2 := ⟨tw594, tw15, ⟨by decide, by decide⟩, by decide +kernel, by decide +kernel⟩
theorem fill_eq {J : MJ} {ka i n : Nat} {v : Int64} (h : i < n) : u3 (u3 J ka 0 (vp_updL (J ka 0) i v)) ka 0 (fun t => if i + 1 ≤ t ∧ t < n then v else u3 J ka 0 (vp_updL (J ka 0) i v) ka 0 t) = u3 J ka 0 (fun t => if i ≤ t ∧ t < n then v else J ka 0 t) := by
  funext a b t
  rw [u3_same]
  simp only [u3]
  by_cases hab : a = ka ∧ b = 0
  · rw [if_pos hab, if_pos hab]
    by_cases h1 : t = i
    · subst h1
      have h2 : ¬ (t + 1 ≤ t ∧ t < n) := by omega
      have h3 : t ≤ t ∧ t < n := by omega
      rw [if_neg h2, if_pos h3, pk_uLs]
    · rw [pk_uLn h1]
      by_cases h2 : i + 1 ≤ t ∧ t < n
      · rw [if_pos h2, if_pos (by omega)]
      · rw [if_neg h2, if_neg (by omega)]
  · rw [if_neg hab, if_neg hab, if_neg hab]
set_option maxHeartbeats 4000000 in
set_option maxRecDepth 100000 in
theorem fill_loop {p : Program} {l : Launch} {e : Env} {s : State} {m : MethodId} {args : Array Value} {below : List Frame} {meth : Method} {c : Code} {E : WE} {Q : MI → MJ → Prop} (X : Cx E cJ7_fill_d0a16 5 RJ7 none p s m args c meth) {ka n : Nat} {v : Int64} {I : MI} (hn : n ≤ 100) (hc : (ka, 0) ∈ wStat) (he : ∀ i j, contR E i j ka 0 = .inl (wc E 2, n, .inr (.inl j))) :
    ∀ (d i : Nat) (J : MJ) (H : Heap) (locs : List Loc) (ls : Array Slot), i + d = n → Q I (u3 J ka 0 (fun t => if i ≤ t ∧ t < n then v else J ka 0 t)) → Wd E I J s H locs → lv_has ls 5 [(3, .int (nI i)), (0, .ref (wa E ka 0)), (1, .long v), (4, .int (nI n))] →
      W p l e (rmO 0 0) s m args below meth c H locs 0 0 (MQ below (QV E Q) args s 0 0 (AA E)) (F0 m 6 ls []) := by
  have hx := X.1.1
  have hb := X.1.2.1
  intro d
  induction d with
  | zero =>
    intro i J H locs ls hi h hW hl
    have hi : i = n := by omega
    subst hi
    refine lv_iload_n hx hb dJ7_fill_d0a16_6 rfl (lv_at hl 0 rfl) ?_
    refine lv_iload hx hb dJ7_fill_d0a16_7 (lv_at hl 3 rfl) ?_
    refine lv_icmp_ge (tgt := 22) hx hb dJ7_fill_d0a16_9 (by decide) (fun c9 => ?_) (fun c9 => ?_)
    · refine e_v X hW ?_ dJ7_fill_d0a16_22
      have e0 : u3 J ka 0 (fun t => if i ≤ t ∧ t < i then v else J ka 0 t) = J := by
        funext a b t
        simp only [u3]
        by_cases hab : a = ka ∧ b = 0
        · rw [if_pos hab, if_neg (by omega), hab.1, hab.2]
        · rw [if_neg hab]
      rw [e0] at h
      exact h
    · exact absurd (nI_le (Nat.le_refl i) (by omega)) c9
  | succ d ih =>
    intro i J H locs ls hi h hW hl
    refine lv_iload_n hx hb dJ7_fill_d0a16_6 rfl (lv_at hl 0 rfl) ?_
    refine lv_iload hx hb dJ7_fill_d0a16_7 (lv_at hl 3 rfl) ?_
    refine lv_icmp_ge (tgt := 22) hx hb dJ7_fill_d0a16_9 (by decide) (fun c9 => ?_) (fun c9 => ?_)
    · exact absurd c9 (nI_ge (by omega) (by omega))
    · refine lv_aload_n hx hb dJ7_fill_d0a16_12 rfl (lv_at hl 1 rfl) ?_
      refine lv_iload_n hx hb dJ7_fill_d0a16_13 rfl (lv_at hl 0 rfl) ?_
      refine lv_lload_n hx hb dJ7_fill_d0a16_14 rfl (lv_at hl 2 rfl) ?_
      refine r_last X hW (hW.2.2.2.1 _ hc) (he _) (vp_in_nI (by omega) (by omega)) dJ7_fill_d0a16_15 (fun H locs hW => ?_)
      refine lv_iinc (v := nI (i + 1)) (lv' := [(3, .int (nI (i + 1))), (0, .ref (wa E ka 0)), (1, .long v), (4, .int (nI n))]) hx hb dJ7_fill_d0a16_16 hl (k := 0) rfl (nI_1 i) (by decide) rfl (fun ls hl => ?_)
      refine lv_goto (tgt := 6) hx hb dJ7_fill_d0a16_19 (by decide) ?_
      refine ih (i + 1) _ _ _ ls (by omega) ?_ hW hl
      rw [nI_clamp (by omega), fill_eq (by omega)]
      exact h
set_option maxHeartbeats 4000000 in
set_option maxRecDepth 100000 in
theorem kJ7_fill_d0a16 {l : Launch} {E : WE} {ka n : Nat} {v : Int64} {I : MI} {J : MJ} {Q : MI → MJ → Prop} (hc : (ka, 0) ∈ wStat) (he : ∀ i j, contR E i j ka 0 = .inl (wc E 2, n, .inr (.inl j))) (h : wJ7_fill_d0a16 (wg E) ka n v I J Q) (hn : n ≤ 100 := by decide) : Met l yJ7_fill_d0a16 (wsM yJ7_fill_d0a16 cJ7_fill_d0a16 5 none) (rmO 0 0) (va_Pc [.ref (wa E ka 0), .long v] (Wp E I J)) (QV E Q) 0 0 (AA E) := by
  refine m_entry mbJ7_fill_d0a16 (Nat.le_of_ble_eq_true rfl) ?_
  intro p e s m args below meth c X ls hW hl
  have X : Cx E cJ7_fill_d0a16 5 RJ7 none p s m args c meth := X
  have hx := X.1.1
  have hb := X.1.2.1
  have hl : lv_has ls 5 [(0, .ref (wa E ka 0)), (1, .long v)] := hl
  refine lv_iconst (v := 0) hx hb dJ7_fill_d0a16_0 (by decide) ?_
  refine lv_istore_n (lv' := [(3, .int 0), (0, .ref (wa E ka 0)), (1, .long v)]) hx hb dJ7_fill_d0a16_1 rfl hl (by decide) rfl (fun ls hl => ?_)
  refine lv_aload_n hx hb dJ7_fill_d0a16_2 rfl (lv_at hl 1 rfl) ?_
  obtain ⟨q0, -, hq⟩ := ws_at I J (hW.2.2.2.1 _ hc)
  have hq2 : (wsW E I J)[q0]? = some (wa E ka 0, .inl (wc E 2, n, .inr (.inl (J ka 0)))) := by rw [hq]; exact congrArg (fun z => some (wa E ka 0, z)) (he _ _)
  refine va_alen (D := wD E) hx hb X.2.1.1 hW.1 q0 2 hq2 (ty := .long) rfl (v := nI n) rfl dJ7_fill_d0a16_3 ?_
  refine lv_istore (lv' := [(4, .int (nI n)), (3, .int 0), (0, .ref (wa E ka 0)), (1, .long v)]) hx hb dJ7_fill_d0a16_4 hl (by decide) rfl (fun ls hl => ?_)
  refine fill_loop X hn hc he n 0 J _ _ ls (by omega) ?_ hW (lv_sub hl [1, 2, 3, 0] rfl)
  simp only [Nat.zero_le, true_and]
  exact h
