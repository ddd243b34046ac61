def wX0_begin (g : GS) (q : Nat) (I : MI) (J : MJ) (Q : MI → MJ → Prop) : Prop :=
  Q (u3 I 10 q (upd (I 10 q) 1 0)) J
theorem mbX0_begin : MB yX0_begin cX0_begin 1 ((Option.none : Option FieldType)) 0 := ⟨tw664, tw5, ⟨by decide, by decide⟩, by decide +kernel, by decide +kernel⟩
set_option maxHeartbeats 4000000 in
set_option maxRecDepth 100000 in
theorem kX0_begin {l : Launch} {E : WE} {q : Nat} {I : MI} {J : MJ} {Q : MI → MJ → Prop} (hp_q : q < 2) (h : wX0_begin (wg E) q I J Q) : Met l yX0_begin (wsM yX0_begin cX0_begin 1 ((Option.none : Option FieldType))) (rmO 0 0) (va_Pc [.ref (wa E 10 q)] (Wp E I J)) (QV E Q) 0 0 (AA E) := by
  refine m_entry mbX0_begin (Nat.le_of_ble_eq_true rfl) ?_
  intro p e s m args below meth c X ls hW hl
  have X : Cx E cX0_begin 1 RX0 ((Option.none : Option FieldType)) p s m args c meth := X
  have hx := X.1.1
  have hb := X.1.2.1
  have hl : lv_has ls 1 [(0, .ref (wa E 10 q))] := hl
  refine lv_aload_n hx hb dX0_begin_0 rfl (lv_at hl 0 rfl) ?_
  refine lv_iconst (v := 0) hx hb dX0_begin_1 (by decide) ?_
  refine r_putI X hW 1 (okB hW hp_q).1 rfl rfl inX0 tyX0 tyX0_ok nmX0 (Nat.le_of_ble_eq_true rfl) tw85 rfl rfl rfl rfl (Nat.le_of_ble_eq_true rfl) rfl dX0_begin_2 (fun H locs hW => ?_)
  exact e_v X hW h dX0_begin_5
def wX0_seat (g : GS) (q : Nat) (a1 : Int32) (I : MI) (J : MJ) (Q : MI → MJ → Prop) : Prop :=
  ((8 ≤ (I 10 q 1) → Q I J) ∧ (¬ 8 ≤ (I 10 q 1) → vp_in (I 10 q 1) 8 ∧ (∀ I26 : MI, I26 = u3 (u3 I 11 q (upd (I 11 q) (Int32.toNatClampNeg (I 10 q 1)) a1)) 10 q (upd ((u3 I 11 q (upd (I 11 q) (Int32.toNatClampNeg (I 10 q 1)) a1)) 10 q) 1 (((u3 I 11 q (upd (I 11 q) (Int32.toNatClampNeg (I 10 q 1)) a1)) 10 q 1) + 1)) → Q I26 J)))
theorem mbX0_seat : MB yX0_seat cX0_seat 2 ((Option.none : Option FieldType)) 1 := ⟨tw668, tw5, ⟨by decide, by decide⟩, by decide +kernel, by decide +kernel⟩
set_option maxHeartbeats 4000000 in
set_option maxRecDepth 100000 in
theorem kX0_seat {l : Launch} {E : WE} {q : Nat} {a1 : Int32} {I : MI} {J : MJ} {Q : MI → MJ → Prop} (hp_q : q < 2) (h : wX0_seat (wg E) q a1 I J Q) : Met l yX0_seat (wsM yX0_seat cX0_seat 2 ((Option.none : Option FieldType))) (rmO 0 0) (va_Pc [.ref (wa E 10 q), .int a1] (Wp E I J)) (QV E Q) 0 0 (AA E) := by
  refine m_entry mbX0_seat (Nat.le_of_ble_eq_true rfl) ?_
  intro p e s m args below meth c X ls hW hl
  have X : Cx E cX0_seat 2 RX0 ((Option.none : Option FieldType)) p s m args c meth := X
  have hx := X.1.1
  have hb := X.1.2.1
  have hl : lv_has ls 2 [(0, .ref (wa E 10 q)), (1, .int a1)] := hl
  refine lv_aload_n hx hb dX0_seat_0 rfl (lv_at hl 0 rfl) ?_
  refine r_get X hW 1 (okB hW hp_q).1 rfl rfl inX0 (Nat.le_of_ble_eq_true rfl) tw85 rfl dX0_seat_1 ?_
  refine lv_bipush (v := 8) hx hb dX0_seat_4 (by decide) ?_
  refine lv_icmp_ge (tgt := 29) hx hb dX0_seat_6 (by decide) (fun c6 => ?_) (fun c6 => ?_)
  · have h := h.1 c6
    exact e_v X hW h dX0_seat_29
  · have h := h.2 c6
    refine lv_aload_n hx hb dX0_seat_9 rfl (lv_at hl 0 rfl) ?_
    refine r_get X hW 0 (okB hW hp_q).1 rfl rfl inX0 (Nat.le_of_ble_eq_true rfl) tw84 rfl dX0_seat_10 ?_
    refine lv_aload_n hx hb dX0_seat_13 rfl (lv_at hl 0 rfl) ?_
    refine r_get X hW 1 (okB hW hp_q).1 rfl rfl inX0 (Nat.le_of_ble_eq_true rfl) tw85 rfl dX0_seat_14 ?_
    refine lv_iload_n hx hb dX0_seat_17 rfl (lv_at hl 1 rfl) ?_
    refine r_iast X hW (okB hW hp_q).2 (fun _ => rfl) h.1 dX0_seat_18 (fun H locs hW => ?_)
    have h := h.2
    refine lv_aload_n hx hb dX0_seat_19 rfl (lv_at hl 0 rfl) ?_
    refine lv_dup hx hb dX0_seat_20 rfl ?_
    refine r_get X hW 1 (okB hW hp_q).1 rfl rfl inX0 (Nat.le_of_ble_eq_true rfl) tw85 rfl dX0_seat_21 ?_
    refine lv_iconst (v := 1) hx hb dX0_seat_24 (by decide) ?_
    refine lv_iadd hx hb dX0_seat_25 ?_
    refine r_putI X hW 1 (okB hW hp_q).1 rfl rfl inX0 tyX0 tyX0_ok nmX0 (Nat.le_of_ble_eq_true rfl) tw85 rfl rfl rfl rfl (Nat.le_of_ble_eq_true rfl) rfl dX0_seat_26 (fun H locs hW => ?_)
    obtain ⟨I26, eI26⟩ : ∃ z : MI, z = u3 (u3 I 11 q (upd (I 11 q) (Int32.toNatClampNeg (I 10 q 1)) a1)) 10 q (upd ((u3 I 11 q (upd (I 11 q) (Int32.toNatClampNeg (I 10 q 1)) a1)) 10 q) 1 (((u3 I 11 q (upd (I 11 q) (Int32.toNatClampNeg (I 10 q 1)) a1)) 10 q 1) + 1)) := ⟨_, rfl⟩
    rw [← eI26] at hW
    have h := h I26 eI26
    exact e_v X hW h dX0_seat_29
def wX0_drawnTenth (g : GS) (a0 : Int32) (I : MI) (J : MJ) (Q : Int32 → MI → MJ → Prop) : Prop :=
  Q ((a0 / 65536) - (a0 / 65536) / 10 * 10) I J
theorem mbX0_drawnTenth : MB yX0_drawnTenth cX0_drawnTenth 1 ((Option.some FieldType.int)) 1 := ⟨tw685, tw5, ⟨by decide, by decide⟩, by decide +kernel, by decide +kernel⟩
set_option maxHeartbeats 4000000 in
set_option maxRecDepth 100000 in
theorem kX0_drawnTenth {l : Launch} {E : WE} {a0 : Int32} {I : MI} {J : MJ} {Q : Int32 → MI → MJ → Prop} (h : wX0_drawnTenth (wg E) a0 I J Q) : Met l yX0_drawnTenth (wsM yX0_drawnTenth cX0_drawnTenth 1 ((Option.some FieldType.int))) (rmO 0 0) (va_Pc [.int a0] (Wp E I J)) (QI E Q) 0 0 (AA E) := by
  refine m_entry mbX0_drawnTenth (Nat.le_of_ble_eq_true rfl) ?_
  intro p e s m args below meth c X ls hW hl
  have X : Cx E cX0_drawnTenth 1 RX0 ((Option.some FieldType.int)) p s m args c meth := X
  have hx := X.1.1
  have hb := X.1.2.1
  have hl : lv_has ls 1 [(0, .int a0)] := hl
  refine lv_iload_n hx hb dX0_drawnTenth_0 rfl (lv_at hl 0 rfl) ?_
  refine lv_ldc hx hb X.1.2.2.2.1 (X.1.2.2.2.2 _ tw686) dX0_drawnTenth_1 ?_
  refine lv_idiv hx hb dX0_drawnTenth_3 (by decide) ?_
  refine lv_bipush (v := 10) hx hb dX0_drawnTenth_4 (by decide) ?_
  refine lv_irem hx hb dX0_drawnTenth_6 (by decide) ?_
  exact e_i X hW h dX0_drawnTenth_7
def wX0_nextSeed (g : GS) (a0 : Int32) (I : MI) (J : MJ) (Q : Int32 → MI → MJ → Prop) : Prop :=
  Q (((1103515245 * a0) + 12345) &&& 2147483647) I J
theorem mbX0_nextSeed : MB yX0_nextSeed cX0_nextSeed 1 ((Option.some FieldType.int)) 1 := ⟨tw680, tw5, ⟨by decide, by decide⟩, by decide +kernel, by decide +kernel⟩
set_option maxHeartbeats 4000000 in
set_option maxRecDepth 100000 in
theorem kX0_nextSeed {l : Launch} {E : WE} {a0 : Int32} {I : MI} {J : MJ} {Q : Int32 → MI → MJ → Prop} (h : wX0_nextSeed (wg E) a0 I J Q) : Met l yX0_nextSeed (wsM yX0_nextSeed cX0_nextSeed 1 ((Option.some FieldType.int))) (rmO 0 0) (va_Pc [.int a0] (Wp E I J)) (QI E Q) 0 0 (AA E) := by
  refine m_entry mbX0_nextSeed (Nat.le_of_ble_eq_true rfl) ?_
  intro p e s m args below meth c X ls hW hl
  have X : Cx E cX0_nextSeed 1 RX0 ((Option.some FieldType.int)) p s m args c meth := X
  have hx := X.1.1
  have hb := X.1.2.1
  have hl : lv_has ls 1 [(0, .int a0)] := hl
  refine lv_ldc hx hb X.1.2.2.2.1 (X.1.2.2.2.2 _ tw681) dX0_nextSeed_0 ?_
  refine lv_iload_n hx hb dX0_nextSeed_2 rfl (lv_at hl 0 rfl) ?_
  refine lv_imul hx hb dX0_nextSeed_3 ?_
  refine lv_sipush (v := 12345) hx hb dX0_nextSeed_4 (by decide) ?_
  refine lv_iadd hx hb dX0_nextSeed_7 ?_
  refine lv_ldc hx hb X.1.2.2.2.1 (X.1.2.2.2.2 _ tw682) dX0_nextSeed_8 ?_
  refine lv_iand hx hb dX0_nextSeed_10 ?_
  exact e_i X hW h dX0_nextSeed_11
def wX0_putBalls_b52 (g : GS) (ko7 : Nat → Int32 → MI → MJ → Prop) (Q : MI → MJ → Prop) (v0 : Nat) (v1 : Int32) (I : MI) (J : MJ) : Prop :=
  ko7 v0 (v1 + 1) I J
set_option maxHeartbeats 4000000 in
set_option maxRecDepth 100000 in
theorem bX0_putBalls_52 {p : Program} {l : Launch} {e : Env} {s : State} {m : MethodId} {args : Array Value} {below : List Frame} {meth : Method} {c : Code} {E : WE} {Q : MI → MJ → Prop} {ko7 : Nat → Int32 → MI → MJ → Prop} (X : Cx E cX0_putBalls 2 RX0 ((Option.none : Option FieldType)) p s m args c meth)
    (hk7 : ∀ (v0 : Nat) (v1 : Int32) (I : MI) (J : MJ) (H : Heap) (locs : List Loc) (ls : Array Slot), v0 < 2 → ko7 v0 v1 I J → Wd E I J s H locs → lv_has ls 2 [(0, .ref (wa E 10 v0)), (1, .int v1)] → W p l e (rmO 1 20) s m args below meth c H locs 0 0 (MQ below (QV E Q) args s 0 0 (AA E)) (F0 m 7 ls [])) : ∀ (v0 : Nat) (v1 : Int32) (I : MI) (J : MJ) (H : Heap) (locs : List Loc) (ls : Array Slot), v0 < 2 → wX0_putBalls_b52 (wg E) ko7 Q v0 v1 I J → Wd E I J s H locs → lv_has ls 2 [(0, .ref (wa E 10 v0)), (1, .int v1)] → W p l e (rmO 1 20) s m args below meth c H locs 0 0 (MQ below (QV E Q) args s 0 0 (AA E)) (F0 m 52 ls []) := by
  have hx := X.1.1
  have hb := X.1.2.1
  intro v0 v1 I J H locs ls hp_v0 h hW hl
  refine lv_iinc (v := v1 + 1) (lv' := [(1, .int (v1 + 1)), (0, .ref (wa E 10 v0))]) hx hb dX0_putBalls_52 hl (k := 1) rfl rfl (by decide) rfl (fun ls hl => ?_)
  refine lv_goto (tgt := 7) hx hb dX0_putBalls_55 (by decide) ?_
  exact hk7 v0 (v1 + 1) _ _ _ _ _ hp_v0 h hW (lv_sub hl [1, 0] rfl)
def wX0_putBalls_b7 (g : GS) (Q : MI → MJ → Prop) : Nat → Nat → Int32 → MI → MJ → Prop
  | 0, _, _, _, _ => False
  | n + 1, v0, v1, I, J => (((I 10 v0 1) ≤ v1 → Q I J) ∧ (¬ (I 10 v0 1) ≤ v1 → wX0_nextSeed g (I 10 v0 2) I J (fun r20 I20 J20 => wX0_drawnTenth g ((u3 I20 10 v0 (upd (I20 10 v0) 2 r20)) 10 v0 2) (u3 I20 10 v0 (upd (I20 10 v0) 2 r20)) J20 (fun r30 I30 J30 => vp_in v1 8 ∧ ((((I30 11 v0 (Int32.toNatClampNeg v1)) ≤ r30 → wX0_putBalls_b52 g (fun v0 v1 I J => wX0_putBalls_b7 g Q n v0 v1 I J) Q v0 v1 I30 J30) ∧ (¬ (I30 11 v0 (Int32.toNatClampNeg v1)) ≤ r30 → wX0_putBalls_b52 g (fun v0 v1 I J => wX0_putBalls_b7 g Q n v0 v1 I J) Q v0 v1 (u3 I30 10 v0 (upd (I30 10 v0) 3 ((I30 10 v0 3) + 1))) J30)))))))
set_option maxHeartbeats 4000000 in
set_option maxRecDepth 100000 in
theorem bX0_putBalls_7 {p : Program} {l : Launch} {e : Env} {s : State} {m : MethodId} {args : Array Value} {below : List Frame} {meth : Method} {c : Code} {E : WE} {Q : MI → MJ → Prop} (X : Cx E cX0_putBalls 2 RX0 ((Option.none : Option FieldType)) p s m args c meth) (n : Nat) : ∀ (v0 : Nat) (v1 : Int32) (I : MI) (J : MJ) (H : Heap) (locs : List Loc) (ls : Array Slot), v0 < 2 → wX0_putBalls_b7 (wg E) Q n v0 v1 I J → Wd E I J s H locs → lv_has ls 2 [(0, .ref (wa E 10 v0)), (1, .int v1)] → W p l e (rmO 1 20) s m args below meth c H locs 0 0 (MQ below (QV E Q) args s 0 0 (AA E)) (F0 m 7 ls []) := by
  have hx := X.1.1
  have hb := X.1.2.1
  induction n with
  | zero => intro v0 v1 I J H locs ls hp_v0 h hW hl; exact h.elim
  | succ n ih =>
    intro v0 v1 I J H locs ls hp_v0 h hW hl
    refine lv_iload_n hx hb dX0_putBalls_7 rfl (lv_at hl 1 rfl) ?_
    refine lv_aload_n hx hb dX0_putBalls_8 rfl (lv_at hl 0 rfl) ?_
    refine r_get X hW 1 (okB hW hp_v0).1 rfl rfl inX0 (Nat.le_of_ble_eq_true rfl) tw85 rfl dX0_putBalls_9 ?_
    refine lv_icmp_ge (tgt := 58) hx hb dX0_putBalls_12 (by decide) (fun c12 => ?_) (fun c12 => ?_)
    · have h := h.1 c12
      exact e_v X hW h dX0_putBalls_58
    · have h := h.2 c12
      refine lv_aload_n hx hb dX0_putBalls_15 rfl (lv_at hl 0 rfl) ?_
      refine lv_aload_n hx hb dX0_putBalls_16 rfl (lv_at hl 0 rfl) ?_
      refine r_get X hW 2 (okB hW hp_v0).1 rfl rfl inX0 (Nat.le_of_ble_eq_true rfl) tw87 rfl dX0_putBalls_17 ?_
      refine af_i hW (rn_S X hW (As := [.int (I 10 v0 2)]) (rest := [.ref (wa E 10 v0)]) (kX0_nextSeed h) mbX0_nextSeed tw678 tw679 rfl hl.1 (Nat.le_of_ble_eq_true rfl) ⟨(Nat.le_of_ble_eq_true rfl), (Nat.le_of_ble_eq_true rfl)⟩ dX0_putBalls_20) (fun r20 I20 J20 H locs h hW => ?_)
      refine r_putI X hW 2 (okB hW hp_v0).1 rfl rfl inX0 tyX0 tyX0_ok nmX0 (Nat.le_of_ble_eq_true rfl) tw87 rfl rfl rfl rfl (Nat.le_of_ble_eq_true rfl) rfl dX0_putBalls_23 (fun H locs hW => ?_)
      refine lv_aload_n hx hb dX0_putBalls_26 rfl (lv_at hl 0 rfl) ?_
      refine r_get X hW 2 (okB hW hp_v0).1 rfl rfl inX0 (Nat.le_of_ble_eq_true rfl) tw87 rfl dX0_putBalls_27 ?_
      refine af_i hW (rn_S X hW (As := [.int ((u3 I20 10 v0 (upd (I20 10 v0) 2 r20)) 10 v0 2)]) (rest := []) (kX0_drawnTenth h) mbX0_drawnTenth tw683 tw684 rfl hl.1 (Nat.le_of_ble_eq_true rfl) ⟨(Nat.le_of_ble_eq_true rfl), (Nat.le_of_ble_eq_true rfl)⟩ dX0_putBalls_30) (fun r30 I30 J30 H locs h hW => ?_)
      refine lv_aload_n hx hb dX0_putBalls_33 rfl (lv_at hl 0 rfl) ?_
      refine r_get X hW 0 (okB hW hp_v0).1 rfl rfl inX0 (Nat.le_of_ble_eq_true rfl) tw84 rfl dX0_putBalls_34 ?_
      refine lv_iload_n hx hb dX0_putBalls_37 rfl (lv_at hl 1 rfl) ?_
      refine r_iald X hW (okB hW hp_v0).2 rfl h.1 dX0_putBalls_38 ?_
      have h := h.2
      refine lv_icmp_ge (tgt := 52) hx hb dX0_putBalls_39 (by decide) (fun c39 => ?_) (fun c39 => ?_)
      · have h := h.1 c39
        exact bX0_putBalls_52 X ih v0 v1 _ _ _ _ _ hp_v0 h hW (lv_sub hl [0, 1] rfl)
      · have h := h.2 c39
        refine lv_aload_n hx hb dX0_putBalls_42 rfl (lv_at hl 0 rfl) ?_
        refine lv_dup hx hb dX0_putBalls_43 rfl ?_
        refine r_get X hW 3 (okB hW hp_v0).1 rfl rfl inX0 (Nat.le_of_ble_eq_true rfl) tw89 rfl dX0_putBalls_44 ?_
        refine lv_iconst (v := 1) hx hb dX0_putBalls_47 (by decide) ?_
        refine lv_iadd hx hb dX0_putBalls_48 ?_
        refine r_putI X hW 3 (okB hW hp_v0).1 rfl rfl inX0 tyX0 tyX0_ok nmX0 (Nat.le_of_ble_eq_true rfl) tw89 rfl rfl rfl rfl (Nat.le_of_ble_eq_true rfl) rfl dX0_putBalls_49 (fun H locs hW => ?_)
        exact bX0_putBalls_52 X ih v0 v1 _ _ _ _ _ hp_v0 h hW (lv_sub hl [0, 1] rfl)
def wX0_putBalls (g : GS) (q : Nat) (I : MI) (J : MJ) (Q : MI → MJ → Prop) : Prop :=
  ∃ n7, wX0_putBalls_b7 g Q n7 q 0 (u3 I 10 q (upd (I 10 q) 3 0)) J
theorem mbX0_putBalls : MB yX0_putBalls cX0_putBalls 2 ((Option.none : Option FieldType)) 0 := ⟨tw677, tw5, ⟨by decide, by decide⟩, by decide +kernel, by decide +kernel⟩
set_option maxHeartbeats 4000000 in
set_option maxRecDepth 100000 in
theorem kX0_putBalls {l : Launch} {E : WE} {q : Nat} {I : MI} {J : MJ} {Q : MI → MJ → Prop} (hp_q : q < 2) (h : wX0_putBalls (wg E) q I J Q) : Met l yX0_putBalls (wsM yX0_putBalls cX0_putBalls 2 ((Option.none : Option FieldType))) (rmO 1 20) (va_Pc [.ref (wa E 10 q)] (Wp E I J)) (QV E Q) 0 0 (AA E) := by
  refine m_entry mbX0_putBalls (Nat.le_of_ble_eq_true rfl) ?_
  intro p e s m args below meth c X ls hW hl
  have X : Cx E cX0_putBalls 2 RX0 ((Option.none : Option FieldType)) p s m args c meth := X
  have hx := X.1.1
  have hb := X.1.2.1
  have hl : lv_has ls 2 [(0, .ref (wa E 10 q))] := hl
  refine lv_aload_n hx hb dX0_putBalls_0 rfl (lv_at hl 0 rfl) ?_
  refine lv_iconst (v := 0) hx hb dX0_putBalls_1 (by decide) ?_
  refine r_putI X hW 3 (okB hW hp_q).1 rfl rfl inX0 tyX0 tyX0_ok nmX0 (Nat.le_of_ble_eq_true rfl) tw89 rfl rfl rfl rfl (Nat.le_of_ble_eq_true rfl) rfl dX0_putBalls_2 (fun H locs hW => ?_)
  refine lv_iconst (v := 0) hx hb dX0_putBalls_5 (by decide) ?_
  refine lv_istore_n (lv' := [(1, .int 0), (0, .ref (wa E 10 q))]) hx hb dX0_putBalls_6 rfl hl (by decide) rfl (fun ls hl => ?_)
  obtain ⟨n7, h⟩ := h
  exact bX0_putBalls_7 X n7 q 0 _ _ _ _ _ hp_q h hW (lv_sub hl [1, 0] rfl)
def wX6_hasQuorum (g : GS) (q : Nat) (a1 : Int32) (I : MI) (J : MJ) (Q : Int32 → MI → MJ → Prop) : Prop :=
  ((a1 ≤ 0 → Q 0 I J) ∧ (¬ a1 ≤ 0 → ((a1 < (I 43 q 2) → Q 0 I J) ∧ (¬ a1 < (I 43 q 2) → Q 1 I J))))
theorem mbX6_hasQuorum : MB yX6_hasQuorum cX6_hasQuorum 2 ((Option.some FieldType.boolean)) 1 := ⟨tw571, tw8, ⟨by decide, by decide⟩, by decide +kernel, by decide +kernel⟩
set_option maxHeartbeats 4000000 in
set_option maxRecDepth 100000 in
theorem kX6_hasQuorum {l : Launch} {E : WE} {q : Nat} {a1 : Int32} {I : MI} {J : MJ} {Q : Int32 → MI → MJ → Prop} (hp_q : q < (wg E).2.2) (h : wX6_hasQuorum (wg E) q a1 I J Q) : Met l yX6_hasQuorum (wsM yX6_hasQuorum cX6_hasQuorum 2 ((Option.some FieldType.boolean))) (rmO 0 0) (va_Pc [.ref (wa E 43 q), .int a1] (Wp E I J)) (QI E Q) 0 0 (AA E) := by
  refine m_entry mbX6_hasQuorum (Nat.le_of_ble_eq_true rfl) ?_
  intro p e s m args below meth c X ls hW hl
  have X : Cx E cX6_hasQuorum 2 RX6 ((Option.some FieldType.boolean)) p s m args c meth := X
  have hx := X.1.1
  have hb := X.1.2.1
  have hl : lv_has ls 2 [(0, .ref (wa E 43 q)), (1, .int a1)] := hl
  refine lv_iload_n hx hb dX6_hasQuorum_0 rfl (lv_at hl 1 rfl) ?_
  refine lv_if_le (tgt := 16) hx hb dX6_hasQuorum_1 (by decide) (fun c1 => ?_) (fun c1 => ?_)
  · have h := h.1 c1
    refine lv_iconst (v := 0) hx hb dX6_hasQuorum_16 (by decide) ?_
    exact e_z X hW rfl h dX6_hasQuorum_17
  · have h := h.2 c1
    refine lv_iload_n hx hb dX6_hasQuorum_4 rfl (lv_at hl 1 rfl) ?_
    refine lv_aload_n hx hb dX6_hasQuorum_5 rfl (lv_at hl 0 rfl) ?_
    refine r_get X hW 2 (okR hW hp_q) rfl rfl inX6 (Nat.le_of_ble_eq_true rfl) tw237 rfl dX6_hasQuorum_6 ?_
    refine lv_icmp_lt (tgt := 16) hx hb dX6_hasQuorum_9 (by decide) (fun c9 => ?_) (fun c9 => ?_)
    · have h := h.1 c9
      refine lv_iconst (v := 0) hx hb dX6_hasQuorum_16 (by decide) ?_
      exact e_z X hW rfl h dX6_hasQuorum_17
    · have h := h.2 c9
      refine lv_iconst (v := 1) hx hb dX6_hasQuorum_12 (by decide) ?_
      refine lv_goto (tgt := 17) hx hb dX6_hasQuorum_13 (by decide) ?_
      exact e_z X hW rfl h dX6_hasQuorum_17
def wX6_shutsOut (g : GS) (q : Nat) (a1 : Int32) (a2 : Int32) (I : MI) (J : MJ) (Q : Int32 → MI → MJ → Prop) : Prop :=
  (((I 43 q 1) ≤ 0 → ((a1 < (I 43 q 0) → Q 0 I J) ∧ (¬ a1 < (I 43 q 0) → Q 1 I J))) ∧ (¬ (I 43 q 1) ≤ 0 → ((((I 43 q 1) * a1) < a2 → Q 0 I J) ∧ (¬ ((I 43 q 1) * a1) < a2 → Q 1 I J))))
theorem mbX6_shutsOut : MB yX6_shutsOut cX6_shutsOut 3 ((Option.some FieldType.boolean)) 2 := ⟨tw575, tw8, ⟨by decide, by decide⟩, by decide +kernel, by decide +kernel⟩
set_option maxHeartbeats 4000000 in
set_option maxRecDepth 100000 in
theorem kX6_shutsOut {l : Launch} {E : WE} {q : Nat} {a1 : Int32} {a2 : Int32} {I : MI} {J : MJ} {Q : Int32 → MI → MJ → Prop} (hp_q : q < (wg E).2.2) (h : wX6_shutsOut (wg E) q a1 a2 I J Q) : Met l yX6_shutsOut (wsM yX6_shutsOut cX6_shutsOut 3 ((Option.some FieldType.boolean))) (rmO 0 0) (va_Pc [.ref (wa E 43 q), .int a1, .int a2] (Wp E I J)) (QI E Q) 0 0 (AA E) := by
  refine m_entry mbX6_shutsOut (Nat.le_of_ble_eq_true rfl) ?_
  intro p e s m args below meth c X ls hW hl
  have X : Cx E cX6_shutsOut 3 RX6 ((Option.some FieldType.boolean)) p s m args c meth := X
  have hx := X.1.1
  have hb := X.1.2.1
  have hl : lv_has ls 3 [(0, .ref (wa E 43 q)), (1, .int a1), (2, .int a2)] := hl
  refine lv_aload_n hx hb dX6_shutsOut_0 rfl (lv_at hl 0 rfl) ?_
  refine r_get X hW 1 (okR hW hp_q) rfl rfl inX6 (Nat.le_of_ble_eq_true rfl) tw236 rfl dX6_shutsOut_1 ?_
  refine lv_if_le (tgt := 25) hx hb dX6_shutsOut_4 (by decide) (fun c4 => ?_) (fun c4 => ?_)
  · have h := h.1 c4
    refine lv_iload_n hx hb dX6_shutsOut_25 rfl (lv_at hl 1 rfl) ?_
    refine lv_aload_n hx hb dX6_shutsOut_26 rfl (lv_at hl 0 rfl) ?_
    refine r_get X hW 0 (okR hW hp_q) rfl rfl inX6 (Nat.le_of_ble_eq_true rfl) tw235 rfl dX6_shutsOut_27 ?_
    refine lv_icmp_lt (tgt := 37) hx hb dX6_shutsOut_30 (by decide) (fun c30 => ?_) (fun c30 => ?_)
    · have h := h.1 c30
      refine lv_iconst (v := 0) hx hb dX6_shutsOut_37 (by decide) ?_
      exact e_z X hW rfl h dX6_shutsOut_38
    · have h := h.2 c30
      refine lv_iconst (v := 1) hx hb dX6_shutsOut_33 (by decide) ?_
      refine lv_goto (tgt := 38) hx hb dX6_shutsOut_34 (by decide) ?_
      exact e_z X hW rfl h dX6_shutsOut_38
  · have h := h.2 c4
    refine lv_aload_n hx hb dX6_shutsOut_7 rfl (lv_at hl 0 rfl) ?_
    refine r_get X hW 1 (okR hW hp_q) rfl rfl inX6 (Nat.le_of_ble_eq_true rfl) tw236 rfl dX6_shutsOut_8 ?_
    refine lv_iload_n hx hb dX6_shutsOut_11 rfl (lv_at hl 1 rfl) ?_
    refine lv_imul hx hb dX6_shutsOut_12 ?_
    refine lv_iload_n hx hb dX6_shutsOut_13 rfl (lv_at hl 2 rfl) ?_
    refine lv_icmp_lt (tgt := 21) hx hb dX6_shutsOut_14 (by decide) (fun c14 => ?_) (fun c14 => ?_)
    · have h := h.1 c14
      refine lv_iconst (v := 0) hx hb dX6_shutsOut_21 (by decide) ?_
      refine lv_goto (tgt := 38) hx hb dX6_shutsOut_22 (by decide) ?_
      exact e_z X hW rfl h dX6_shutsOut_38
    · have h := h.2 c14
      refine lv_iconst (v := 1) hx hb dX6_shutsOut_17 (by decide) ?_
      refine lv_goto (tgt := 38) hx hb dX6_shutsOut_18 (by decide) ?_
      exact e_z X hW rfl h dX6_shutsOut_38
def wX0_hold_b78 (g : GS) (Q : MI → MJ → Prop) (t0 : Int32) (t1 : Nat) (I : MI) (J : MJ) : Prop :=
  isB t0 ∧ (Q (u3 I 10 t1 (upd (I 10 t1) 4 t0)) J)
set_option maxHeartbeats 4000000 in
set_option maxRecDepth 100000 in
theorem bX0_hold_78 {p : Program} {l : Launch} {e : Env} {s : State} {m : MethodId} {args : Array Value} {below : List Frame} {meth : Method} {c : Code} {E : WE} {Q : MI → MJ → Prop} (X : Cx E cX0_hold 3 RX0 ((Option.none : Option FieldType)) p s m args c meth) : ∀ (t0 : Int32) (t1 : Nat) (I : MI) (J : MJ) (H : Heap) (locs : List Loc) (ls : Array Slot), t1 < 2 → wX0_hold_b78 (wg E) Q t0 t1 I J → Wd E I J s H locs → lv_has ls 3 [] → W p l e (rmO 2 41) s m args below meth c H locs 0 0 (MQ below (QV E Q) args s 0 0 (AA E)) (F0 m 78 ls [.int t0, .ref (wa E 10 t1)]) := by
  have hx := X.1.1
  have hb := X.1.2.1
  intro t0 t1 I J H locs ls hp_t1 h hW hl
  refine r_putI X hW 4 (okB hW hp_t1).1 rfl rfl inX0 tyX0 tyX0_ok nmX0 (Nat.le_of_ble_eq_true rfl) tw92 rfl rfl (isB_n h.1) (isB_f h.1) (Nat.le_of_ble_eq_true rfl) rfl dX0_hold_78 (fun H locs hW => ?_)
  have h := h.2
  exact e_v X hW h dX0_hold_81
def wX0_hold_b57 (g : GS) (Q : MI → MJ → Prop) (v0 : Nat) (v1 : Nat) (I : MI) (J : MJ) : Prop :=
  wX6_shutsOut g v1 (I 10 v0 3) (I 10 v0 1) I J (fun r67 I67 J67 => ((¬ r67 = 0 → wX0_hold_b78 g Q 0 v0 I67 J67) ∧ (r67 = 0 → wX0_hold_b78 g Q 1 v0 I67 J67)))
set_option maxHeartbeats 4000000 in
set_option maxRecDepth 100000 in
theorem bX0_hold_57 {p : Program} {l : Launch} {e : Env} {s : State} {m : MethodId} {args : Array Value} {below : List Frame} {meth : Method} {c : Code} {E : WE} {Q : MI → MJ → Prop} (X : Cx E cX0_hold 3 RX0 ((Option.none : Option FieldType)) p s m args c meth) : ∀ (v0 : Nat) (v1 : Nat) (I : MI) (J : MJ) (H : Heap) (locs : List Loc) (ls : Array Slot), v0 < 2 → v1 < (wg E).2.2 → wX0_hold_b57 (wg E) Q v0 v1 I J → Wd E I J s H locs → lv_has ls 3 [(0, .ref (wa E 10 v0)), (1, .ref (wa E 43 v1))] → W p l e (rmO 2 41) s m args below meth c H locs 0 0 (MQ below (QV E Q) args s 0 0 (AA E)) (F0 m 57 ls []) := by
  have hx := X.1.1
  have hb := X.1.2.1
  intro v0 v1 I J H locs ls hp_v0 hp_v1 h hW hl
  refine lv_aload_n hx hb dX0_hold_57 rfl (lv_at hl 0 rfl) ?_
  refine lv_aload_n hx hb dX0_hold_58 rfl (lv_at hl 1 rfl) ?_
  refine lv_aload_n hx hb dX0_hold_59 rfl (lv_at hl 0 rfl) ?_
  refine r_get X hW 3 (okB hW hp_v0).1 rfl rfl inX0 (Nat.le_of_ble_eq_true rfl) tw89 rfl dX0_hold_60 ?_
  refine lv_aload_n hx hb dX0_hold_63 rfl (lv_at hl 0 rfl) ?_
  refine r_get X hW 1 (okB hW hp_v0).1 rfl rfl inX0 (Nat.le_of_ble_eq_true rfl) tw85 rfl dX0_hold_64 ?_
  refine af_i hW (rn_V X hW (As := [.int (I 10 v0 3), .int (I 10 v0 1)]) (rest := [.ref (wa E 10 v0)]) (okR hW hp_v1) rfl rfl (kX6_shutsOut hp_v1 h) mbX6_shutsOut tw687 tw573 tw574 rfl hl.1 (Nat.le_of_ble_eq_true rfl) ⟨(Nat.le_of_ble_eq_true rfl), (Nat.le_of_ble_eq_true rfl)⟩ dX0_hold_67) (fun r67 I67 J67 H locs h hW => ?_)
  refine lv_if_ne (tgt := 77) hx hb dX0_hold_70 (by decide) (fun c70 => ?_) (fun c70 => ?_)
  · have h := h.1 c70
    refine lv_iconst (v := 0) hx hb dX0_hold_77 (by decide) ?_
    exact bX0_hold_78 X 0 v0 _ _ _ _ _ hp_v0 h hW (lv_sub hl [] rfl)
  · have h := h.2 c70
    refine lv_iconst (v := 1) hx hb dX0_hold_73 (by decide) ?_
    refine lv_goto (tgt := 78) hx hb dX0_hold_74 (by decide) ?_
    exact bX0_hold_78 X 1 v0 _ _ _ _ _ hp_v0 h hW (lv_sub hl [] rfl)
def wX0_hold (g : GS) (q : Nat) (a1 : Nat) (a2 : Int32) (I : MI) (J : MJ) (Q : MI → MJ → Prop) : Prop :=
  ∀ I12 : MI, I12 = u3 (u3 (u3 I 10 q (upd (I 10 q) 2 a2)) 10 q (upd ((u3 I 10 q (upd (I 10 q) 2 a2)) 10 q) 3 ((-1)))) 10 q (upd ((u3 (u3 I 10 q (upd (I 10 q) 2 a2)) 10 q (upd ((u3 I 10 q (upd (I 10 q) 2 a2)) 10 q) 3 ((-1)))) 10 q) 4 0) → wX6_hasQuorum g a1 (I12 10 q 1) I12 J (fun r20 I20 J20 => ((¬ r20 = 0 → wX0_putBalls g q I20 J20 (fun I28 J28 => (((I28 43 a1 3) = 0 → wX0_hold_b57 g Q q a1 I28 J28) ∧ (¬ (I28 43 a1 3) = 0 → wX6_shutsOut g a1 (I28 10 q 3) (I28 10 q 1) I28 J28 (fun r47 I47 J47 => ((r47 = 0 → wX0_hold_b57 g Q q a1 I47 J47) ∧ (¬ r47 = 0 → wX0_putBalls g q I47 J47 (fun I54 J54 => wX0_hold_b57 g Q q a1 I54 J54)))))))) ∧ (r20 = 0 → Q I20 J20)))
theorem mbX0_hold : MB yX0_hold cX0_hold 3 ((Option.none : Option FieldType)) 2 := ⟨tw672, tw5, ⟨by decide, by decide⟩, by decide +kernel, by decide +kernel⟩
set_option maxHeartbeats 4000000 in
set_option maxRecDepth 100000 in
theorem kX0_hold {l : Launch} {E : WE} {q : Nat} {a1 : Nat} {a2 : Int32} {I : MI} {J : MJ} {Q : MI → MJ → Prop} (hp_q : q < 2) (hp_a1 : a1 < (wg E).2.2) (h : wX0_hold (wg E) q a1 a2 I J Q) : Met l yX0_hold (wsM yX0_hold cX0_hold 3 ((Option.none : Option FieldType))) (rmO 2 41) (va_Pc [.ref (wa E 10 q), .ref (wa E 43 a1), .int a2] (Wp E I J)) (QV E Q) 0 0 (AA E) := by
  refine m_entry mbX0_hold (Nat.le_of_ble_eq_true rfl) ?_
  intro p e s m args below meth c X ls hW hl
  have X : Cx E cX0_hold 3 RX0 ((Option.none : Option FieldType)) p s m args c meth := X
  have hx := X.1.1
  have hb := X.1.2.1
  have hl : lv_has ls 3 [(0, .ref (wa E 10 q)), (1, .ref (wa E 43 a1)), (2, .int a2)] := hl
  refine lv_aload_n hx hb dX0_hold_0 rfl (lv_at hl 0 rfl) ?_
  refine lv_iload_n hx hb dX0_hold_1 rfl (lv_at hl 2 rfl) ?_
  refine r_putI X hW 2 (okB hW hp_q).1 rfl rfl inX0 tyX0 tyX0_ok nmX0 (Nat.le_of_ble_eq_true rfl) tw87 rfl rfl rfl rfl (Nat.le_of_ble_eq_true rfl) rfl dX0_hold_2 (fun H locs hW => ?_)
  refine lv_aload_n hx hb dX0_hold_5 rfl (lv_at hl 0 rfl) ?_
  refine lv_iconst (v := (-1)) hx hb dX0_hold_6 (by decide) ?_
  refine r_putI X hW 3 (okB hW hp_q).1 rfl rfl inX0 tyX0 tyX0_ok nmX0 (Nat.le_of_ble_eq_true rfl) tw89 rfl rfl rfl rfl (Nat.le_of_ble_eq_true rfl) rfl dX0_hold_7 (fun H locs hW => ?_)
  refine lv_aload_n hx hb dX0_hold_10 rfl (lv_at hl 0 rfl) ?_
  refine lv_iconst (v := 0) hx hb dX0_hold_11 (by decide) ?_
  refine r_putI X hW 4 (okB hW hp_q).1 rfl rfl inX0 tyX0 tyX0_ok nmX0 (Nat.le_of_ble_eq_true rfl) tw92 rfl rfl rfl rfl (Nat.le_of_ble_eq_true rfl) rfl dX0_hold_12 (fun H locs hW => ?_)
  obtain ⟨I12, eI12⟩ : ∃ z : MI, z = u3 (u3 (u3 I 10 q (upd (I 10 q) 2 a2)) 10 q (upd ((u3 I 10 q (upd (I 10 q) 2 a2)) 10 q) 3 ((-1)))) 10 q (upd ((u3 (u3 I 10 q (upd (I 10 q) 2 a2)) 10 q (upd ((u3 I 10 q (upd (I 10 q) 2 a2)) 10 q) 3 ((-1)))) 10 q) 4 0) := ⟨_, rfl⟩
  rw [← eI12] at hW
  have h := h I12 eI12
  refine lv_aload_n hx hb dX0_hold_15 rfl (lv_at hl 1 rfl) ?_
  refine lv_aload_n hx hb dX0_hold_16 rfl (lv_at hl 0 rfl) ?_
  refine r_get X hW 1 (okB hW hp_q).1 rfl rfl inX0 (Nat.le_of_ble_eq_true rfl) tw85 rfl dX0_hold_17 ?_
  refine af_i hW (rn_V X hW (As := [.int (I12 10 q 1)]) (rest := []) (okR hW hp_a1) rfl rfl (kX6_hasQuorum hp_a1 h) mbX6_hasQuorum tw673 tw569 tw570 rfl hl.1 (Nat.le_of_ble_eq_true rfl) ⟨(Nat.le_of_ble_eq_true rfl), (Nat.le_of_ble_eq_true rfl)⟩ dX0_hold_20) (fun r20 I20 J20 H locs h hW => ?_)
  refine lv_if_ne (tgt := 27) hx hb dX0_hold_23 (by decide) (fun c23 => ?_) (fun c23 => ?_)
  · have h := h.1 c23
    refine lv_aload_n hx hb dX0_hold_27 rfl (lv_at hl 0 rfl) ?_
    refine af_v hW (rn_V X hW (As := []) (rest := []) (okB hW hp_q).1 rfl rfl (kX0_putBalls hp_q h) mbX0_putBalls tw674 tw676 tp15 rfl hl.1 (Nat.le_of_ble_eq_true rfl) ⟨(Nat.le_of_ble_eq_true rfl), (Nat.le_of_ble_eq_true rfl)⟩ dX0_hold_28) (fun I28 J28 H locs h hW => ?_)
    refine lv_aload_n hx hb dX0_hold_31 rfl (lv_at hl 1 rfl) ?_
    refine r_getN X hW 3 (okR hW hp_a1) rfl rfl inX6 (Nat.le_of_ble_eq_true rfl) nw239 rfl dX0_hold_32 ?_
    refine lv_if_eq (tgt := 57) hx hb dX0_hold_35 (by decide) (fun c35 => ?_) (fun c35 => ?_)
    · have h := h.1 c35
      exact bX0_hold_57 X q a1 _ _ _ _ _ hp_q hp_a1 h hW (lv_sub hl [0, 1] rfl)
    · have h := h.2 c35
      refine lv_aload_n hx hb dX0_hold_38 rfl (lv_at hl 1 rfl) ?_
      refine lv_aload_n hx hb dX0_hold_39 rfl (lv_at hl 0 rfl) ?_
      refine r_get X hW 3 (okB hW hp_q).1 rfl rfl inX0 (Nat.le_of_ble_eq_true rfl) tw89 rfl dX0_hold_40 ?_
      refine lv_aload_n hx hb dX0_hold_43 rfl (lv_at hl 0 rfl) ?_
      refine r_get X hW 1 (okB hW hp_q).1 rfl rfl inX0 (Nat.le_of_ble_eq_true rfl) tw85 rfl dX0_hold_44 ?_
      refine af_i hW (rn_V X hW (As := [.int (I28 10 q 3), .int (I28 10 q 1)]) (rest := []) (okR hW hp_a1) rfl rfl (kX6_shutsOut hp_a1 h) mbX6_shutsOut tw687 tw573 tw574 rfl hl.1 (Nat.le_of_ble_eq_true rfl) ⟨(Nat.le_of_ble_eq_true rfl), (Nat.le_of_ble_eq_true rfl)⟩ dX0_hold_47) (fun r47 I47 J47 H locs h hW => ?_)
      refine lv_if_eq (tgt := 57) hx hb dX0_hold_50 (by decide) (fun c50 => ?_) (fun c50 => ?_)
      · have h := h.1 c50
        exact bX0_hold_57 X q a1 _ _ _ _ _ hp_q hp_a1 h hW (lv_sub hl [0, 1] rfl)
      · have h := h.2 c50
        refine lv_aload_n hx hb dX0_hold_53 rfl (lv_at hl 0 rfl) ?_
        refine af_v hW (rn_V X hW (As := []) (rest := []) (okB hW hp_q).1 rfl rfl (kX0_putBalls hp_q h) mbX0_putBalls tw674 tw676 tp15 rfl hl.1 (Nat.le_of_ble_eq_true rfl) ⟨(Nat.le_of_ble_eq_true rfl), (Nat.le_of_ble_eq_true rfl)⟩ dX0_hold_54) (fun I54 J54 H locs h hW => ?_)
        exact bX0_hold_57 X q a1 _ _ _ _ _ hp_q hp_a1 h hW (lv_sub hl [0, 1] rfl)
  · have h := h.2 c23
    exact e_v X hW h dX0_hold_26
def wX1_drawTaste (g : GS) (I : MI) (J : MJ) (Q : Int32 → MI → MJ → Prop) : Prop :=
  wX0_nextSeed g (I 12 0 4) I J (fun r5 I5 J5 => wX0_drawnTenth g ((u3 I5 12 0 (upd (I5 12 0) 4 r5)) 12 0 4) (u3 I5 12 0 (upd (I5 12 0) 4 r5)) J5 (fun r15 I15 J15 => Q r15 I15 J15))
theorem mbX1_drawTaste : MB yX1_drawTaste cX1_drawTaste 1 ((Option.some FieldType.int)) 0 := ⟨tw728, tw6, ⟨by decide, by decide⟩, by decide +kernel, by decide +kernel⟩
set_option maxHeartbeats 4000000 in
set_option maxRecDepth 100000 in
theorem kX1_drawTaste {l : Launch} {E : WE} {I : MI} {J : MJ} {Q : Int32 → MI → MJ → Prop} (h : wX1_drawTaste (wg E) I J Q) : Met l yX1_drawTaste (wsM yX1_drawTaste cX1_drawTaste 1 ((Option.some FieldType.int))) (rmO 1 20) (va_Pc [.ref (wa E 12 0)] (Wp E I J)) (QI E Q) 0 0 (AA E) := by
  refine m_entry mbX1_drawTaste (Nat.le_of_ble_eq_true rfl) ?_
  intro p e s m args below meth c X ls hW hl
  have X : Cx E cX1_drawTaste 1 RX1 ((Option.some FieldType.int)) p s m args c meth := X
  have hx := X.1.1
  have hb := X.1.2.1
  have hl : lv_has ls 1 [(0, .ref (wa E 12 0))] := hl
  refine lv_aload_n hx hb dX1_drawTaste_0 rfl (lv_at hl 0 rfl) ?_
  refine lv_aload_n hx hb dX1_drawTaste_1 rfl (lv_at hl 0 rfl) ?_
  refine r_get X hW 4 (okS hW sc12_0) rfl rfl inX1 (Nat.le_of_ble_eq_true rfl) tw119 rfl dX1_drawTaste_2 ?_
  refine af_i hW (rn_S X hW (As := [.int (I 12 0 4)]) (rest := [.ref (wa E 12 0)]) (kX0_nextSeed h) mbX0_nextSeed tw729 tw679 rfl hl.1 (Nat.le_of_ble_eq_true rfl) ⟨(Nat.le_of_ble_eq_true rfl), (Nat.le_of_ble_eq_true rfl)⟩ dX1_drawTaste_5) (fun r5 I5 J5 H locs h hW => ?_)
  refine r_putI X hW 4 (okS hW sc12_0) rfl rfl inX1 tyX1 tyX1_ok nmX1 (Nat.le_of_ble_eq_true rfl) tw119 rfl rfl rfl rfl (Nat.le_of_ble_eq_true rfl) rfl dX1_drawTaste_8 (fun H locs hW => ?_)
  refine lv_aload_n hx hb dX1_drawTaste_11 rfl (lv_at hl 0 rfl) ?_
  refine r_get X hW 4 (okS hW sc12_0) rfl rfl inX1 (Nat.le_of_ble_eq_true rfl) tw119 rfl dX1_drawTaste_12 ?_
  refine af_i hW (rn_S X hW (As := [.int ((u3 I5 12 0 (upd (I5 12 0) 4 r5)) 12 0 4)]) (rest := []) (kX0_drawnTenth h) mbX0_drawnTenth tw730 tw684 rfl hl.1 (Nat.le_of_ble_eq_true rfl) ⟨(Nat.le_of_ble_eq_true rfl), (Nat.le_of_ble_eq_true rfl)⟩ dX1_drawTaste_15) (fun r15 I15 J15 H locs h hW => ?_)
  exact e_i X hW h dX1_drawTaste_18
def wX1_found_b18 (g : GS) (Q : MI → MJ → Prop) : Nat → Int32 → MI → MJ → Prop
  | 0, _, _, _ => False
  | n + 1, v2, I, J => ((8 ≤ v2 → Q I J) ∧ (¬ 8 ≤ v2 → wX1_drawTaste g I J (fun r30 I30 J30 => vp_in v2 8 ∧ (wX1_found_b18 g Q n (v2 + 1) (u3 I30 13 0 (upd (I30 13 0) (Int32.toNatClampNeg v2) r30)) J30))))
set_option maxHeartbeats 4000000 in
set_option maxRecDepth 100000 in
theorem bX1_found_18 {p : Program} {l : Launch} {e : Env} {s : State} {m : MethodId} {args : Array Value} {below : List Frame} {meth : Method} {c : Code} {E : WE} {Q : MI → MJ → Prop} (X : Cx E cX1_found 3 RX1 ((Option.none : Option FieldType)) p s m args c meth) (n : Nat) : ∀ (v2 : Int32) (I : MI) (J : MJ) (H : Heap) (locs : List Loc) (ls : Array Slot), wX1_found_b18 (wg E) Q n v2 I J → Wd E I J s H locs → lv_has ls 3 [(0, .ref (wa E 12 0)), (2, .int v2)] → W p l e (rmO 2 40) s m args below meth c H locs 0 0 (MQ below (QV E Q) args s 0 0 (AA E)) (F0 m 18 ls []) := by
  have hx := X.1.1
  have hb := X.1.2.1
  induction n with
  | zero => intro v2 I J H locs ls h hW hl; exact h.elim
  | succ n ih =>
    intro v2 I J H locs ls h hW hl
    refine lv_iload_n hx hb dX1_found_18 rfl (lv_at hl 1 rfl) ?_
    refine lv_bipush (v := 8) hx hb dX1_found_19 (by decide) ?_
    refine lv_icmp_ge (tgt := 40) hx hb dX1_found_21 (by decide) (fun c21 => ?_) (fun c21 => ?_)
    · have h := h.1 c21
      exact e_v X hW h dX1_found_40
    · have h := h.2 c21
      refine lv_aload_n hx hb dX1_found_24 rfl (lv_at hl 0 rfl) ?_
      refine r_get X hW 0 (okS hW sc12_0) rfl rfl inX1 (Nat.le_of_ble_eq_true rfl) tw113 rfl dX1_found_25 ?_
      refine lv_iload_n hx hb dX1_found_28 rfl (lv_at hl 1 rfl) ?_
      refine lv_aload_n hx hb dX1_found_29 rfl (lv_at hl 0 rfl) ?_
      refine af_i hW (rn_V X hW (As := []) (rest := [.int v2, .ref (wa E 13 0)]) (okS hW sc12_0) rfl rfl (kX1_drawTaste h) mbX1_drawTaste tw725 tw727 tp18 rfl hl.1 (Nat.le_of_ble_eq_true rfl) ⟨(Nat.le_of_ble_eq_true rfl), (Nat.le_of_ble_eq_true rfl)⟩ dX1_found_30) (fun r30 I30 J30 H locs h hW => ?_)
      refine r_iast X hW (okS hW sc13_0) (fun _ => rfl) h.1 dX1_found_33 (fun H locs hW => ?_)
      have h := h.2
      refine lv_iinc (v := v2 + 1) (lv' := [(2, .int (v2 + 1)), (0, .ref (wa E 12 0))]) hx hb dX1_found_34 hl (k := 1) rfl rfl (by decide) rfl (fun ls hl => ?_)
      refine lv_goto (tgt := 18) hx hb dX1_found_37 (by decide) ?_
      exact ih (v2 + 1) _ _ _ _ _  h hW (lv_sub hl [1, 0] rfl)
def wX1_found (g : GS) (a1 : Int32) (I : MI) (J : MJ) (Q : MI → MJ → Prop) : Prop :=
  ∀ I13 : MI, I13 = u3 (u3 (u3 I 12 0 (upd (I 12 0) 4 a1)) 12 0 (upd ((u3 I 12 0 (upd (I 12 0) 4 a1)) 12 0) 3 0)) 12 0 (upd ((u3 (u3 I 12 0 (upd (I 12 0) 4 a1)) 12 0 (upd ((u3 I 12 0 (upd (I 12 0) 4 a1)) 12 0) 3 0)) 12 0) 2 8) → ∃ n18, wX1_found_b18 g Q n18 0 I13 J
theorem mbX1_found : MB yX1_found cX1_found 3 ((Option.none : Option FieldType)) 1 := ⟨tw724, tw6, ⟨by decide, by decide⟩, by decide +kernel, by decide +kernel⟩
set_option maxHeartbeats 4000000 in
set_option maxRecDepth 100000 in
theorem kX1_found {l : Launch} {E : WE} {a1 : Int32} {I : MI} {J : MJ} {Q : MI → MJ → Prop} (h : wX1_found (wg E) a1 I J Q) : Met l yX1_found (wsM yX1_found cX1_found 3 ((Option.none : Option FieldType))) (rmO 2 40) (va_Pc [.ref (wa E 12 0), .int a1] (Wp E I J)) (QV E Q) 0 0 (AA E) := by
  refine m_entry mbX1_found (Nat.le_of_ble_eq_true rfl) ?_
  intro p e s m args below meth c X ls hW hl
  have X : Cx E cX1_found 3 RX1 ((Option.none : Option FieldType)) p s m args c meth := X
  have hx := X.1.1
  have hb := X.1.2.1
  have hl : lv_has ls 3 [(0, .ref (wa E 12 0)), (1, .int a1)] := hl
  refine lv_aload_n hx hb dX1_found_0 rfl (lv_at hl 0 rfl) ?_
  refine lv_iload_n hx hb dX1_found_1 rfl (lv_at hl 1 rfl) ?_
  refine r_putI X hW 4 (okS hW sc12_0) rfl rfl inX1 tyX1 tyX1_ok nmX1 (Nat.le_of_ble_eq_true rfl) tw119 rfl rfl rfl rfl (Nat.le_of_ble_eq_true rfl) rfl dX1_found_2 (fun H locs hW => ?_)
  refine lv_aload_n hx hb dX1_found_5 rfl (lv_at hl 0 rfl) ?_
  refine lv_iconst (v := 0) hx hb dX1_found_6 (by decide) ?_
  refine r_putI X hW 3 (okS hW sc12_0) rfl rfl inX1 tyX1 tyX1_ok nmX1 (Nat.le_of_ble_eq_true rfl) tw117 rfl rfl rfl rfl (Nat.le_of_ble_eq_true rfl) rfl dX1_found_7 (fun H locs hW => ?_)
  refine lv_aload_n hx hb dX1_found_10 rfl (lv_at hl 0 rfl) ?_
  refine lv_bipush (v := 8) hx hb dX1_found_11 (by decide) ?_
  refine r_putI X hW 2 (okS hW sc12_0) rfl rfl inX1 tyX1 tyX1_ok nmX1 (Nat.le_of_ble_eq_true rfl) tw115 rfl rfl rfl rfl (Nat.le_of_ble_eq_true rfl) rfl dX1_found_13 (fun H locs hW => ?_)
  obtain ⟨I13, eI13⟩ : ∃ z : MI, z = u3 (u3 (u3 I 12 0 (upd (I 12 0) 4 a1)) 12 0 (upd ((u3 I 12 0 (upd (I 12 0) 4 a1)) 12 0) 3 0)) 12 0 (upd ((u3 (u3 I 12 0 (upd (I 12 0) 4 a1)) 12 0 (upd ((u3 I 12 0 (upd (I 12 0) 4 a1)) 12 0) 3 0)) 12 0) 2 8) := ⟨_, rfl⟩
  rw [← eI13] at hW
  have h := h I13 eI13
  refine lv_iconst (v := 0) hx hb dX1_found_16 (by decide) ?_
  refine lv_istore_n (lv' := [(2, .int 0), (0, .ref (wa E 12 0)), (1, .int a1)]) hx hb dX1_found_17 rfl hl (by decide) rfl (fun ls hl => ?_)
  obtain ⟨n18, h⟩ := h
  exact bX1_found_18 X n18 0 _ _ _ _ _  h hW (lv_sub hl [1, 0] rfl)
def wX1_firstGoes (g : GS) (I : MI) (J : MJ) (Q : MI → MJ → Prop) : Prop :=
  (((I 12 0 2) ≤ 0 → Q I J) ∧ (¬ (I 12 0 2) ≤ 0 → (¬ ((1 : Int32)) < 0 ∧ ¬ ((0 : Int32)) < 0 ∧ ¬ ((u3 I 12 0 (upd (I 12 0) 2 ((I 12 0 2) - 1))) 12 0 2) < 0 ∧ Int32.toNatClampNeg ((1 : Int32)) + Int32.toNatClampNeg ((u3 I 12 0 (upd (I 12 0) 2 ((I 12 0 2) - 1))) 12 0 2) ≤ 8 ∧ Int32.toNatClampNeg ((0 : Int32)) + Int32.toNatClampNeg ((u3 I 12 0 (upd (I 12 0) 2 ((I 12 0 2) - 1))) 12 0 2) ≤ 8) ∧ (Q (u3 (u3 I 12 0 (upd (I 12 0) 2 ((I 12 0 2) - 1))) 13 0 (va_cpy ((u3 I 12 0 (upd (I 12 0) 2 ((I 12 0 2) - 1))) 13 0) ((u3 I 12 0 (upd (I 12 0) 2 ((I 12 0 2) - 1))) 13 0) (Int32.toNatClampNeg 1) (Int32.toNatClampNeg 0) (Int32.toNatClampNeg ((u3 I 12 0 (upd (I 12 0) 2 ((I 12 0 2) - 1))) 12 0 2)))) J)))
theorem mbX1_firstGoes : MB yX1_firstGoes cX1_firstGoes 1 ((Option.none : Option FieldType)) 0 := ⟨tw738, tw6, ⟨by decide, by decide⟩, by decide +kernel, by decide +kernel⟩
set_option maxHeartbeats 4000000 in
set_option maxRecDepth 100000 in
theorem kX1_firstGoes {l : Launch} {E : WE} {I : MI} {J : MJ} {Q : MI → MJ → Prop} (h : wX1_firstGoes (wg E) I J Q) : Met l yX1_firstGoes (wsM yX1_firstGoes cX1_firstGoes 1 ((Option.none : Option FieldType))) (rmO 1 40) (va_Pc [.ref (wa E 12 0)] (Wp E I J)) (QV E Q) 0 0 (AA E) := by
  refine m_entry mbX1_firstGoes (Nat.le_of_ble_eq_true rfl) ?_
  intro p e s m args below meth c X ls hW hl
  have X : Cx E cX1_firstGoes 1 RX1 ((Option.none : Option FieldType)) p s m args c meth := X
  have hx := X.1.1
  have hb := X.1.2.1
  have hl : lv_has ls 1 [(0, .ref (wa E 12 0))] := hl
  refine lv_aload_n hx hb dX1_firstGoes_0 rfl (lv_at hl 0 rfl) ?_
  refine r_get X hW 2 (okS hW sc12_0) rfl rfl inX1 (Nat.le_of_ble_eq_true rfl) tw115 rfl dX1_firstGoes_1 ?_
  refine lv_if_le (tgt := 34) hx hb dX1_firstGoes_4 (by decide) (fun c4 => ?_) (fun c4 => ?_)
  · have h := h.1 c4
    exact e_v X hW h dX1_firstGoes_34
  · have h := h.2 c4
    refine lv_aload_n hx hb dX1_firstGoes_7 rfl (lv_at hl 0 rfl) ?_
    refine lv_dup hx hb dX1_firstGoes_8 rfl ?_
    refine r_get X hW 2 (okS hW sc12_0) rfl rfl inX1 (Nat.le_of_ble_eq_true rfl) tw115 rfl dX1_firstGoes_9 ?_
    refine lv_iconst (v := 1) hx hb dX1_firstGoes_12 (by decide) ?_
    refine lv_isub hx hb dX1_firstGoes_13 ?_
    refine r_putI X hW 2 (okS hW sc12_0) rfl rfl inX1 tyX1 tyX1_ok nmX1 (Nat.le_of_ble_eq_true rfl) tw115 rfl rfl rfl rfl (Nat.le_of_ble_eq_true rfl) rfl dX1_firstGoes_14 (fun H locs hW => ?_)
    refine lv_aload_n hx hb dX1_firstGoes_17 rfl (lv_at hl 0 rfl) ?_
    refine r_get X hW 0 (okS hW sc12_0) rfl rfl inX1 (Nat.le_of_ble_eq_true rfl) tw113 rfl dX1_firstGoes_18 ?_
    refine lv_iconst (v := 1) hx hb dX1_firstGoes_21 (by decide) ?_
    refine lv_aload_n hx hb dX1_firstGoes_22 rfl (lv_at hl 0 rfl) ?_
    refine r_get X hW 0 (okS hW sc12_0) rfl rfl inX1 (Nat.le_of_ble_eq_true rfl) tw113 rfl dX1_firstGoes_23 ?_
    refine lv_iconst (v := 0) hx hb dX1_firstGoes_26 (by decide) ?_
    refine lv_aload_n hx hb dX1_firstGoes_27 rfl (lv_at hl 0 rfl) ?_
    refine r_get X hW 2 (okS hW sc12_0) rfl rfl inX1 (Nat.le_of_ble_eq_true rfl) tw115 rfl dX1_firstGoes_28 ?_
    refine r_copy X hW hl.1 tw739 (okS hW sc13_0) (okS hW sc13_0) rfl (fun _ => rfl) h.1 (Nat.le_of_ble_eq_true rfl) (Nat.le_of_ble_eq_true rfl) dX1_firstGoes_31 (fun H locs hW => ?_)
    have h := h.2
    exact e_v X hW h dX1_firstGoes_34
def wX1_passYear_b18 (g : GS) (Q : MI → MJ → Prop) : Nat → Nat → Int32 → Int32 → MI → MJ → Prop
  | 0, _, _, _, _, _ => False
  | n + 1, v1, v2, v3, I, J => (((I 12 0 2) ≤ v3 → wX0_hold g 1 v1 (I 12 0 4) I J (fun I61 J61 => ((((u3 I61 12 0 (upd (I61 12 0) 4 (I61 10 1 2))) 10 1 4) = 0 → Q (u3 I61 12 0 (upd (I61 12 0) 4 (I61 10 1 2))) J61) ∧ (¬ ((u3 I61 12 0 (upd (I61 12 0) 4 (I61 10 1 2))) 10 1 4) = 0 → ((8 ≤ ((u3 I61 12 0 (upd (I61 12 0) 4 (I61 10 1 2))) 12 0 2) → Q (u3 I61 12 0 (upd (I61 12 0) 4 (I61 10 1 2))) J61) ∧ (¬ 8 ≤ ((u3 I61 12 0 (upd (I61 12 0) 4 (I61 10 1 2))) 12 0 2) → vp_in ((u3 I61 12 0 (upd (I61 12 0) 4 (I61 10 1 2))) 12 0 2) 8 ∧ (∀ I103 : MI, I103 = u3 (u3 I61 12 0 (upd (I61 12 0) 4 (I61 10 1 2))) 13 0 (upd ((u3 I61 12 0 (upd (I61 12 0) 4 (I61 10 1 2))) 13 0) (Int32.toNatClampNeg ((u3 I61 12 0 (upd (I61 12 0) 4 (I61 10 1 2))) 12 0 2)) v2) → ∀ I121 : MI, I121 = u3 (u3 I103 12 0 (upd (I103 12 0) 2 ((I103 12 0 2) + 1))) 12 0 (upd ((u3 I103 12 0 (upd (I103 12 0) 2 ((I103 12 0 2) + 1))) 12 0) 3 (((u3 I103 12 0 (upd (I103 12 0) 2 ((I103 12 0 2) + 1))) 12 0 3) + 1)) → Q I121 J61))))))) ∧ (¬ (I 12 0 2) ≤ v3 → vp_in v3 8 ∧ (wX0_seat g 1 (2 * (if 0 ≤ (v2 - (I 13 0 (Int32.toNatClampNeg v3))) then (v2 - (I 13 0 (Int32.toNatClampNeg v3))) else 0 - (v2 - (I 13 0 (Int32.toNatClampNeg v3))))) I J (fun I43 J43 => wX1_passYear_b18 g Q n v1 v2 (v3 + 1) I43 J43))))
set_option maxHeartbeats 4000000 in
set_option maxRecDepth 100000 in
theorem bX1_passYear_18 {p : Program} {l : Launch} {e : Env} {s : State} {m : MethodId} {args : Array Value} {below : List Frame} {meth : Method} {c : Code} {E : WE} {Q : MI → MJ → Prop} (X : Cx E cX1_passYear 4 RX1 ((Option.none : Option FieldType)) p s m args c meth) (n : Nat) : ∀ (v1 : Nat) (v2 : Int32) (v3 : Int32) (I : MI) (J : MJ) (H : Heap) (locs : List Loc) (ls : Array Slot), v1 < (wg E).2.2 → wX1_passYear_b18 (wg E) Q n v1 v2 v3 I J → Wd E I J s H locs → lv_has ls 4 [(0, .ref (wa E 12 0)), (1, .ref (wa E 43 v1)), (2, .int v2), (3, .int v3)] → W p l e (rmO 3 63) s m args below meth c H locs 0 0 (MQ below (QV E Q) args s 0 0 (AA E)) (F0 m 18 ls []) := by
  have hx := X.1.1
  have hb := X.1.2.1
  induction n with
  | zero => intro v1 v2 v3 I J H locs ls hp_v1 h hW hl; exact h.elim
  | succ n ih =>
    intro v1 v2 v3 I J H locs ls hp_v1 h hW hl
    refine lv_iload_n hx hb dX1_passYear_18 rfl (lv_at hl 3 rfl) ?_
    refine lv_aload_n hx hb dX1_passYear_19 rfl (lv_at hl 0 rfl) ?_
    refine r_get X hW 2 (okS hW sc12_0) rfl rfl inX1 (Nat.le_of_ble_eq_true rfl) tw115 rfl dX1_passYear_20 ?_
    refine lv_icmp_ge (tgt := 52) hx hb dX1_passYear_23 (by decide) (fun c23 => ?_) (fun c23 => ?_)
    · have h := h.1 c23
      refine lv_aload_n hx hb dX1_passYear_52 rfl (lv_at hl 0 rfl) ?_
      refine r_get X hW 1 (okS hW sc12_0) rfl rfl inX1 (Nat.le_of_ble_eq_true rfl) tw114 rfl dX1_passYear_53 ?_
      refine lv_aload_n hx hb dX1_passYear_56 rfl (lv_at hl 1 rfl) ?_
      refine lv_aload_n hx hb dX1_passYear_57 rfl (lv_at hl 0 rfl) ?_
      refine r_get X hW 4 (okS hW sc12_0) rfl rfl inX1 (Nat.le_of_ble_eq_true rfl) tw119 rfl dX1_passYear_58 ?_
      refine af_v hW (rn_V X hW (As := [.ref (wa E 43 v1), .int (I 12 0 4)]) (rest := []) (okS hW sc10_1) rfl rfl (kX0_hold (Nat.le_of_ble_eq_true rfl) hp_v1 h) mbX0_hold tw747 tw670 tw671 rfl hl.1 (Nat.le_of_ble_eq_true rfl) ⟨(Nat.le_of_ble_eq_true rfl), (Nat.le_of_ble_eq_true rfl)⟩ dX1_passYear_61) (fun I61 J61 H locs h hW => ?_)
      refine lv_aload_n hx hb dX1_passYear_64 rfl (lv_at hl 0 rfl) ?_
      refine lv_aload_n hx hb dX1_passYear_65 rfl (lv_at hl 0 rfl) ?_
      refine r_get X hW 1 (okS hW sc12_0) rfl rfl inX1 (Nat.le_of_ble_eq_true rfl) tw114 rfl dX1_passYear_66 ?_
      refine r_getN X hW 2 (okS hW sc10_1) rfl rfl inX0 (Nat.le_of_ble_eq_true rfl) nw86 rfl dX1_passYear_69 ?_
      refine r_putI X hW 4 (okS hW sc12_0) rfl rfl inX1 tyX1 tyX1_ok nmX1 (Nat.le_of_ble_eq_true rfl) tw119 rfl rfl rfl rfl (Nat.le_of_ble_eq_true rfl) rfl dX1_passYear_72 (fun H locs hW => ?_)
      refine lv_aload_n hx hb dX1_passYear_75 rfl (lv_at hl 0 rfl) ?_
      refine r_get X hW 1 (okS hW sc12_0) rfl rfl inX1 (Nat.le_of_ble_eq_true rfl) tw114 rfl dX1_passYear_76 ?_
      refine r_getN X hW 4 (okS hW sc10_1) rfl rfl inX0 (Nat.le_of_ble_eq_true rfl) nw91 rfl dX1_passYear_79 ?_
      refine lv_if_eq (tgt := 124) hx hb dX1_passYear_82 (by decide) (fun c82 => ?_) (fun c82 => ?_)
      · have h := h.1 c82
        exact e_v X hW h dX1_passYear_124
      · have h := h.2 c82
        refine lv_aload_n hx hb dX1_passYear_85 rfl (lv_at hl 0 rfl) ?_
        refine r_get X hW 2 (okS hW sc12_0) rfl rfl inX1 (Nat.le_of_ble_eq_true rfl) tw115 rfl dX1_passYear_86 ?_
        refine lv_bipush (v := 8) hx hb dX1_passYear_89 (by decide) ?_
        refine lv_icmp_ge (tgt := 124) hx hb dX1_passYear_91 (by decide) (fun c91 => ?_) (fun c91 => ?_)
        · have h := h.1 c91
          exact e_v X hW h dX1_passYear_124
        · have h := h.2 c91
          refine lv_aload_n hx hb dX1_passYear_94 rfl (lv_at hl 0 rfl) ?_
          refine r_get X hW 0 (okS hW sc12_0) rfl rfl inX1 (Nat.le_of_ble_eq_true rfl) tw113 rfl dX1_passYear_95 ?_
          refine lv_aload_n hx hb dX1_passYear_98 rfl (lv_at hl 0 rfl) ?_
          refine r_get X hW 2 (okS hW sc12_0) rfl rfl inX1 (Nat.le_of_ble_eq_true rfl) tw115 rfl dX1_passYear_99 ?_
          refine lv_iload_n hx hb dX1_passYear_102 rfl (lv_at hl 2 rfl) ?_
          refine r_iast X hW (okS hW sc13_0) (fun _ => rfl) h.1 dX1_passYear_103 (fun H locs hW => ?_)
          have h := h.2
          obtain ⟨I103, eI103⟩ : ∃ z : MI, z = u3 (u3 I61 12 0 (upd (I61 12 0) 4 (I61 10 1 2))) 13 0 (upd ((u3 I61 12 0 (upd (I61 12 0) 4 (I61 10 1 2))) 13 0) (Int32.toNatClampNeg ((u3 I61 12 0 (upd (I61 12 0) 4 (I61 10 1 2))) 12 0 2)) v2) := ⟨_, rfl⟩
          rw [← eI103] at hW
          have h := h I103 eI103
          refine lv_aload_n hx hb dX1_passYear_104 rfl (lv_at hl 0 rfl) ?_
          refine lv_dup hx hb dX1_passYear_105 rfl ?_
          refine r_get X hW 2 (okS hW sc12_0) rfl rfl inX1 (Nat.le_of_ble_eq_true rfl) tw115 rfl dX1_passYear_106 ?_
          refine lv_iconst (v := 1) hx hb dX1_passYear_109 (by decide) ?_
          refine lv_iadd hx hb dX1_passYear_110 ?_
          refine r_putI X hW 2 (okS hW sc12_0) rfl rfl inX1 tyX1 tyX1_ok nmX1 (Nat.le_of_ble_eq_true rfl) tw115 rfl rfl rfl rfl (Nat.le_of_ble_eq_true rfl) rfl dX1_passYear_111 (fun H locs hW => ?_)
          refine lv_aload_n hx hb dX1_passYear_114 rfl (lv_at hl 0 rfl) ?_
          refine lv_dup hx hb dX1_passYear_115 rfl ?_
          refine r_get X hW 3 (okS hW sc12_0) rfl rfl inX1 (Nat.le_of_ble_eq_true rfl) tw117 rfl dX1_passYear_116 ?_
          refine lv_iconst (v := 1) hx hb dX1_passYear_119 (by decide) ?_
          refine lv_iadd hx hb dX1_passYear_120 ?_
          refine r_putI X hW 3 (okS hW sc12_0) rfl rfl inX1 tyX1 tyX1_ok nmX1 (Nat.le_of_ble_eq_true rfl) tw117 rfl rfl rfl rfl (Nat.le_of_ble_eq_true rfl) rfl dX1_passYear_121 (fun H locs hW => ?_)
          obtain ⟨I121, eI121⟩ : ∃ z : MI, z = u3 (u3 I103 12 0 (upd (I103 12 0) 2 ((I103 12 0 2) + 1))) 12 0 (upd ((u3 I103 12 0 (upd (I103 12 0) 2 ((I103 12 0 2) + 1))) 12 0) 3 (((u3 I103 12 0 (upd (I103 12 0) 2 ((I103 12 0 2) + 1))) 12 0 3) + 1)) := ⟨_, rfl⟩
          rw [← eI121] at hW
          have h := h I121 eI121
          exact e_v X hW h dX1_passYear_124
    · have h := h.2 c23
      refine lv_aload_n hx hb dX1_passYear_26 rfl (lv_at hl 0 rfl) ?_
      refine r_get X hW 1 (okS hW sc12_0) rfl rfl inX1 (Nat.le_of_ble_eq_true rfl) tw114 rfl dX1_passYear_27 ?_
      refine lv_iconst (v := 2) hx hb dX1_passYear_30 (by decide) ?_
      refine lv_iload_n hx hb dX1_passYear_31 rfl (lv_at hl 2 rfl) ?_
      refine lv_aload_n hx hb dX1_passYear_32 rfl (lv_at hl 0 rfl) ?_
      refine r_get X hW 0 (okS hW sc12_0) rfl rfl inX1 (Nat.le_of_ble_eq_true rfl) tw113 rfl dX1_passYear_33 ?_
      refine lv_iload_n hx hb dX1_passYear_36 rfl (lv_at hl 3 rfl) ?_
      refine r_iald X hW (okS hW sc13_0) rfl h.1 dX1_passYear_37 ?_
      have h := h.2
      refine lv_isub hx hb dX1_passYear_38 ?_
      refine va_mabs hx hb (X.1.2.2.1.trans hl.1.symm) X.1.2.2.2.1 (X.1.2.2.2.2 _ tw743) (X.1.2.2.2.2 _ tw744) (X.1.2.2.2.2 _ tw16) (X.1.2.2.2.2 _ tw745) (Nat.le_of_ble_eq_true rfl) (Nat.le_of_ble_eq_true rfl) (Nat.zero_le _) (Nat.zero_le _) dX1_passYear_39 ?_
      refine lv_imul hx hb dX1_passYear_42 ?_
      refine af_v hW (rn_V X hW (As := [.int (2 * (if 0 ≤ (v2 - (I 13 0 (Int32.toNatClampNeg v3))) then (v2 - (I 13 0 (Int32.toNatClampNeg v3))) else 0 - (v2 - (I 13 0 (Int32.toNatClampNeg v3)))))]) (rest := []) (okS hW sc10_1) rfl rfl (kX0_seat (Nat.le_of_ble_eq_true rfl) h) mbX0_seat tw746 tw666 tw667 rfl hl.1 (Nat.le_of_ble_eq_true rfl) ⟨(Nat.le_of_ble_eq_true rfl), (Nat.le_of_ble_eq_true rfl)⟩ dX1_passYear_43) (fun I43 J43 H locs h hW => ?_)
      refine lv_iinc (v := v3 + 1) (lv' := [(3, .int (v3 + 1)), (0, .ref (wa E 12 0)), (1, .ref (wa E 43 v1)), (2, .int v2)]) hx hb dX1_passYear_46 hl (k := 3) rfl rfl (by decide) rfl (fun ls hl => ?_)
      refine lv_goto (tgt := 18) hx hb dX1_passYear_49 (by decide) ?_
      exact ih v1 v2 (v3 + 1) _ _ _ _ _ hp_v1 h hW (lv_sub hl [1, 2, 3, 0] rfl)
def wX1_passYear (g : GS) (a1 : Nat) (I : MI) (J : MJ) (Q : MI → MJ → Prop) : Prop :=
  wX1_firstGoes g I J (fun I1 J1 => wX1_drawTaste g I1 J1 (fun r5 I5 J5 => wX0_begin g 1 I5 J5 (fun I13 J13 => ∃ n18, wX1_passYear_b18 g Q n18 a1 r5 0 I13 J13)))
theorem mbX1_passYear : MB yX1_passYear cX1_passYear 4 ((Option.none : Option FieldType)) 1 := ⟨tw734, tw6, ⟨by decide, by decide⟩, by decide +kernel, by decide +kernel⟩
set_option maxHeartbeats 4000000 in
set_option maxRecDepth 100000 in
theorem kX1_passYear {l : Launch} {E : WE} {a1 : Nat} {I : MI} {J : MJ} {Q : MI → MJ → Prop} (hp_a1 : a1 < (wg E).2.2) (h : wX1_passYear (wg E) a1 I J Q) : Met l yX1_passYear (wsM yX1_passYear cX1_passYear 4 ((Option.none : Option FieldType))) (rmO 3 63) (va_Pc [.ref (wa E 12 0), .ref (wa E 43 a1)] (Wp E I J)) (QV E Q) 0 0 (AA E) := by
  refine m_entry mbX1_passYear (Nat.le_of_ble_eq_true rfl) ?_
  intro p e s m args below meth c X ls hW hl
  have X : Cx E cX1_passYear 4 RX1 ((Option.none : Option FieldType)) p s m args c meth := X
  have hx := X.1.1
  have hb := X.1.2.1
  have hl : lv_has ls 4 [(0, .ref (wa E 12 0)), (1, .ref (wa E 43 a1))] := hl
  refine lv_aload_n hx hb dX1_passYear_0 rfl (lv_at hl 0 rfl) ?_
  refine af_v hW (rn_V X hW (As := []) (rest := []) (okS hW sc12_0) rfl rfl (kX1_firstGoes h) mbX1_firstGoes tw735 tw737 tp19 rfl hl.1 (Nat.le_of_ble_eq_true rfl) ⟨(Nat.le_of_ble_eq_true rfl), (Nat.le_of_ble_eq_true rfl)⟩ dX1_passYear_1) (fun I1 J1 H locs h hW => ?_)
  refine lv_aload_n hx hb dX1_passYear_4 rfl (lv_at hl 0 rfl) ?_
  refine af_i hW (rn_V X hW (As := []) (rest := []) (okS hW sc12_0) rfl rfl (kX1_drawTaste h) mbX1_drawTaste tw725 tw727 tp18 rfl hl.1 (Nat.le_of_ble_eq_true rfl) ⟨(Nat.le_of_ble_eq_true rfl), (Nat.le_of_ble_eq_true rfl)⟩ dX1_passYear_5) (fun r5 I5 J5 H locs h hW => ?_)
  refine lv_istore_n (lv' := [(2, .int r5), (0, .ref (wa E 12 0)), (1, .ref (wa E 43 a1))]) hx hb dX1_passYear_8 rfl hl (by decide) rfl (fun ls hl => ?_)
  refine lv_aload_n hx hb dX1_passYear_9 rfl (lv_at hl 1 rfl) ?_
  refine r_get X hW 1 (okS hW sc12_0) rfl rfl inX1 (Nat.le_of_ble_eq_true rfl) tw114 rfl dX1_passYear_10 ?_
  refine af_v hW (rn_V X hW (As := []) (rest := []) (okS hW sc10_1) rfl rfl (kX0_begin (Nat.le_of_ble_eq_true rfl) h) mbX0_begin tw742 tw662 tw663 rfl hl.1 (Nat.le_of_ble_eq_true rfl) ⟨(Nat.le_of_ble_eq_true rfl), (Nat.le_of_ble_eq_true rfl)⟩ dX1_passYear_13) (fun I13 J13 H locs h hW => ?_)
  refine lv_iconst (v := 0) hx hb dX1_passYear_16 (by decide) ?_
  refine lv_istore_n (lv' := [(3, .int 0), (2, .int r5), (0, .ref (wa E 12 0)), (1, .ref (wa E 43 a1))]) hx hb dX1_passYear_17 rfl hl (by decide) rfl (fun ls hl => ?_)
  obtain ⟨n18, h⟩ := h
  exact bX1_passYear_18 X n18 a1 r5 0 _ _ _ _ _ hp_a1 h hW (lv_sub hl [2, 3, 1, 0] rfl)
def wJ6_bitCount_0f7a4 (g : GS) (a0 : Int32) (I : MI) (J : MJ) (Q : Int32 → MI → MJ → Prop) : Prop :=
  Q ((((((((a0 - (((a0.toUInt32 >>> (Int32.toUInt32 1 &&& Int32.toUInt32 31)).toInt32) &&& 1431655765)) &&& 858993459) + ((((a0 - (((a0.toUInt32 >>> (Int32.toUInt32 1 &&& Int32.toUInt32 31)).toInt32) &&& 1431655765)).toUInt32 >>> (Int32.toUInt32 2 &&& Int32.toUInt32 31)).toInt32) &&& 858993459)) + (((((a0 - (((a0.toUInt32 >>> (Int32.toUInt32 1 &&& Int32.toUInt32 31)).toInt32) &&& 1431655765)) &&& 858993459) + ((((a0 - (((a0.toUInt32 >>> (Int32.toUInt32 1 &&& Int32.toUInt32 31)).toInt32) &&& 1431655765)).toUInt32 >>> (Int32.toUInt32 2 &&& Int32.toUInt32 31)).toInt32) &&& 858993459)).toUInt32 >>> (Int32.toUInt32 4 &&& Int32.toUInt32 31)).toInt32)) &&& 252645135) + (((((((a0 - (((a0.toUInt32 >>> (Int32.toUInt32 1 &&& Int32.toUInt32 31)).toInt32) &&& 1431655765)) &&& 858993459) + ((((a0 - (((a0.toUInt32 >>> (Int32.toUInt32 1 &&& Int32.toUInt32 31)).toInt32) &&& 1431655765)).toUInt32 >>> (Int32.toUInt32 2 &&& Int32.toUInt32 31)).toInt32) &&& 858993459)) + (((((a0 - (((a0.toUInt32 >>> (Int32.toUInt32 1 &&& Int32.toUInt32 31)).toInt32) &&& 1431655765)) &&& 858993459) + ((((a0 - (((a0.toUInt32 >>> (Int32.toUInt32 1 &&& Int32.toUInt32 31)).toInt32) &&& 1431655765)).toUInt32 >>> (Int32.toUInt32 2 &&& Int32.toUInt32 31)).toInt32) &&& 858993459)).toUInt32 >>> (Int32.toUInt32 4 &&& Int32.toUInt32 31)).toInt32)) &&& 252645135).toUInt32 >>> (Int32.toUInt32 8 &&& Int32.toUInt32 31)).toInt32)) + ((((((((a0 - (((a0.toUInt32 >>> (Int32.toUInt32 1 &&& Int32.toUInt32 31)).toInt32) &&& 1431655765)) &&& 858993459) + ((((a0 - (((a0.toUInt32 >>> (Int32.toUInt32 1 &&& Int32.toUInt32 31)).toInt32) &&& 1431655765)).toUInt32 >>> (Int32.toUInt32 2 &&& Int32.toUInt32 31)).toInt32) &&& 858993459)) + (((((a0 - (((a0.toUInt32 >>> (Int32.toUInt32 1 &&& Int32.toUInt32 31)).toInt32) &&& 1431655765)) &&& 858993459) + ((((a0 - (((a0.toUInt32 >>> (Int32.toUInt32 1 &&& Int32.toUInt32 31)).toInt32) &&& 1431655765)).toUInt32 >>> (Int32.toUInt32 2 &&& Int32.toUInt32 31)).toInt32) &&& 858993459)).toUInt32 >>> (Int32.toUInt32 4 &&& Int32.toUInt32 31)).toInt32)) &&& 252645135) + (((((((a0 - (((a0.toUInt32 >>> (Int32.toUInt32 1 &&& Int32.toUInt32 31)).toInt32) &&& 1431655765)) &&& 858993459) + ((((a0 - (((a0.toUInt32 >>> (Int32.toUInt32 1 &&& Int32.toUInt32 31)).toInt32) &&& 1431655765)).toUInt32 >>> (Int32.toUInt32 2 &&& Int32.toUInt32 31)).toInt32) &&& 858993459)) + (((((a0 - (((a0.toUInt32 >>> (Int32.toUInt32 1 &&& Int32.toUInt32 31)).toInt32) &&& 1431655765)) &&& 858993459) + ((((a0 - (((a0.toUInt32 >>> (Int32.toUInt32 1 &&& Int32.toUInt32 31)).toInt32) &&& 1431655765)).toUInt32 >>> (Int32.toUInt32 2 &&& Int32.toUInt32 31)).toInt32) &&& 858993459)).toUInt32 >>> (Int32.toUInt32 4 &&& Int32.toUInt32 31)).toInt32)) &&& 252645135).toUInt32 >>> (Int32.toUInt32 8 &&& Int32.toUInt32 31)).toInt32)).toUInt32 >>> (Int32.toUInt32 16 &&& Int32.toUInt32 31)).toInt32)) &&& 63) I J
theorem mbJ6_bitCount_0f7a4 : MB yJ6_bitCount_0f7a4 cJ6_bitCount_0f7a4 1 ((Option.some FieldType.int)) 1 := ⟨tw485, tw14, ⟨by decide, by decide⟩, by decide +kernel, by decide +kernel⟩
set_option maxHeartbeats 4000000 in
set_option maxRecDepth 100000 in
theorem kJ6_bitCount_0f7a4 {l : Launch} {E : WE} {a0 : Int32} {I : MI} {J : MJ} {Q : Int32 → MI → MJ → Prop} (h : wJ6_bitCount_0f7a4 (wg E) a0 I J Q) : Met l yJ6_bitCount_0f7a4 (wsM yJ6_bitCount_0f7a4 cJ6_bitCount_0f7a4 1 ((Option.some FieldType.int))) (rmO 0 0) (va_Pc [.int a0] (Wp E I J)) (QI E Q) 0 0 (AA E) := by
  refine m_entry mbJ6_bitCount_0f7a4 (Nat.le_of_ble_eq_true rfl) ?_
  intro p e s m args below meth c X ls hW hl
  have X : Cx E cJ6_bitCount_0f7a4 1 RJ6 ((Option.some FieldType.int)) p s m args c meth := X
  have hx := X.1.1
  have hb := X.1.2.1
  have hl : lv_has ls 1 [(0, .int a0)] := hl
  refine lv_iload_n hx hb dJ6_bitCount_0f7a4_0 rfl (lv_at hl 0 rfl) ?_
  refine lv_iload_n hx hb dJ6_bitCount_0f7a4_1 rfl (lv_at hl 0 rfl) ?_
  refine lv_iconst (v := 1) hx hb dJ6_bitCount_0f7a4_2 (by decide) ?_
  refine lv_iushr hx hb dJ6_bitCount_0f7a4_3 rfl ?_
  refine lv_ldcw hx hb X.1.2.2.2.1 (X.1.2.2.2.2 _ tw486) dJ6_bitCount_0f7a4_4 ?_
  refine lv_iand hx hb dJ6_bitCount_0f7a4_7 ?_
  refine lv_isub hx hb dJ6_bitCount_0f7a4_8 ?_
  refine lv_istore_n (lv' := [(0, .int (a0 - (((a0.toUInt32 >>> (Int32.toUInt32 1 &&& Int32.toUInt32 31)).toInt32) &&& 1431655765)))]) hx hb dJ6_bitCount_0f7a4_9 rfl hl (by decide) rfl (fun ls hl => ?_)
  refine lv_iload_n hx hb dJ6_bitCount_0f7a4_10 rfl (lv_at hl 0 rfl) ?_
  refine lv_ldcw hx hb X.1.2.2.2.1 (X.1.2.2.2.2 _ tw487) dJ6_bitCount_0f7a4_11 ?_
  refine lv_iand hx hb dJ6_bitCount_0f7a4_14 ?_
  refine lv_iload_n hx hb dJ6_bitCount_0f7a4_15 rfl (lv_at hl 0 rfl) ?_
  refine lv_iconst (v := 2) hx hb dJ6_bitCount_0f7a4_16 (by decide) ?_
  refine lv_iushr hx hb dJ6_bitCount_0f7a4_17 rfl ?_
  refine lv_ldcw hx hb X.1.2.2.2.1 (X.1.2.2.2.2 _ tw487) dJ6_bitCount_0f7a4_18 ?_
  refine lv_iand hx hb dJ6_bitCount_0f7a4_21 ?_
  refine lv_iadd hx hb dJ6_bitCount_0f7a4_22 ?_
  refine lv_istore_n (lv' := [(0, .int (((a0 - (((a0.toUInt32 >>> (Int32.toUInt32 1 &&& Int32.toUInt32 31)).toInt32) &&& 1431655765)) &&& 858993459) + ((((a0 - (((a0.toUInt32 >>> (Int32.toUInt32 1 &&& Int32.toUInt32 31)).toInt32) &&& 1431655765)).toUInt32 >>> (Int32.toUInt32 2 &&& Int32.toUInt32 31)).toInt32) &&& 858993459)))]) hx hb dJ6_bitCount_0f7a4_23 rfl hl (by decide) rfl (fun ls hl => ?_)
  refine lv_iload_n hx hb dJ6_bitCount_0f7a4_24 rfl (lv_at hl 0 rfl) ?_
  refine lv_iload_n hx hb dJ6_bitCount_0f7a4_25 rfl (lv_at hl 0 rfl) ?_
  refine lv_iconst (v := 4) hx hb dJ6_bitCount_0f7a4_26 (by decide) ?_
  refine lv_iushr hx hb dJ6_bitCount_0f7a4_27 rfl ?_
  refine lv_iadd hx hb dJ6_bitCount_0f7a4_28 ?_
  refine lv_ldcw hx hb X.1.2.2.2.1 (X.1.2.2.2.2 _ tw488) dJ6_bitCount_0f7a4_29 ?_
  refine lv_iand hx hb dJ6_bitCount_0f7a4_32 ?_
  refine lv_istore_n (lv' := [(0, .int (((((a0 - (((a0.toUInt32 >>> (Int32.toUInt32 1 &&& Int32.toUInt32 31)).toInt32) &&& 1431655765)) &&& 858993459) + ((((a0 - (((a0.toUInt32 >>> (Int32.toUInt32 1 &&& Int32.toUInt32 31)).toInt32) &&& 1431655765)).toUInt32 >>> (Int32.toUInt32 2 &&& Int32.toUInt32 31)).toInt32) &&& 858993459)) + (((((a0 - (((a0.toUInt32 >>> (Int32.toUInt32 1 &&& Int32.toUInt32 31)).toInt32) &&& 1431655765)) &&& 858993459) + ((((a0 - (((a0.toUInt32 >>> (Int32.toUInt32 1 &&& Int32.toUInt32 31)).toInt32) &&& 1431655765)).toUInt32 >>> (Int32.toUInt32 2 &&& Int32.toUInt32 31)).toInt32) &&& 858993459)).toUInt32 >>> (Int32.toUInt32 4 &&& Int32.toUInt32 31)).toInt32)) &&& 252645135))]) hx hb dJ6_bitCount_0f7a4_33 rfl hl (by decide) rfl (fun ls hl => ?_)
  refine lv_iload_n hx hb dJ6_bitCount_0f7a4_34 rfl (lv_at hl 0 rfl) ?_
  refine lv_iload_n hx hb dJ6_bitCount_0f7a4_35 rfl (lv_at hl 0 rfl) ?_
  refine lv_bipush (v := 8) hx hb dJ6_bitCount_0f7a4_36 (by decide) ?_
  refine lv_iushr hx hb dJ6_bitCount_0f7a4_38 rfl ?_
  refine lv_iadd hx hb dJ6_bitCount_0f7a4_39 ?_
  refine lv_istore_n (lv' := [(0, .int ((((((a0 - (((a0.toUInt32 >>> (Int32.toUInt32 1 &&& Int32.toUInt32 31)).toInt32) &&& 1431655765)) &&& 858993459) + ((((a0 - (((a0.toUInt32 >>> (Int32.toUInt32 1 &&& Int32.toUInt32 31)).toInt32) &&& 1431655765)).toUInt32 >>> (Int32.toUInt32 2 &&& Int32.toUInt32 31)).toInt32) &&& 858993459)) + (((((a0 - (((a0.toUInt32 >>> (Int32.toUInt32 1 &&& Int32.toUInt32 31)).toInt32) &&& 1431655765)) &&& 858993459) + ((((a0 - (((a0.toUInt32 >>> (Int32.toUInt32 1 &&& Int32.toUInt32 31)).toInt32) &&& 1431655765)).toUInt32 >>> (Int32.toUInt32 2 &&& Int32.toUInt32 31)).toInt32) &&& 858993459)).toUInt32 >>> (Int32.toUInt32 4 &&& Int32.toUInt32 31)).toInt32)) &&& 252645135) + (((((((a0 - (((a0.toUInt32 >>> (Int32.toUInt32 1 &&& Int32.toUInt32 31)).toInt32) &&& 1431655765)) &&& 858993459) + ((((a0 - (((a0.toUInt32 >>> (Int32.toUInt32 1 &&& Int32.toUInt32 31)).toInt32) &&& 1431655765)).toUInt32 >>> (Int32.toUInt32 2 &&& Int32.toUInt32 31)).toInt32) &&& 858993459)) + (((((a0 - (((a0.toUInt32 >>> (Int32.toUInt32 1 &&& Int32.toUInt32 31)).toInt32) &&& 1431655765)) &&& 858993459) + ((((a0 - (((a0.toUInt32 >>> (Int32.toUInt32 1 &&& Int32.toUInt32 31)).toInt32) &&& 1431655765)).toUInt32 >>> (Int32.toUInt32 2 &&& Int32.toUInt32 31)).toInt32) &&& 858993459)).toUInt32 >>> (Int32.toUInt32 4 &&& Int32.toUInt32 31)).toInt32)) &&& 252645135).toUInt32 >>> (Int32.toUInt32 8 &&& Int32.toUInt32 31)).toInt32)))]) hx hb dJ6_bitCount_0f7a4_40 rfl hl (by decide) rfl (fun ls hl => ?_)
  refine lv_iload_n hx hb dJ6_bitCount_0f7a4_41 rfl (lv_at hl 0 rfl) ?_
  refine lv_iload_n hx hb dJ6_bitCount_0f7a4_42 rfl (lv_at hl 0 rfl) ?_
  refine lv_bipush (v := 16) hx hb dJ6_bitCount_0f7a4_43 (by decide) ?_
  refine lv_iushr hx hb dJ6_bitCount_0f7a4_45 rfl ?_
  refine lv_iadd hx hb dJ6_bitCount_0f7a4_46 ?_
  refine lv_istore_n (lv' := [(0, .int (((((((a0 - (((a0.toUInt32 >>> (Int32.toUInt32 1 &&& Int32.toUInt32 31)).toInt32) &&& 1431655765)) &&& 858993459) + ((((a0 - (((a0.toUInt32 >>> (Int32.toUInt32 1 &&& Int32.toUInt32 31)).toInt32) &&& 1431655765)).toUInt32 >>> (Int32.toUInt32 2 &&& Int32.toUInt32 31)).toInt32) &&& 858993459)) + (((((a0 - (((a0.toUInt32 >>> (Int32.toUInt32 1 &&& Int32.toUInt32 31)).toInt32) &&& 1431655765)) &&& 858993459) + ((((a0 - (((a0.toUInt32 >>> (Int32.toUInt32 1 &&& Int32.toUInt32 31)).toInt32) &&& 1431655765)).toUInt32 >>> (Int32.toUInt32 2 &&& Int32.toUInt32 31)).toInt32) &&& 858993459)).toUInt32 >>> (Int32.toUInt32 4 &&& Int32.toUInt32 31)).toInt32)) &&& 252645135) + (((((((a0 - (((a0.toUInt32 >>> (Int32.toUInt32 1 &&& Int32.toUInt32 31)).toInt32) &&& 1431655765)) &&& 858993459) + ((((a0 - (((a0.toUInt32 >>> (Int32.toUInt32 1 &&& Int32.toUInt32 31)).toInt32) &&& 1431655765)).toUInt32 >>> (Int32.toUInt32 2 &&& Int32.toUInt32 31)).toInt32) &&& 858993459)) + (((((a0 - (((a0.toUInt32 >>> (Int32.toUInt32 1 &&& Int32.toUInt32 31)).toInt32) &&& 1431655765)) &&& 858993459) + ((((a0 - (((a0.toUInt32 >>> (Int32.toUInt32 1 &&& Int32.toUInt32 31)).toInt32) &&& 1431655765)).toUInt32 >>> (Int32.toUInt32 2 &&& Int32.toUInt32 31)).toInt32) &&& 858993459)).toUInt32 >>> (Int32.toUInt32 4 &&& Int32.toUInt32 31)).toInt32)) &&& 252645135).toUInt32 >>> (Int32.toUInt32 8 &&& Int32.toUInt32 31)).toInt32)) + ((((((((a0 - (((a0.toUInt32 >>> (Int32.toUInt32 1 &&& Int32.toUInt32 31)).toInt32) &&& 1431655765)) &&& 858993459) + ((((a0 - (((a0.toUInt32 >>> (Int32.toUInt32 1 &&& Int32.toUInt32 31)).toInt32) &&& 1431655765)).toUInt32 >>> (Int32.toUInt32 2 &&& Int32.toUInt32 31)).toInt32) &&& 858993459)) + (((((a0 - (((a0.toUInt32 >>> (Int32.toUInt32 1 &&& Int32.toUInt32 31)).toInt32) &&& 1431655765)) &&& 858993459) + ((((a0 - (((a0.toUInt32 >>> (Int32.toUInt32 1 &&& Int32.toUInt32 31)).toInt32) &&& 1431655765)).toUInt32 >>> (Int32.toUInt32 2 &&& Int32.toUInt32 31)).toInt32) &&& 858993459)).toUInt32 >>> (Int32.toUInt32 4 &&& Int32.toUInt32 31)).toInt32)) &&& 252645135) + (((((((a0 - (((a0.toUInt32 >>> (Int32.toUInt32 1 &&& Int32.toUInt32 31)).toInt32) &&& 1431655765)) &&& 858993459) + ((((a0 - (((a0.toUInt32 >>> (Int32.toUInt32 1 &&& Int32.toUInt32 31)).toInt32) &&& 1431655765)).toUInt32 >>> (Int32.toUInt32 2 &&& Int32.toUInt32 31)).toInt32) &&& 858993459)) + (((((a0 - (((a0.toUInt32 >>> (Int32.toUInt32 1 &&& Int32.toUInt32 31)).toInt32) &&& 1431655765)) &&& 858993459) + ((((a0 - (((a0.toUInt32 >>> (Int32.toUInt32 1 &&& Int32.toUInt32 31)).toInt32) &&& 1431655765)).toUInt32 >>> (Int32.toUInt32 2 &&& Int32.toUInt32 31)).toInt32) &&& 858993459)).toUInt32 >>> (Int32.toUInt32 4 &&& Int32.toUInt32 31)).toInt32)) &&& 252645135).toUInt32 >>> (Int32.toUInt32 8 &&& Int32.toUInt32 31)).toInt32)).toUInt32 >>> (Int32.toUInt32 16 &&& Int32.toUInt32 31)).toInt32)))]) hx hb dJ6_bitCount_0f7a4_47 rfl hl (by decide) rfl (fun ls hl => ?_)
  refine lv_iload_n hx hb dJ6_bitCount_0f7a4_48 rfl (lv_at hl 0 rfl) ?_
  refine lv_bipush (v := 63) hx hb dJ6_bitCount_0f7a4_49 (by decide) ?_
  refine lv_iand hx hb dJ6_bitCount_0f7a4_51 ?_
  exact e_i X hW h dJ6_bitCount_0f7a4_52
def wX1_unlikeTastes_b4 (g : GS) (Q : Int32 → MI → MJ → Prop) : Nat → Int32 → Int32 → MI → MJ → Prop
  | 0, _, _, _, _ => False
  | n + 1, v1, v2, I, J => (((I 12 0 2) ≤ v2 → wJ6_bitCount_0f7a4 g v1 I J (fun r30 I30 J30 => Q r30 I30 J30)) ∧ (¬ (I 12 0 2) ≤ v2 → vp_in v2 8 ∧ (wX1_unlikeTastes_b4 g Q n (v1 ||| (1 <<< ((I 13 0 (Int32.toNatClampNeg v2)) &&& 31))) (v2 + 1) I J)))
set_option maxHeartbeats 4000000 in
set_option maxRecDepth 100000 in
theorem bX1_unlikeTastes_4 {p : Program} {l : Launch} {e : Env} {s : State} {m : MethodId} {args : Array Value} {below : List Frame} {meth : Method} {c : Code} {E : WE} {Q : Int32 → MI → MJ → Prop} (X : Cx E cX1_unlikeTastes 3 RX1 ((Option.some FieldType.int)) p s m args c meth) (n : Nat) : ∀ (v1 : Int32) (v2 : Int32) (I : MI) (J : MJ) (H : Heap) (locs : List Loc) (ls : Array Slot), wX1_unlikeTastes_b4 (wg E) Q n v1 v2 I J → Wd E I J s H locs → lv_has ls 3 [(0, .ref (wa E 12 0)), (1, .int v1), (2, .int v2)] → W p l e (rmO 1 20) s m args below meth c H locs 0 0 (MQ below (QI E Q) args s 0 0 (AA E)) (F0 m 4 ls []) := by
  have hx := X.1.1
  have hb := X.1.2.1
  induction n with
  | zero => intro v1 v2 I J H locs ls h hW hl; exact h.elim
  | succ n ih =>
    intro v1 v2 I J H locs ls h hW hl
    refine lv_iload_n hx hb dX1_unlikeTastes_4 rfl (lv_at hl 2 rfl) ?_
    refine lv_aload_n hx hb dX1_unlikeTastes_5 rfl (lv_at hl 0 rfl) ?_
    refine r_get X hW 2 (okS hW sc12_0) rfl rfl inX1 (Nat.le_of_ble_eq_true rfl) tw115 rfl dX1_unlikeTastes_6 ?_
    refine lv_icmp_ge (tgt := 29) hx hb dX1_unlikeTastes_9 (by decide) (fun c9 => ?_) (fun c9 => ?_)
    · have h := h.1 c9
      refine lv_iload_n hx hb dX1_unlikeTastes_29 rfl (lv_at hl 1 rfl) ?_
      refine af_i hW (rn_S X hW (As := [.int v1]) (rest := []) (kJ6_bitCount_0f7a4 h) mbJ6_bitCount_0f7a4 tw752 tw484 rfl hl.1 (Nat.le_of_ble_eq_true rfl) ⟨(Nat.le_of_ble_eq_true rfl), (Nat.le_of_ble_eq_true rfl)⟩ dX1_unlikeTastes_30) (fun r30 I30 J30 H locs h hW => ?_)
      exact e_i X hW h dX1_unlikeTastes_33
    · have h := h.2 c9
      refine lv_iload_n hx hb dX1_unlikeTastes_12 rfl (lv_at hl 1 rfl) ?_
      refine lv_iconst (v := 1) hx hb dX1_unlikeTastes_13 (by decide) ?_
      refine lv_aload_n hx hb dX1_unlikeTastes_14 rfl (lv_at hl 0 rfl) ?_
      refine r_get X hW 0 (okS hW sc12_0) rfl rfl inX1 (Nat.le_of_ble_eq_true rfl) tw113 rfl dX1_unlikeTastes_15 ?_
      refine lv_iload_n hx hb dX1_unlikeTastes_18 rfl (lv_at hl 2 rfl) ?_
      refine r_iald X hW (okS hW sc13_0) rfl h.1 dX1_unlikeTastes_19 ?_
      have h := h.2
      refine lv_ishl hx hb dX1_unlikeTastes_20 ?_
      refine lv_ior hx hb dX1_unlikeTastes_21 ?_
      refine lv_istore_n (lv' := [(1, .int (v1 ||| (1 <<< ((I 13 0 (Int32.toNatClampNeg v2)) &&& 31)))), (0, .ref (wa E 12 0)), (2, .int v2)]) hx hb dX1_unlikeTastes_22 rfl hl (by decide) rfl (fun ls hl => ?_)
      refine lv_iinc (v := v2 + 1) (lv' := [(2, .int (v2 + 1)), (1, .int (v1 ||| (1 <<< ((I 13 0 (Int32.toNatClampNeg v2)) &&& 31)))), (0, .ref (wa E 12 0))]) hx hb dX1_unlikeTastes_23 hl (k := 2) rfl rfl (by decide) rfl (fun ls hl => ?_)
      refine lv_goto (tgt := 4) hx hb dX1_unlikeTastes_26 (by decide) ?_
      exact ih (v1 ||| (1 <<< ((I 13 0 (Int32.toNatClampNeg v2)) &&& 31))) (v2 + 1) _ _ _ _ _  h hW (lv_sub hl [2, 1, 0] rfl)
def wX1_unlikeTastes (g : GS) (I : MI) (J : MJ) (Q : Int32 → MI → MJ → Prop) : Prop :=
  ∃ n4, wX1_unlikeTastes_b4 g Q n4 0 0 I J
theorem mbX1_unlikeTastes : MB yX1_unlikeTastes cX1_unlikeTastes 3 ((Option.some FieldType.int)) 0 := ⟨tw751, tw6, ⟨by decide, by decide⟩, by decide +kernel, by decide +kernel⟩
set_option maxHeartbeats 4000000 in
set_option maxRecDepth 100000 in
theorem kX1_unlikeTastes {l : Launch} {E : WE} {I : MI} {J : MJ} {Q : Int32 → MI → MJ → Prop} (h : wX1_unlikeTastes (wg E) I J Q) : Met l yX1_unlikeTastes (wsM yX1_unlikeTastes cX1_unlikeTastes 3 ((Option.some FieldType.int))) (rmO 1 20) (va_Pc [.ref (wa E 12 0)] (Wp E I J)) (QI E Q) 0 0 (AA E) := by
  refine m_entry mbX1_unlikeTastes (Nat.le_of_ble_eq_true rfl) ?_
  intro p e s m args below meth c X ls hW hl
  have X : Cx E cX1_unlikeTastes 3 RX1 ((Option.some FieldType.int)) p s m args c meth := X
  have hx := X.1.1
  have hb := X.1.2.1
  have hl : lv_has ls 3 [(0, .ref (wa E 12 0))] := hl
  refine lv_iconst (v := 0) hx hb dX1_unlikeTastes_0 (by decide) ?_
  refine lv_istore_n (lv' := [(1, .int 0), (0, .ref (wa E 12 0))]) hx hb dX1_unlikeTastes_1 rfl hl (by decide) rfl (fun ls hl => ?_)
  refine lv_iconst (v := 0) hx hb dX1_unlikeTastes_2 (by decide) ?_
  refine lv_istore_n (lv' := [(2, .int 0), (1, .int 0), (0, .ref (wa E 12 0))]) hx hb dX1_unlikeTastes_3 rfl hl (by decide) rfl (fun ls hl => ?_)
  obtain ⟨n4, h⟩ := h
  exact bX1_unlikeTastes_4 X n4 0 0 _ _ _ _ _  h hW (lv_sub hl [2, 1, 0] rfl)
def wX2_kind (g : GS) (q : Nat) (I : MI) (J : MJ) (Q : Int32 → MI → MJ → Prop) : Prop :=
  Q 1 I J
theorem mbX2_kind : MB yX2_kind cX2_kind 1 ((Option.some FieldType.int)) 0 := ⟨tw381, tw10, ⟨by decide, by decide⟩, by decide +kernel, by decide +kernel⟩
set_option maxHeartbeats 4000000 in
set_option maxRecDepth 100000 in
theorem kX2_kind {l : Launch} {E : WE} {q : Nat} {I : MI} {J : MJ} {Q : Int32 → MI → MJ → Prop} (hp_q : q < (wg E).2.1) (h : wX2_kind (wg E) q I J Q) : Met l yX2_kind (wsM yX2_kind cX2_kind 1 ((Option.some FieldType.int))) (rmO 0 0) (va_Pc [.ref (wa E 40 q)] (Wp E I J)) (QI E Q) 0 0 (AA E) := by
  refine m_entry mbX2_kind (Nat.le_of_ble_eq_true rfl) ?_
  intro p e s m args below meth c X ls hW hl
  have X : Cx E cX2_kind 1 RX2 ((Option.some FieldType.int)) p s m args c meth := X
  have hx := X.1.1
  have hb := X.1.2.1
  have hl : lv_has ls 1 [(0, .ref (wa E 40 q))] := hl
  refine lv_iconst (v := 1) hx hb dX2_kind_0 (by decide) ?_
  exact e_i X hW h dX2_kind_1
def wX2_blackOfStranger (g : GS) (q : Nat) (a1 : Int32) (a2 : Int32) (a3 : Int32) (I : MI) (J : MJ) (Q : Int32 → MI → MJ → Prop) : Prop :=
  ((a3 = 0 → Q a1 I J) ∧ (¬ a3 = 0 → Q (a1 / 2) I J))
theorem mbX2_blackOfStranger : MB yX2_blackOfStranger cX2_blackOfStranger 4 ((Option.some FieldType.int)) 3 := ⟨tw508, tw10, ⟨by decide, by decide⟩, by decide +kernel, by decide +kernel⟩
set_option maxHeartbeats 4000000 in
set_option maxRecDepth 100000 in
theorem kX2_blackOfStranger {l : Launch} {E : WE} {q : Nat} {a1 : Int32} {a2 : Int32} {a3 : Int32} {I : MI} {J : MJ} {Q : Int32 → MI → MJ → Prop} (hp_q : q < (wg E).2.1) (h : wX2_blackOfStranger (wg E) q a1 a2 a3 I J Q) : Met l yX2_blackOfStranger (wsM yX2_blackOfStranger cX2_blackOfStranger 4 ((Option.some FieldType.int))) (rmO 0 0) (va_Pc [.ref (wa E 40 q), .int a1, .int a2, .int a3] (Wp E I J)) (QI E Q) 0 0 (AA E) := by
  refine m_entry mbX2_blackOfStranger (Nat.le_of_ble_eq_true rfl) ?_
  intro p e s m args below meth c X ls hW hl
  have X : Cx E cX2_blackOfStranger 4 RX2 ((Option.some FieldType.int)) p s m args c meth := X
  have hx := X.1.1
  have hb := X.1.2.1
  have hl : lv_has ls 4 [(0, .ref (wa E 40 q)), (1, .int a1), (2, .int a2), (3, .int a3)] := hl
  refine lv_iload_n hx hb dX2_blackOfStranger_0 rfl (lv_at hl 3 rfl) ?_
  refine lv_if_eq (tgt := 10) hx hb dX2_blackOfStranger_1 (by decide) (fun c1 => ?_) (fun c1 => ?_)
  · have h := h.1 c1
    refine lv_iload_n hx hb dX2_blackOfStranger_10 rfl (lv_at hl 1 rfl) ?_
    exact e_i X hW h dX2_blackOfStranger_11
  · have h := h.2 c1
    refine lv_iload_n hx hb dX2_blackOfStranger_4 rfl (lv_at hl 1 rfl) ?_
    refine lv_iconst (v := 2) hx hb dX2_blackOfStranger_5 (by decide) ?_
    refine lv_idiv hx hb dX2_blackOfStranger_6 (by decide) ?_
    refine lv_goto (tgt := 11) hx hb dX2_blackOfStranger_7 (by decide) ?_
    exact e_i X hW h dX2_blackOfStranger_11
def wX3_kind (g : GS) (q : Nat) (I : MI) (J : MJ) (Q : Int32 → MI → MJ → Prop) : Prop :=
  Q 2 I J
theorem mbX3_kind : MB yX3_kind cX3_kind 1 ((Option.some FieldType.int)) 0 := ⟨tw384, tw11, ⟨by decide, by decide⟩, by decide +kernel, by decide +kernel⟩
set_option maxHeartbeats 4000000 in
set_option maxRecDepth 100000 in
theorem kX3_kind {l : Launch} {E : WE} {q : Nat} {I : MI} {J : MJ} {Q : Int32 → MI → MJ → Prop} (hp_q : q < (wg E).2.1) (hk_q : (wg E).1 q = 3) (h : wX3_kind (wg E) q I J Q) : Met l yX3_kind (wsM yX3_kind cX3_kind 1 ((Option.some FieldType.int))) (rmO 0 0) (va_Pc [.ref (wa E 40 q)] (Wp E I J)) (QI E Q) 0 0 (AA E) := by
  refine m_entry mbX3_kind (Nat.le_of_ble_eq_true rfl) ?_
  intro p e s m args below meth c X ls hW hl
  have X : Cx E cX3_kind 1 RX3 ((Option.some FieldType.int)) p s m args c meth := X
  have hx := X.1.1
  have hb := X.1.2.1
  have hl : lv_has ls 1 [(0, .ref (wa E 40 q))] := hl
  refine lv_iconst (v := 2) hx hb dX3_kind_0 (by decide) ?_
  exact e_i X hW h dX3_kind_1
def wX3_n (g : GS) (q : Nat) (I : MI) (J : MJ) (Q : Int32 → MI → MJ → Prop) : Prop :=
  Q (I 40 q 6) I J
theorem mbX3_n : MB yX3_n cX3_n 1 ((Option.some FieldType.int)) 0 := ⟨tw399, tw11, ⟨by decide, by decide⟩, by decide +kernel, by decide +kernel⟩
set_option maxHeartbeats 4000000 in
set_option maxRecDepth 100000 in
theorem kX3_n {l : Launch} {E : WE} {q : Nat} {I : MI} {J : MJ} {Q : Int32 → MI → MJ → Prop} (hp_q : q < (wg E).2.1) (hk_q : (wg E).1 q = 3) (h : wX3_n (wg E) q I J Q) : Met l yX3_n (wsM yX3_n cX3_n 1 ((Option.some FieldType.int))) (rmO 0 0) (va_Pc [.ref (wa E 40 q)] (Wp E I J)) (QI E Q) 0 0 (AA E) := by
  refine m_entry mbX3_n (Nat.le_of_ble_eq_true rfl) ?_
  intro p e s m args below meth c X ls hW hl
  have X : Cx E cX3_n 1 RX3 ((Option.some FieldType.int)) p s m args c meth := X
  have hx := X.1.1
  have hb := X.1.2.1
  have hl : lv_has ls 1 [(0, .ref (wa E 40 q))] := hl
  refine lv_aload_n hx hb dX3_n_0 rfl (lv_at hl 0 rfl) ?_
  refine r_getSlips X hW hp_q hk_q tw315 dX3_n_1 ?_
  exact e_i X hW h dX3_n_4
def wX3_blackOfStranger (g : GS) (q : Nat) (a1 : Int32) (a2 : Int32) (a3 : Int32) (I : MI) (J : MJ) (Q : Int32 → MI → MJ → Prop) : Prop :=
  Q (((a1 * (10 - (I 40 q 6))) + ((I 40 q 6) * (10 - a1))) / 10) I J
theorem mbX3_blackOfStranger : MB yX3_blackOfStranger cX3_blackOfStranger 4 ((Option.some FieldType.int)) 3 := ⟨tw511, tw11, ⟨by decide, by decide⟩, by decide +kernel, by decide +kernel⟩
set_option maxHeartbeats 4000000 in
set_option maxRecDepth 100000 in
theorem kX3_blackOfStranger {l : Launch} {E : WE} {q : Nat} {a1 : Int32} {a2 : Int32} {a3 : Int32} {I : MI} {J : MJ} {Q : Int32 → MI → MJ → Prop} (hp_q : q < (wg E).2.1) (hk_q : (wg E).1 q = 3) (h : wX3_blackOfStranger (wg E) q a1 a2 a3 I J Q) : Met l yX3_blackOfStranger (wsM yX3_blackOfStranger cX3_blackOfStranger 4 ((Option.some FieldType.int))) (rmO 0 0) (va_Pc [.ref (wa E 40 q), .int a1, .int a2, .int a3] (Wp E I J)) (QI E Q) 0 0 (AA E) := by
  refine m_entry mbX3_blackOfStranger (Nat.le_of_ble_eq_true rfl) ?_
  intro p e s m args below meth c X ls hW hl
  have X : Cx E cX3_blackOfStranger 4 RX3 ((Option.some FieldType.int)) p s m args c meth := X
  have hx := X.1.1
  have hb := X.1.2.1
  have hl : lv_has ls 4 [(0, .ref (wa E 40 q)), (1, .int a1), (2, .int a2), (3, .int a3)] := hl
  refine lv_iload_n hx hb dX3_blackOfStranger_0 rfl (lv_at hl 1 rfl) ?_
  refine lv_bipush (v := 10) hx hb dX3_blackOfStranger_1 (by decide) ?_
  refine lv_aload_n hx hb dX3_blackOfStranger_3 rfl (lv_at hl 0 rfl) ?_
  refine r_getSlips X hW hp_q hk_q tw315 dX3_blackOfStranger_4 ?_
  refine lv_isub hx hb dX3_blackOfStranger_7 ?_
  refine lv_imul hx hb dX3_blackOfStranger_8 ?_
  refine lv_aload_n hx hb dX3_blackOfStranger_9 rfl (lv_at hl 0 rfl) ?_
  refine r_getSlips X hW hp_q hk_q tw315 dX3_blackOfStranger_10 ?_
  refine lv_bipush (v := 10) hx hb dX3_blackOfStranger_13 (by decide) ?_
  refine lv_iload_n hx hb dX3_blackOfStranger_15 rfl (lv_at hl 1 rfl) ?_
  refine lv_isub hx hb dX3_blackOfStranger_16 ?_
  refine lv_imul hx hb dX3_blackOfStranger_17 ?_
  refine lv_iadd hx hb dX3_blackOfStranger_18 ?_
  refine lv_bipush (v := 10) hx hb dX3_blackOfStranger_19 (by decide) ?_
  refine lv_idiv hx hb dX3_blackOfStranger_21 (by decide) ?_
  exact e_i X hW h dX3_blackOfStranger_22
def wX4_codeIn (g : GS) (a0 : Int64) (a2 : Int32) (I : MI) (J : MJ) (Q : Int32 → MI → MJ → Prop) : Prop :=
  Q (Int64.toInt32 (((a0.toUInt64 >>> ((Int32.toInt64 (8 * a2)).toUInt64 &&& Int64.toUInt64 63)).toInt64) &&& 255)) I J
theorem mbX4_codeIn : MB yX4_codeIn cX4_codeIn 3 ((Option.some FieldType.int)) 2 := ⟨tw185, tw2, ⟨by decide, by decide⟩, by decide +kernel, by decide +kernel⟩
set_option maxHeartbeats 4000000 in
set_option maxRecDepth 100000 in
theorem kX4_codeIn {l : Launch} {E : WE} {a0 : Int64} {a2 : Int32} {I : MI} {J : MJ} {Q : Int32 → MI → MJ → Prop} (h : wX4_codeIn (wg E) a0 a2 I J Q) : Met l yX4_codeIn (wsM yX4_codeIn cX4_codeIn 3 ((Option.some FieldType.int))) (rmO 0 0) (va_Pc [.long a0, .int a2] (Wp E I J)) (QI E Q) 0 0 (AA E) := by
  refine m_entry mbX4_codeIn (Nat.le_of_ble_eq_true rfl) ?_
  intro p e s m args below meth c X ls hW hl
  have X : Cx E cX4_codeIn 3 RX4 ((Option.some FieldType.int)) p s m args c meth := X
  have hx := X.1.1
  have hb := X.1.2.1
  have hl : lv_has ls 3 [(0, .long a0), (2, .int a2)] := hl
  refine lv_lload_n hx hb dX4_codeIn_0 rfl (lv_at hl 0 rfl) ?_
  refine lv_bipush (v := 8) hx hb dX4_codeIn_1 (by decide) ?_
  refine lv_iload_n hx hb dX4_codeIn_3 rfl (lv_at hl 1 rfl) ?_
  refine lv_imul hx hb dX4_codeIn_4 ?_
  refine lv_lushr hx hb dX4_codeIn_5 rfl ?_
  refine lv_ldc2 hx hb X.1.2.2.2.1 (X.1.2.2.2.2 _ tw186) dX4_codeIn_6 ?_
  refine lv_land hx hb dX4_codeIn_9 ?_
  refine lv_l2i hx hb dX4_codeIn_10 rfl ?_
  exact e_i X hW h dX4_codeIn_11
def wX4_howManyLetters_b44 (g : GS) (ko4 : Int64 → Int32 → Int32 → MI → MJ → Prop) (Q : Int32 → MI → MJ → Prop) (v0 : Int64) (v2 : Int32) (v3 : Int32) (I : MI) (J : MJ) : Prop :=
  ko4 v0 v2 (v3 + 1) I J
set_option maxHeartbeats 4000000 in
set_option maxRecDepth 100000 in
theorem bX4_howManyLetters_44 {p : Program} {l : Launch} {e : Env} {s : State} {m : MethodId} {args : Array Value} {below : List Frame} {meth : Method} {c : Code} {E : WE} {Q : Int32 → MI → MJ → Prop} {ko4 : Int64 → Int32 → Int32 → MI → MJ → Prop} (X : Cx E cX4_howManyLetters 5 RX4 ((Option.some FieldType.int)) p s m args c meth)
    (hk4 : ∀ (v0 : Int64) (v2 : Int32) (v3 : Int32) (I : MI) (J : MJ) (H : Heap) (locs : List Loc) (ls : Array Slot), ko4 v0 v2 v3 I J → Wd E I J s H locs → lv_has ls 5 [(0, .long v0), (2, .int v2), (3, .int v3)] → W p l e (rmO 1 22) s m args below meth c H locs 0 0 (MQ below (QI E Q) args s 0 0 (AA E)) (F0 m 4 ls [])) : ∀ (v0 : Int64) (v2 : Int32) (v3 : Int32) (I : MI) (J : MJ) (H : Heap) (locs : List Loc) (ls : Array Slot), wX4_howManyLetters_b44 (wg E) ko4 Q v0 v2 v3 I J → Wd E I J s H locs → lv_has ls 5 [(0, .long v0), (2, .int v2), (3, .int v3)] → W p l e (rmO 1 22) s m args below meth c H locs 0 0 (MQ below (QI E Q) args s 0 0 (AA E)) (F0 m 44 ls []) := by
  have hx := X.1.1
  have hb := X.1.2.1
  intro v0 v2 v3 I J H locs ls h hW hl
  refine lv_iinc (v := v3 + 1) (lv' := [(3, .int (v3 + 1)), (0, .long v0), (2, .int v2)]) hx hb dX4_howManyLetters_44 hl (k := 2) rfl rfl (by decide) rfl (fun ls hl => ?_)
  refine lv_goto (tgt := 4) hx hb dX4_howManyLetters_47 (by decide) ?_
  exact hk4 v0 v2 (v3 + 1) _ _ _ _ _  h hW (lv_sub hl [1, 2, 0] rfl)
def wX4_howManyLetters_b36 (g : GS) (ko4 : Int64 → Int32 → Int32 → MI → MJ → Prop) (Q : Int32 → MI → MJ → Prop) (v0 : Int64) (v2 : Int32) (v3 : Int32) (v4 : Int32) (I : MI) (J : MJ) : Prop :=
  ((v4 = 0 → wX4_howManyLetters_b44 g ko4 Q v0 v2 v3 I J) ∧ (¬ v4 = 0 → wX4_howManyLetters_b44 g ko4 Q v0 (v2 + 1) v3 I J))
set_option maxHeartbeats 4000000 in
set_option maxRecDepth 100000 in
theorem bX4_howManyLetters_36 {p : Program} {l : Launch} {e : Env} {s : State} {m : MethodId} {args : Array Value} {below : List Frame} {meth : Method} {c : Code} {E : WE} {Q : Int32 → MI → MJ → Prop} {ko4 : Int64 → Int32 → Int32 → MI → MJ → Prop} (X : Cx E cX4_howManyLetters 5 RX4 ((Option.some FieldType.int)) p s m args c meth)
    (hk4 : ∀ (v0 : Int64) (v2 : Int32) (v3 : Int32) (I : MI) (J : MJ) (H : Heap) (locs : List Loc) (ls : Array Slot), ko4 v0 v2 v3 I J → Wd E I J s H locs → lv_has ls 5 [(0, .long v0), (2, .int v2), (3, .int v3)] → W p l e (rmO 1 22) s m args below meth c H locs 0 0 (MQ below (QI E Q) args s 0 0 (AA E)) (F0 m 4 ls [])) : ∀ (v0 : Int64) (v2 : Int32) (v3 : Int32) (v4 : Int32) (I : MI) (J : MJ) (H : Heap) (locs : List Loc) (ls : Array Slot), wX4_howManyLetters_b36 (wg E) ko4 Q v0 v2 v3 v4 I J → Wd E I J s H locs → lv_has ls 5 [(0, .long v0), (2, .int v2), (3, .int v3), (4, .int v4)] → W p l e (rmO 1 22) s m args below meth c H locs 0 0 (MQ below (QI E Q) args s 0 0 (AA E)) (F0 m 36 ls []) := by
  have hx := X.1.1
  have hb := X.1.2.1
  intro v0 v2 v3 v4 I J H locs ls h hW hl
  refine lv_iload hx hb dX4_howManyLetters_36 (lv_at hl 3 rfl) ?_
  refine lv_if_eq (tgt := 44) hx hb dX4_howManyLetters_38 (by decide) (fun c38 => ?_) (fun c38 => ?_)
  · have h := h.1 c38
    exact bX4_howManyLetters_44 X hk4 v0 v2 v3 _ _ _ _ _  h hW (lv_sub hl [0, 1, 2] rfl)
  · have h := h.2 c38
    refine lv_iinc (v := v2 + 1) (lv' := [(2, .int (v2 + 1)), (0, .long v0), (3, .int v3), (4, .int v4)]) hx hb dX4_howManyLetters_41 hl (k := 1) rfl rfl (by decide) rfl (fun ls hl => ?_)
    exact bX4_howManyLetters_44 X hk4 v0 (v2 + 1) v3 _ _ _ _ _  h hW (lv_sub hl [1, 0, 2] rfl)
def wX4_howManyLetters_b4 (g : GS) (Q : Int32 → MI → MJ → Prop) : Nat → Int64 → Int32 → Int32 → MI → MJ → Prop
  | 0, _, _, _, _, _ => False
  | n + 1, v0, v2, v3, I, J => ((8 ≤ v3 → Q v2 I J) ∧ (¬ 8 ≤ v3 → wX4_codeIn g v0 v3 I J (fun r12 I12 J12 => ((126 < r12 → Q ((-1)) I12 J12) ∧ (¬ 126 < r12 → ((r12 = 0 → wX4_howManyLetters_b36 g (fun v0 v2 v3 I J => wX4_howManyLetters_b4 g Q n v0 v2 v3 I J) Q v0 v2 v3 r12 I12 J12) ∧ (¬ r12 = 0 → ((v3 ≤ v2 → wX4_howManyLetters_b36 g (fun v0 v2 v3 I J => wX4_howManyLetters_b4 g Q n v0 v2 v3 I J) Q v0 v2 v3 r12 I12 J12) ∧ (¬ v3 ≤ v2 → Q ((-1)) I12 J12)))))))))
set_option maxHeartbeats 4000000 in
set_option maxRecDepth 100000 in
theorem bX4_howManyLetters_4 {p : Program} {l : Launch} {e : Env} {s : State} {m : MethodId} {args : Array Value} {below : List Frame} {meth : Method} {c : Code} {E : WE} {Q : Int32 → MI → MJ → Prop} (X : Cx E cX4_howManyLetters 5 RX4 ((Option.some FieldType.int)) p s m args c meth) (n : Nat) : ∀ (v0 : Int64) (v2 : Int32) (v3 : Int32) (I : MI) (J : MJ) (H : Heap) (locs : List Loc) (ls : Array Slot), wX4_howManyLetters_b4 (wg E) Q n v0 v2 v3 I J → Wd E I J s H locs → lv_has ls 5 [(0, .long v0), (2, .int v2), (3, .int v3)] → W p l e (rmO 1 22) s m args below meth c H locs 0 0 (MQ below (QI E Q) args s 0 0 (AA E)) (F0 m 4 ls []) := by
  have hx := X.1.1
  have hb := X.1.2.1
  induction n with
  | zero => intro v0 v2 v3 I J H locs ls h hW hl; exact h.elim
  | succ n ih =>
    intro v0 v2 v3 I J H locs ls h hW hl
    refine lv_iload_n hx hb dX4_howManyLetters_4 rfl (lv_at hl 2 rfl) ?_
    refine lv_bipush (v := 8) hx hb dX4_howManyLetters_5 (by decide) ?_
    refine lv_icmp_ge (tgt := 50) hx hb dX4_howManyLetters_7 (by decide) (fun c7 => ?_) (fun c7 => ?_)
    · have h := h.1 c7
      refine lv_iload_n hx hb dX4_howManyLetters_50 rfl (lv_at hl 1 rfl) ?_
      exact e_i X hW h dX4_howManyLetters_51
    · have h := h.2 c7
      refine lv_lload_n hx hb dX4_howManyLetters_10 rfl (lv_at hl 0 rfl) ?_
      refine lv_iload_n hx hb dX4_howManyLetters_11 rfl (lv_at hl 2 rfl) ?_
      refine af_i hW (rn_S X hW (As := [.long v0, .int v3]) (rest := []) (kX4_codeIn h) mbX4_codeIn tw183 tw184 rfl hl.1 (Nat.le_of_ble_eq_true rfl) ⟨(Nat.le_of_ble_eq_true rfl), (Nat.le_of_ble_eq_true rfl)⟩ dX4_howManyLetters_12) (fun r12 I12 J12 H locs h hW => ?_)
      refine lv_istore (lv' := [(4, .int r12), (0, .long v0), (2, .int v2), (3, .int v3)]) hx hb dX4_howManyLetters_15 hl (by decide) rfl (fun ls hl => ?_)
      refine lv_iload hx hb dX4_howManyLetters_17 (lv_at hl 0 rfl) ?_
      refine lv_bipush (v := 126) hx hb dX4_howManyLetters_19 (by decide) ?_
      refine lv_icmp_gt (tgt := 34) hx hb dX4_howManyLetters_21 (by decide) (fun c21 => ?_) (fun c21 => ?_)
      · have h := h.1 c21
        refine lv_iconst (v := (-1)) hx hb dX4_howManyLetters_34 (by decide) ?_
        exact e_i X hW h dX4_howManyLetters_35
      · have h := h.2 c21
        refine lv_iload hx hb dX4_howManyLetters_24 (lv_at hl 0 rfl) ?_
        refine lv_if_eq (tgt := 36) hx hb dX4_howManyLetters_26 (by decide) (fun c26 => ?_) (fun c26 => ?_)
        · have h := h.1 c26
          exact bX4_howManyLetters_36 X ih v0 v2 v3 r12 _ _ _ _ _  h hW (lv_sub hl [1, 2, 3, 0] rfl)
        · have h := h.2 c26
          refine lv_iload_n hx hb dX4_howManyLetters_29 rfl (lv_at hl 2 rfl) ?_
          refine lv_iload_n hx hb dX4_howManyLetters_30 rfl (lv_at hl 3 rfl) ?_
          refine lv_icmp_ge (tgt := 36) hx hb dX4_howManyLetters_31 (by decide) (fun c31 => ?_) (fun c31 => ?_)
          · have h := h.1 c31
            exact bX4_howManyLetters_36 X ih v0 v2 v3 r12 _ _ _ _ _  h hW (lv_sub hl [1, 2, 3, 0] rfl)
          · have h := h.2 c31
            refine lv_iconst (v := (-1)) hx hb dX4_howManyLetters_34 (by decide) ?_
            exact e_i X hW h dX4_howManyLetters_35
def wX4_howManyLetters (g : GS) (a0 : Int64) (I : MI) (J : MJ) (Q : Int32 → MI → MJ → Prop) : Prop :=
  ∃ n4, wX4_howManyLetters_b4 g Q n4 a0 0 0 I J
theorem mbX4_howManyLetters : MB yX4_howManyLetters cX4_howManyLetters 5 ((Option.some FieldType.int)) 1 := ⟨tw182, tw2, ⟨by decide, by decide⟩, by decide +kernel, by decide +kernel⟩
set_option maxHeartbeats 4000000 in
set_option maxRecDepth 100000 in
theorem kX4_howManyLetters {l : Launch} {E : WE} {a0 : Int64} {I : MI} {J : MJ} {Q : Int32 → MI → MJ → Prop} (h : wX4_howManyLetters (wg E) a0 I J Q) : Met l yX4_howManyLetters (wsM yX4_howManyLetters cX4_howManyLetters 5 ((Option.some FieldType.int))) (rmO 1 22) (va_Pc [.long a0] (Wp E I J)) (QI E Q) 0 0 (AA E) := by
  refine m_entry mbX4_howManyLetters (Nat.le_of_ble_eq_true rfl) ?_
  intro p e s m args below meth c X ls hW hl
  have X : Cx E cX4_howManyLetters 5 RX4 ((Option.some FieldType.int)) p s m args c meth := X
  have hx := X.1.1
  have hb := X.1.2.1
  have hl : lv_has ls 5 [(0, .long a0)] := hl
  refine lv_iconst (v := 0) hx hb dX4_howManyLetters_0 (by decide) ?_
  refine lv_istore_n (lv' := [(2, .int 0), (0, .long a0)]) hx hb dX4_howManyLetters_1 rfl hl (by decide) rfl (fun ls hl => ?_)
  refine lv_iconst (v := 0) hx hb dX4_howManyLetters_2 (by decide) ?_
  refine lv_istore_n (lv' := [(3, .int 0), (2, .int 0), (0, .long a0)]) hx hb dX4_howManyLetters_3 rfl hl (by decide) rfl (fun ls hl => ?_)
  obtain ⟨n4, h⟩ := h
  exact bX4_howManyLetters_4 X n4 a0 0 0 _ _ _ _ _  h hW (lv_sub hl [2, 1, 0] rfl)
def wX4_write_b30 (g : GS) (Q : Int32 → MI → MJ → Prop) : Nat → Int64 → Int32 → Int32 → MI → MJ → Prop
  | 0, _, _, _, _, _ => False
  | n + 1, v1, v3, v4, I, J => ((v3 ≤ v4 → Q ((u3 I 1 0 (upd (I 1 0) 1 ((I 1 0 1) + v3))) 1 0 1) (u3 I 1 0 (upd (I 1 0) 1 ((I 1 0 1) + v3))) J) ∧ (¬ v3 ≤ v4 → wX4_codeIn g v1 v4 I J (fun r50 I50 J50 => vp_in ((I 1 0 1) + v4) 20 ∧ (wX4_write_b30 g Q n v1 v3 (v4 + 1) (u3 I50 2 0 (upd (I50 2 0) (Int32.toNatClampNeg ((I 1 0 1) + v4)) r50)) J50))))
set_option maxHeartbeats 4000000 in
set_option maxRecDepth 100000 in
theorem bX4_write_30 {p : Program} {l : Launch} {e : Env} {s : State} {m : MethodId} {args : Array Value} {below : List Frame} {meth : Method} {c : Code} {E : WE} {Q : Int32 → MI → MJ → Prop} (X : Cx E cX4_write 5 RX4 ((Option.some FieldType.int)) p s m args c meth) (n : Nat) : ∀ (v1 : Int64) (v3 : Int32) (v4 : Int32) (I : MI) (J : MJ) (H : Heap) (locs : List Loc) (ls : Array Slot), wX4_write_b30 (wg E) Q n v1 v3 v4 I J → Wd E I J s H locs → lv_has ls 5 [(0, .ref (wa E 1 0)), (1, .long v1), (3, .int v3), (4, .int v4)] → W p l e (rmO 2 46) s m args below meth c H locs 0 0 (MQ below (QI E Q) args s 0 0 (AA E)) (F0 m 30 ls []) := by
  have hx := X.1.1
  have hb := X.1.2.1
  induction n with
  | zero => intro v1 v3 v4 I J H locs ls h hW hl; exact h.elim
  | succ n ih =>
    intro v1 v3 v4 I J H locs ls h hW hl
    refine lv_iload hx hb dX4_write_30 (lv_at hl 3 rfl) ?_
    refine lv_iload_n hx hb dX4_write_32 rfl (lv_at hl 2 rfl) ?_
    refine lv_icmp_ge (tgt := 60) hx hb dX4_write_33 (by decide) (fun c33 => ?_) (fun c33 => ?_)
    · have h := h.1 c33
      refine lv_aload_n hx hb dX4_write_60 rfl (lv_at hl 0 rfl) ?_
      refine lv_dup hx hb dX4_write_61 rfl ?_
      refine r_get X hW 1 (okS hW sc1_0) rfl rfl inX4 (Nat.le_of_ble_eq_true rfl) tw33 rfl dX4_write_62 ?_
      refine lv_iload_n hx hb dX4_write_65 rfl (lv_at hl 2 rfl) ?_
      refine lv_iadd hx hb dX4_write_66 ?_
      refine r_putI X hW 1 (okS hW sc1_0) rfl rfl inX4 tyX4 tyX4_ok nmX4 (Nat.le_of_ble_eq_true rfl) tw33 rfl rfl rfl rfl (Nat.le_of_ble_eq_true rfl) rfl dX4_write_67 (fun H locs hW => ?_)
      refine lv_aload_n hx hb dX4_write_70 rfl (lv_at hl 0 rfl) ?_
      refine r_get X hW 1 (okS hW sc1_0) rfl rfl inX4 (Nat.le_of_ble_eq_true rfl) tw33 rfl dX4_write_71 ?_
      exact e_i X hW h dX4_write_74
    · have h := h.2 c33
      refine lv_aload_n hx hb dX4_write_36 rfl (lv_at hl 0 rfl) ?_
      refine r_get X hW 0 (okS hW sc1_0) rfl rfl inX4 (Nat.le_of_ble_eq_true rfl) tw32 rfl dX4_write_37 ?_
      refine lv_aload_n hx hb dX4_write_40 rfl (lv_at hl 0 rfl) ?_
      refine r_get X hW 1 (okS hW sc1_0) rfl rfl inX4 (Nat.le_of_ble_eq_true rfl) tw33 rfl dX4_write_41 ?_
      refine lv_iload hx hb dX4_write_44 (lv_at hl 3 rfl) ?_
      refine lv_iadd hx hb dX4_write_46 ?_
      refine lv_lload_n hx hb dX4_write_47 rfl (lv_at hl 1 rfl) ?_
      refine lv_iload hx hb dX4_write_48 (lv_at hl 3 rfl) ?_
      refine af_i hW (rn_S X hW (As := [.long v1, .int v4]) (rest := [.int ((I 1 0 1) + v4), .ref (wa E 2 0)]) (kX4_codeIn h) mbX4_codeIn tw183 tw184 rfl hl.1 (Nat.le_of_ble_eq_true rfl) ⟨(Nat.le_of_ble_eq_true rfl), (Nat.le_of_ble_eq_true rfl)⟩ dX4_write_50) (fun r50 I50 J50 H locs h hW => ?_)
      refine r_iast X hW (okS hW sc2_0) (fun _ => rfl) h.1 dX4_write_53 (fun H locs hW => ?_)
      have h := h.2
      refine lv_iinc (v := v4 + 1) (lv' := [(4, .int (v4 + 1)), (0, .ref (wa E 1 0)), (1, .long v1), (3, .int v3)]) hx hb dX4_write_54 hl (k := 3) rfl rfl (by decide) rfl (fun ls hl => ?_)
      refine lv_goto (tgt := 30) hx hb dX4_write_57 (by decide) ?_
      exact ih v1 v3 (v4 + 1) _ _ _ _ _  h hW (lv_sub hl [1, 2, 3, 0] rfl)
def wX4_write (g : GS) (a1 : Int64) (I : MI) (J : MJ) (Q : Int32 → MI → MJ → Prop) : Prop :=
  wX4_howManyLetters g a1 I J (fun r1 I1 J1 => ((¬ r1 = ((-1)) → ((((I1 1 0 1) + r1) ≤ 20 → ∃ n30, wX4_write_b30 g Q n30 a1 r1 0 I1 J1) ∧ (¬ ((I1 1 0 1) + r1) ≤ 20 → Q ((-104)) I1 J1))) ∧ (r1 = ((-1)) → Q ((-102)) I1 J1)))
theorem mbX4_write : MB yX4_write cX4_write 5 ((Option.some FieldType.int)) 1 := ⟨tw179, tw2, ⟨by decide, by decide⟩, by decide +kernel, by decide +kernel⟩
set_option maxHeartbeats 4000000 in
set_option maxRecDepth 100000 in
theorem kX4_write {l : Launch} {E : WE} {a1 : Int64} {I : MI} {J : MJ} {Q : Int32 → MI → MJ → Prop} (h : wX4_write (wg E) a1 I J Q) : Met l yX4_write (wsM yX4_write cX4_write 5 ((Option.some FieldType.int))) (rmO 2 46) (va_Pc [.ref (wa E 1 0), .long a1] (Wp E I J)) (QI E Q) 0 0 (AA E) := by
  refine m_entry mbX4_write (Nat.le_of_ble_eq_true rfl) ?_
  intro p e s m args below meth c X ls hW hl
  have X : Cx E cX4_write 5 RX4 ((Option.some FieldType.int)) p s m args c meth := X
  have hx := X.1.1
  have hb := X.1.2.1
  have hl : lv_has ls 5 [(0, .ref (wa E 1 0)), (1, .long a1)] := hl
  refine lv_lload_n hx hb dX4_write_0 rfl (lv_at hl 1 rfl) ?_
  refine af_i hW (rn_S X hW (As := [.long a1]) (rest := []) (kX4_howManyLetters h) mbX4_howManyLetters tw180 tw181 rfl hl.1 (Nat.le_of_ble_eq_true rfl) ⟨(Nat.le_of_ble_eq_true rfl), (Nat.le_of_ble_eq_true rfl)⟩ dX4_write_1) (fun r1 I1 J1 H locs h hW => ?_)
  refine lv_istore_n (lv' := [(3, .int r1), (0, .ref (wa E 1 0)), (1, .long a1)]) hx hb dX4_write_4 rfl hl (by decide) rfl (fun ls hl => ?_)
  refine lv_iload_n hx hb dX4_write_5 rfl (lv_at hl 0 rfl) ?_
  refine lv_iconst (v := (-1)) hx hb dX4_write_6 (by decide) ?_
  refine lv_icmp_ne (tgt := 13) hx hb dX4_write_7 (by decide) (fun c7 => ?_) (fun c7 => ?_)
  · have h := h.1 c7
    refine lv_aload_n hx hb dX4_write_13 rfl (lv_at hl 1 rfl) ?_
    refine r_get X hW 1 (okS hW sc1_0) rfl rfl inX4 (Nat.le_of_ble_eq_true rfl) tw33 rfl dX4_write_14 ?_
    refine lv_iload_n hx hb dX4_write_17 rfl (lv_at hl 0 rfl) ?_
    refine lv_iadd hx hb dX4_write_18 ?_
    refine lv_bipush (v := 20) hx hb dX4_write_19 (by decide) ?_
    refine lv_icmp_le (tgt := 27) hx hb dX4_write_21 (by decide) (fun c21 => ?_) (fun c21 => ?_)
    · have h := h.1 c21
      refine lv_iconst (v := 0) hx hb dX4_write_27 (by decide) ?_
      refine lv_istore (lv' := [(4, .int 0), (3, .int r1), (0, .ref (wa E 1 0)), (1, .long a1)]) hx hb dX4_write_28 hl (by decide) rfl (fun ls hl => ?_)
      obtain ⟨n30, h⟩ := h
      exact bX4_write_30 X n30 a1 r1 0 _ _ _ _ _  h hW (lv_sub hl [2, 3, 1, 0] rfl)
    · have h := h.2 c21
      refine lv_bipush (v := (-104)) hx hb dX4_write_24 (by decide) ?_
      exact e_i X hW h dX4_write_26
  · have h := h.2 c7
    refine lv_bipush (v := (-102)) hx hb dX4_write_10 (by decide) ?_
    exact e_i X hW h dX4_write_12
