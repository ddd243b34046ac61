def wX12_wrongBy_b51 (g : GS) (ko5 : Int32 → Int32 → Int64 → Int32 → MI → MJ → Prop) (Q : Int64 → MI → MJ → Prop) (v1 : Int32) (v2 : Int32) (v5 : Int32) (t0 : Int64) (t1 : Int64) (I : MI) (J : MJ) : Prop :=
  ko5 v1 v2 (t1 + t0) (v5 + 1) I J
set_option maxHeartbeats 4000000 in
set_option maxRecDepth 100000 in
theorem bX12_wrongBy_51 {p : Program} {l : Launch} {e : Env} {s : State} {m : MethodId} {args : Array Value} {below : List Frame} {meth : Method} {c : Code} {E : WE} {Q : Int64 → MI → MJ → Prop} {ko5 : Int32 → Int32 → Int64 → Int32 → MI → MJ → Prop} (X : Cx E cX12_wrongBy 8 RX12 ((Option.some FieldType.long)) p s m args c meth)
    (hk5 : ∀ (v1 : Int32) (v2 : Int32) (v3 : Int64) (v5 : Int32) (I : MI) (J : MJ) (H : Heap) (locs : List Loc) (ls : Array Slot), ko5 v1 v2 v3 v5 I J → Wd E I J s H locs → lv_has ls 8 [(0, .ref (wa E 17 0)), (1, .int v1), (2, .int v2), (3, .long v3), (5, .int v5)] → W p l e (rmO 4 106) s m args below meth c H locs 0 0 (MQ below (QL E Q) args s 0 0 (AA E)) (F0 m 5 ls [])) : ∀ (v1 : Int32) (v2 : Int32) (v5 : Int32) (t0 : Int64) (t1 : Int64) (I : MI) (J : MJ) (H : Heap) (locs : List Loc) (ls : Array Slot), wX12_wrongBy_b51 (wg E) ko5 Q v1 v2 v5 t0 t1 I J → Wd E I J s H locs → lv_has ls 8 [(0, .ref (wa E 17 0)), (1, .int v1), (2, .int v2), (5, .int v5)] → W p l e (rmO 4 106) s m args below meth c H locs 0 0 (MQ below (QL E Q) args s 0 0 (AA E)) (F0 m 51 ls [.long t0, .long t1]) := by
  have hx := X.1.1
  have hb := X.1.2.1
  intro v1 v2 v5 t0 t1 I J H locs ls h hW hl
  refine lv_ladd hx hb dX12_wrongBy_51 ?_
  refine lv_lstore_n (lv' := [(3, .long (t1 + t0)), (0, .ref (wa E 17 0)), (1, .int v1), (2, .int v2), (5, .int v5)]) hx hb dX12_wrongBy_52 rfl hl (by decide) rfl (fun ls hl => ?_)
  refine lv_iinc (v := v5 + 1) (lv' := [(5, .int (v5 + 1)), (3, .long (t1 + t0)), (0, .ref (wa E 17 0)), (1, .int v1), (2, .int v2)]) hx hb dX12_wrongBy_53 hl (k := 4) rfl rfl (by decide) rfl (fun ls hl => ?_)
  refine lv_goto (tgt := 5) hx hb dX12_wrongBy_56 (by decide) ?_
  exact hk5 v1 v2 (t1 + t0) (v5 + 1) _ _ _ _ _  h hW (lv_sub hl [2, 3, 4, 1, 0] rfl)
def wX12_wrongBy_b5 (g : GS) (Q : Int64 → MI → MJ → Prop) : Nat → Int32 → Int32 → Int64 → Int32 → MI → MJ → Prop
  | 0, _, _, _, _, _, _ => False
  | n + 1, v1, v2, v3, v5, I, J => (((I 17 0 4) ≤ v5 → Q v3 I J) ∧ (¬ (I 17 0 4) ≤ v5 → wX12_inBy g v1 v5 v2 I J (fun r19 I19 J19 => wX12_isMinded g v5 I19 J19 (fun r28 I28 J28 => ((r28 = 0 → wX12_ones g v2 I28 J28 (fun r41 I41 J41 => wX12_tens g (2 * r41) I41 J41 (fun r45 I45 J45 => wX12_wrongBy_b51 g (fun v1 v2 v3 v5 I J => wX12_wrongBy_b5 g Q n v1 v2 v3 v5 I J) Q v1 v2 v5 (r45 - r19) v3 I45 J45))) ∧ (¬ r28 = 0 → wX12_wrongBy_b51 g (fun v1 v2 v3 v5 I J => wX12_wrongBy_b5 g Q n v1 v2 v3 v5 I J) Q v1 v2 v5 r19 v3 I28 J28))))))
set_option maxHeartbeats 4000000 in
set_option maxRecDepth 100000 in
theorem bX12_wrongBy_5 {p : Program} {l : Launch} {e : Env} {s : State} {m : MethodId} {args : Array Value} {below : List Frame} {meth : Method} {c : Code} {E : WE} {Q : Int64 → MI → MJ → Prop} (X : Cx E cX12_wrongBy 8 RX12 ((Option.some FieldType.long)) p s m args c meth) (n : Nat) : ∀ (v1 : Int32) (v2 : Int32) (v3 : Int64) (v5 : Int32) (I : MI) (J : MJ) (H : Heap) (locs : List Loc) (ls : Array Slot), wX12_wrongBy_b5 (wg E) Q n v1 v2 v3 v5 I J → Wd E I J s H locs → lv_has ls 8 [(0, .ref (wa E 17 0)), (1, .int v1), (2, .int v2), (3, .long v3), (5, .int v5)] → W p l e (rmO 4 106) s m args below meth c H locs 0 0 (MQ below (QL E Q) args s 0 0 (AA E)) (F0 m 5 ls []) := by
  have hx := X.1.1
  have hb := X.1.2.1
  induction n with
  | zero => intro v1 v2 v3 v5 I J H locs ls h hW hl; exact h.elim
  | succ n ih =>
    intro v1 v2 v3 v5 I J H locs ls h hW hl
    refine lv_iload hx hb dX12_wrongBy_5 (lv_at hl 4 rfl) ?_
    refine lv_aload_n hx hb dX12_wrongBy_7 rfl (lv_at hl 0 rfl) ?_
    refine r_get X hW 4 (okS hW sc17_0) rfl rfl inX12 (Nat.le_of_ble_eq_true rfl) tw838 rfl dX12_wrongBy_8 ?_
    refine lv_icmp_ge (tgt := 59) hx hb dX12_wrongBy_11 (by decide) (fun c11 => ?_) (fun c11 => ?_)
    · have h := h.1 c11
      refine lv_lload_n hx hb dX12_wrongBy_59 rfl (lv_at hl 3 rfl) ?_
      exact e_l X hW h dX12_wrongBy_60
    · have h := h.2 c11
      refine lv_aload_n hx hb dX12_wrongBy_14 rfl (lv_at hl 0 rfl) ?_
      refine lv_iload_n hx hb dX12_wrongBy_15 rfl (lv_at hl 1 rfl) ?_
      refine lv_iload hx hb dX12_wrongBy_16 (lv_at hl 4 rfl) ?_
      refine lv_iload_n hx hb dX12_wrongBy_18 rfl (lv_at hl 2 rfl) ?_
      refine af_l hW (rn_V X hW (As := [.int v1, .int v5, .int v2]) (rest := []) (okS hW sc17_0) rfl rfl (kX12_inBy h) mbX12_inBy tw1093 tw1095 tp40 rfl hl.1 (Nat.le_of_ble_eq_true rfl) ⟨(Nat.le_of_ble_eq_true rfl), (Nat.le_of_ble_eq_true rfl)⟩ dX12_wrongBy_19) (fun r19 I19 J19 H locs h hW => ?_)
      refine lv_lstore (lv' := [(6, .long r19), (0, .ref (wa E 17 0)), (1, .int v1), (2, .int v2), (3, .long v3), (5, .int v5)]) hx hb dX12_wrongBy_22 hl (by decide) rfl (fun ls hl => ?_)
      refine lv_lload_n hx hb dX12_wrongBy_24 rfl (lv_at hl 4 rfl) ?_
      refine lv_aload_n hx hb dX12_wrongBy_25 rfl (lv_at hl 1 rfl) ?_
      refine lv_iload hx hb dX12_wrongBy_26 (lv_at hl 5 rfl) ?_
      refine af_i hW (rn_V X hW (As := [.int v5]) (rest := [.long v3]) (okS hW sc17_0) rfl rfl (kX12_isMinded h) mbX12_isMinded tw1039 tw1041 tp34 rfl hl.1 (Nat.le_of_ble_eq_true rfl) ⟨(Nat.le_of_ble_eq_true rfl), (Nat.le_of_ble_eq_true rfl)⟩ dX12_wrongBy_28) (fun r28 I28 J28 H locs h hW => ?_)
      refine lv_if_eq (tgt := 39) hx hb dX12_wrongBy_31 (by decide) (fun c31 => ?_) (fun c31 => ?_)
      · have h := h.1 c31
        refine lv_iconst (v := 2) hx hb dX12_wrongBy_39 (by decide) ?_
        refine lv_iload_n hx hb dX12_wrongBy_40 rfl (lv_at hl 3 rfl) ?_
        refine af_i hW (rn_S X hW (As := [.int v2]) (rest := [.int 2, .long v3]) (kX12_ones h) mbX12_ones tw1058 tw1059 rfl hl.1 (Nat.le_of_ble_eq_true rfl) ⟨(Nat.le_of_ble_eq_true rfl), (Nat.le_of_ble_eq_true rfl)⟩ dX12_wrongBy_41) (fun r41 I41 J41 H locs h hW => ?_)
        refine lv_imul hx hb dX12_wrongBy_44 ?_
        refine af_l hW (rn_S X hW (As := [.int (2 * r41)]) (rest := [.long v3]) (kX12_tens h) mbX12_tens tw1080 tw1081 rfl hl.1 (Nat.le_of_ble_eq_true rfl) ⟨(Nat.le_of_ble_eq_true rfl), (Nat.le_of_ble_eq_true rfl)⟩ dX12_wrongBy_45) (fun r45 I45 J45 H locs h hW => ?_)
        refine lv_lload hx hb dX12_wrongBy_48 (lv_at hl 0 rfl) ?_
        refine lv_lsub hx hb dX12_wrongBy_50 ?_
        exact bX12_wrongBy_51 X ih v1 v2 v5 (r45 - r19) v3 _ _ _ _ _  h hW (lv_sub hl [1, 2, 3, 5] rfl)
      · have h := h.2 c31
        refine lv_lload hx hb dX12_wrongBy_34 (lv_at hl 0 rfl) ?_
        refine lv_goto (tgt := 51) hx hb dX12_wrongBy_36 (by decide) ?_
        exact bX12_wrongBy_51 X ih v1 v2 v5 r19 v3 _ _ _ _ _  h hW (lv_sub hl [1, 2, 3, 5] rfl)
def wX12_wrongBy (g : GS) (a1 : Int32) (a2 : Int32) (I : MI) (J : MJ) (Q : Int64 → MI → MJ → Prop) : Prop :=
  ∃ n5, wX12_wrongBy_b5 g Q n5 a1 a2 0 0 I J
theorem mbX12_wrongBy : MB yX12_wrongBy cX12_wrongBy 8 ((Option.some FieldType.long)) 2 := ⟨tw1121, tw7, ⟨by decide, by decide⟩, by decide +kernel, by decide +kernel⟩
set_option maxHeartbeats 4000000 in
set_option maxRecDepth 100000 in
theorem kX12_wrongBy {l : Launch} {E : WE} {a1 : Int32} {a2 : Int32} {I : MI} {J : MJ} {Q : Int64 → MI → MJ → Prop} (h : wX12_wrongBy (wg E) a1 a2 I J Q) : Met l yX12_wrongBy (wsM yX12_wrongBy cX12_wrongBy 8 ((Option.some FieldType.long))) (rmO 4 106) (va_Pc [.ref (wa E 17 0), .int a1, .int a2] (Wp E I J)) (QL E Q) 0 0 (AA E) := by
  refine m_entry mbX12_wrongBy (Nat.le_of_ble_eq_true rfl) ?_
  intro p e s m args below meth c X ls hW hl
  have X : Cx E cX12_wrongBy 8 RX12 ((Option.some FieldType.long)) p s m args c meth := X
  have hx := X.1.1
  have hb := X.1.2.1
  have hl : lv_has ls 8 [(0, .ref (wa E 17 0)), (1, .int a1), (2, .int a2)] := hl
  refine lv_lconst (v := 0) hx hb dX12_wrongBy_0 (by decide) ?_
  refine lv_lstore_n (lv' := [(3, .long 0), (0, .ref (wa E 17 0)), (1, .int a1), (2, .int a2)]) hx hb dX12_wrongBy_1 rfl hl (by decide) rfl (fun ls hl => ?_)
  refine lv_iconst (v := 0) hx hb dX12_wrongBy_2 (by decide) ?_
  refine lv_istore (lv' := [(5, .int 0), (3, .long 0), (0, .ref (wa E 17 0)), (1, .int a1), (2, .int a2)]) hx hb dX12_wrongBy_3 hl (by decide) rfl (fun ls hl => ?_)
  obtain ⟨n5, h⟩ := h
  exact bX12_wrongBy_5 X n5 a1 a2 0 0 _ _ _ _ _  h hW (lv_sub hl [2, 3, 4, 1, 0] rfl)
def wX12_wrong (g : GS) (a1 : Int32) (a2 : Int32) (I : MI) (J : MJ) (Q : Int64 → MI → MJ → Prop) : Prop :=
  wX12_isRule g a1 I J (fun r2 I2 J2 => ((¬ r2 = 0 → wX12_areComers g a2 I2 J2 (fun r14 I14 J14 => ((r14 = 0 → Q ((-102)) I14 J14) ∧ (¬ r14 = 0 → wX12_wrongBy g a1 a2 I14 J14 (fun r23 I23 J23 => Q r23 I23 J23))))) ∧ (r2 = 0 → Q ((-101)) I2 J2)))
theorem mbX12_wrong : MB yX12_wrong cX12_wrong 3 ((Option.some FieldType.long)) 2 := ⟨tw1117, tw7, ⟨by decide, by decide⟩, by decide +kernel, by decide +kernel⟩
set_option maxHeartbeats 4000000 in
set_option maxRecDepth 100000 in
theorem kX12_wrong {l : Launch} {E : WE} {a1 : Int32} {a2 : Int32} {I : MI} {J : MJ} {Q : Int64 → MI → MJ → Prop} (h : wX12_wrong (wg E) a1 a2 I J Q) : Met l yX12_wrong (wsM yX12_wrong cX12_wrong 3 ((Option.some FieldType.long))) (rmO 5 133) (va_Pc [.ref (wa E 17 0), .int a1, .int a2] (Wp E I J)) (QL E Q) 0 0 (AA E) := by
  refine m_entry mbX12_wrong (Nat.le_of_ble_eq_true rfl) ?_
  intro p e s m args below meth c X ls hW hl
  have X : Cx E cX12_wrong 3 RX12 ((Option.some FieldType.long)) p s m args c meth := X
  have hx := X.1.1
  have hb := X.1.2.1
  have hl : lv_has ls 3 [(0, .ref (wa E 17 0)), (1, .int a1), (2, .int a2)] := hl
  refine lv_aload_n hx hb dX12_wrong_0 rfl (lv_at hl 0 rfl) ?_
  refine lv_iload_n hx hb dX12_wrong_1 rfl (lv_at hl 1 rfl) ?_
  refine af_i hW (rn_V X hW (As := [.int a1]) (rest := []) (okS hW sc17_0) rfl rfl (kX12_isRule h) mbX12_isRule tw987 tw989 tp28 rfl hl.1 (Nat.le_of_ble_eq_true rfl) ⟨(Nat.le_of_ble_eq_true rfl), (Nat.le_of_ble_eq_true rfl)⟩ dX12_wrong_2) (fun r2 I2 J2 H locs h hW => ?_)
  refine lv_if_ne (tgt := 12) hx hb dX12_wrong_5 (by decide) (fun c5 => ?_) (fun c5 => ?_)
  · have h := h.1 c5
    refine lv_aload_n hx hb dX12_wrong_12 rfl (lv_at hl 0 rfl) ?_
    refine lv_iload_n hx hb dX12_wrong_13 rfl (lv_at hl 2 rfl) ?_
    refine af_i hW (rn_V X hW (As := [.int a2]) (rest := []) (okS hW sc17_0) rfl rfl (kX12_areComers h) mbX12_areComers tw1051 tw1053 tp36 rfl hl.1 (Nat.le_of_ble_eq_true rfl) ⟨(Nat.le_of_ble_eq_true rfl), (Nat.le_of_ble_eq_true rfl)⟩ dX12_wrong_14) (fun r14 I14 J14 H locs h hW => ?_)
    refine lv_if_eq (tgt := 29) hx hb dX12_wrong_17 (by decide) (fun c17 => ?_) (fun c17 => ?_)
    · have h := h.1 c17
      refine lv_ldc2 hx hb X.1.2.2.2.1 (X.1.2.2.2.2 _ tw1092) dX12_wrong_29 ?_
      exact e_l X hW h dX12_wrong_32
    · have h := h.2 c17
      refine lv_aload_n hx hb dX12_wrong_20 rfl (lv_at hl 0 rfl) ?_
      refine lv_iload_n hx hb dX12_wrong_21 rfl (lv_at hl 1 rfl) ?_
      refine lv_iload_n hx hb dX12_wrong_22 rfl (lv_at hl 2 rfl) ?_
      refine af_l hW (rn_V X hW (As := [.int a1, .int a2]) (rest := []) (okS hW sc17_0) rfl rfl (kX12_wrongBy h) mbX12_wrongBy tw1118 tw1120 tp44 rfl hl.1 (Nat.le_of_ble_eq_true rfl) ⟨(Nat.le_of_ble_eq_true rfl), (Nat.le_of_ble_eq_true rfl)⟩ dX12_wrong_23) (fun r23 I23 J23 H locs h hW => ?_)
      refine lv_goto (tgt := 32) hx hb dX12_wrong_26 (by decide) ?_
      exact e_l X hW h dX12_wrong_32
  · have h := h.2 c5
    refine lv_ldc2 hx hb X.1.2.2.2.1 (X.1.2.2.2.2 _ tw1091) dX12_wrong_8 ?_
    exact e_l X hW h dX12_wrong_11
def wX12_best_b78 (g : GS) (ko18 : Int32 → Int32 → Int64 → Int32 → MI → MJ → Prop) (Q : Int32 → MI → MJ → Prop) (v1 : Int32) (v2 : Int32) (v5 : Int32) (t0 : Int64) (I : MI) (J : MJ) : Prop :=
  ko18 v1 v2 t0 (v5 + 1) I J
set_option maxHeartbeats 4000000 in
set_option maxRecDepth 100000 in
theorem bX12_best_78 {p : Program} {l : Launch} {e : Env} {s : State} {m : MethodId} {args : Array Value} {below : List Frame} {meth : Method} {c : Code} {E : WE} {Q : Int32 → MI → MJ → Prop} {ko18 : Int32 → Int32 → Int64 → Int32 → MI → MJ → Prop} (X : Cx E cX12_best 9 RX12 ((Option.some FieldType.int)) p s m args c meth)
    (hk18 : ∀ (v1 : Int32) (v2 : Int32) (v3 : Int64) (v5 : Int32) (I : MI) (J : MJ) (H : Heap) (locs : List Loc) (ls : Array Slot), ko18 v1 v2 v3 v5 I J → Wd E I J s H locs → lv_has ls 9 [(0, .ref (wa E 17 0)), (1, .int v1), (2, .int v2), (3, .long v3), (5, .int v5)] → W p l e (rmO 5 133) s m args below meth c H locs 0 0 (MQ below (QI E Q) args s 0 0 (AA E)) (F0 m 18 ls [])) : ∀ (v1 : Int32) (v2 : Int32) (v5 : Int32) (t0 : Int64) (I : MI) (J : MJ) (H : Heap) (locs : List Loc) (ls : Array Slot), wX12_best_b78 (wg E) ko18 Q v1 v2 v5 t0 I J → Wd E I J s H locs → lv_has ls 9 [(0, .ref (wa E 17 0)), (1, .int v1), (2, .int v2), (5, .int v5)] → W p l e (rmO 5 133) s m args below meth c H locs 0 0 (MQ below (QI E Q) args s 0 0 (AA E)) (F0 m 78 ls [.long t0]) := by
  have hx := X.1.1
  have hb := X.1.2.1
  intro v1 v2 v5 t0 I J H locs ls h hW hl
  refine lv_lstore_n (lv' := [(3, .long t0), (0, .ref (wa E 17 0)), (1, .int v1), (2, .int v2), (5, .int v5)]) hx hb dX12_best_78 rfl hl (by decide) rfl (fun ls hl => ?_)
  refine lv_iinc (v := v5 + 1) (lv' := [(5, .int (v5 + 1)), (3, .long t0), (0, .ref (wa E 17 0)), (1, .int v1), (2, .int v2)]) hx hb dX12_best_79 hl (k := 4) rfl rfl (by decide) rfl (fun ls hl => ?_)
  refine lv_goto (tgt := 18) hx hb dX12_best_82 (by decide) ?_
  exact hk18 v1 v2 t0 (v5 + 1) _ _ _ _ _  h hW (lv_sub hl [2, 3, 4, 1, 0] rfl)
def wX12_best_b66 (g : GS) (ko18 : Int32 → Int32 → Int64 → Int32 → MI → MJ → Prop) (Q : Int32 → MI → MJ → Prop) (v1 : Int32) (v3 : Int64) (v5 : Int32) (v6 : Int64) (v8 : Int32) (t0 : Int32) (I : MI) (J : MJ) : Prop :=
  ((v8 = 0 → wX12_best_b78 g ko18 Q v1 t0 v5 v3 I J) ∧ (¬ v8 = 0 → wX12_best_b78 g ko18 Q v1 t0 v5 v6 I J))
set_option maxHeartbeats 4000000 in
set_option maxRecDepth 100000 in
theorem bX12_best_66 {p : Program} {l : Launch} {e : Env} {s : State} {m : MethodId} {args : Array Value} {below : List Frame} {meth : Method} {c : Code} {E : WE} {Q : Int32 → MI → MJ → Prop} {ko18 : Int32 → Int32 → Int64 → Int32 → MI → MJ → Prop} (X : Cx E cX12_best 9 RX12 ((Option.some FieldType.int)) p s m args c meth)
    (hk18 : ∀ (v1 : Int32) (v2 : Int32) (v3 : Int64) (v5 : Int32) (I : MI) (J : MJ) (H : Heap) (locs : List Loc) (ls : Array Slot), ko18 v1 v2 v3 v5 I J → Wd E I J s H locs → lv_has ls 9 [(0, .ref (wa E 17 0)), (1, .int v1), (2, .int v2), (3, .long v3), (5, .int v5)] → W p l e (rmO 5 133) s m args below meth c H locs 0 0 (MQ below (QI E Q) args s 0 0 (AA E)) (F0 m 18 ls [])) : ∀ (v1 : Int32) (v3 : Int64) (v5 : Int32) (v6 : Int64) (v8 : Int32) (t0 : Int32) (I : MI) (J : MJ) (H : Heap) (locs : List Loc) (ls : Array Slot), wX12_best_b66 (wg E) ko18 Q v1 v3 v5 v6 v8 t0 I J → Wd E I J s H locs → lv_has ls 9 [(0, .ref (wa E 17 0)), (1, .int v1), (3, .long v3), (5, .int v5), (6, .long v6), (8, .int v8)] → W p l e (rmO 5 133) s m args below meth c H locs 0 0 (MQ below (QI E Q) args s 0 0 (AA E)) (F0 m 66 ls [.int t0]) := by
  have hx := X.1.1
  have hb := X.1.2.1
  intro v1 v3 v5 v6 v8 t0 I J H locs ls h hW hl
  refine lv_istore_n (lv' := [(2, .int t0), (0, .ref (wa E 17 0)), (1, .int v1), (3, .long v3), (5, .int v5), (6, .long v6), (8, .int v8)]) hx hb dX12_best_66 rfl hl (by decide) rfl (fun ls hl => ?_)
  refine lv_iload hx hb dX12_best_67 (lv_at hl 6 rfl) ?_
  refine lv_if_eq (tgt := 77) hx hb dX12_best_69 (by decide) (fun c69 => ?_) (fun c69 => ?_)
  · have h := h.1 c69
    refine lv_lload_n hx hb dX12_best_77 rfl (lv_at hl 3 rfl) ?_
    exact bX12_best_78 X hk18 v1 t0 v5 v3 _ _ _ _ _  h hW (lv_sub hl [1, 2, 0, 4] rfl)
  · have h := h.2 c69
    refine lv_lload hx hb dX12_best_72 (lv_at hl 5 rfl) ?_
    refine lv_goto (tgt := 78) hx hb dX12_best_74 (by decide) ?_
    exact bX12_best_78 X hk18 v1 t0 v5 v6 _ _ _ _ _  h hW (lv_sub hl [1, 2, 0, 4] rfl)
def wX12_best_b53 (g : GS) (ko18 : Int32 → Int32 → Int64 → Int32 → MI → MJ → Prop) (Q : Int32 → MI → MJ → Prop) (v1 : Int32) (v2 : Int32) (v3 : Int64) (v5 : Int32) (v6 : Int64) (t0 : Int32) (I : MI) (J : MJ) : Prop :=
  ((t0 = 0 → wX12_best_b66 g ko18 Q v1 v3 v5 v6 t0 v2 I J) ∧ (¬ t0 = 0 → wX12_best_b66 g ko18 Q v1 v3 v5 v6 t0 v5 I J))
set_option maxHeartbeats 4000000 in
set_option maxRecDepth 100000 in
theorem bX12_best_53 {p : Program} {l : Launch} {e : Env} {s : State} {m : MethodId} {args : Array Value} {below : List Frame} {meth : Method} {c : Code} {E : WE} {Q : Int32 → MI → MJ → Prop} {ko18 : Int32 → Int32 → Int64 → Int32 → MI → MJ → Prop} (X : Cx E cX12_best 9 RX12 ((Option.some FieldType.int)) p s m args c meth)
    (hk18 : ∀ (v1 : Int32) (v2 : Int32) (v3 : Int64) (v5 : Int32) (I : MI) (J : MJ) (H : Heap) (locs : List Loc) (ls : Array Slot), ko18 v1 v2 v3 v5 I J → Wd E I J s H locs → lv_has ls 9 [(0, .ref (wa E 17 0)), (1, .int v1), (2, .int v2), (3, .long v3), (5, .int v5)] → W p l e (rmO 5 133) s m args below meth c H locs 0 0 (MQ below (QI E Q) args s 0 0 (AA E)) (F0 m 18 ls [])) : ∀ (v1 : Int32) (v2 : Int32) (v3 : Int64) (v5 : Int32) (v6 : Int64) (t0 : Int32) (I : MI) (J : MJ) (H : Heap) (locs : List Loc) (ls : Array Slot), wX12_best_b53 (wg E) ko18 Q v1 v2 v3 v5 v6 t0 I J → Wd E I J s H locs → lv_has ls 9 [(0, .ref (wa E 17 0)), (1, .int v1), (2, .int v2), (3, .long v3), (5, .int v5), (6, .long v6)] → W p l e (rmO 5 133) s m args below meth c H locs 0 0 (MQ below (QI E Q) args s 0 0 (AA E)) (F0 m 53 ls [.int t0]) := by
  have hx := X.1.1
  have hb := X.1.2.1
  intro v1 v2 v3 v5 v6 t0 I J H locs ls h hW hl
  refine lv_istore (lv' := [(8, .int t0), (0, .ref (wa E 17 0)), (1, .int v1), (2, .int v2), (3, .long v3), (5, .int v5), (6, .long v6)]) hx hb dX12_best_53 hl (by decide) rfl (fun ls hl => ?_)
  refine lv_iload hx hb dX12_best_55 (lv_at hl 0 rfl) ?_
  refine lv_if_eq (tgt := 65) hx hb dX12_best_57 (by decide) (fun c57 => ?_) (fun c57 => ?_)
  · have h := h.1 c57
    refine lv_iload_n hx hb dX12_best_65 rfl (lv_at hl 3 rfl) ?_
    exact bX12_best_66 X hk18 v1 v3 v5 v6 t0 v2 _ _ _ _ _  h hW (lv_sub hl [1, 2, 4, 5, 6, 0] rfl)
  · have h := h.2 c57
    refine lv_iload hx hb dX12_best_60 (lv_at hl 5 rfl) ?_
    refine lv_goto (tgt := 66) hx hb dX12_best_62 (by decide) ?_
    exact bX12_best_66 X hk18 v1 v3 v5 v6 t0 v5 _ _ _ _ _  h hW (lv_sub hl [1, 2, 4, 5, 6, 0] rfl)
def wX12_best_b48 (g : GS) (ko18 : Int32 → Int32 → Int64 → Int32 → MI → MJ → Prop) (Q : Int32 → MI → MJ → Prop) (v1 : Int32) (v2 : Int32) (v3 : Int64) (v5 : Int32) (v6 : Int64) (I : MI) (J : MJ) : Prop :=
  wX12_best_b53 g ko18 Q v1 v2 v3 v5 v6 1 I J
set_option maxHeartbeats 4000000 in
set_option maxRecDepth 100000 in
theorem bX12_best_48 {p : Program} {l : Launch} {e : Env} {s : State} {m : MethodId} {args : Array Value} {below : List Frame} {meth : Method} {c : Code} {E : WE} {Q : Int32 → MI → MJ → Prop} {ko18 : Int32 → Int32 → Int64 → Int32 → MI → MJ → Prop} (X : Cx E cX12_best 9 RX12 ((Option.some FieldType.int)) p s m args c meth)
    (hk18 : ∀ (v1 : Int32) (v2 : Int32) (v3 : Int64) (v5 : Int32) (I : MI) (J : MJ) (H : Heap) (locs : List Loc) (ls : Array Slot), ko18 v1 v2 v3 v5 I J → Wd E I J s H locs → lv_has ls 9 [(0, .ref (wa E 17 0)), (1, .int v1), (2, .int v2), (3, .long v3), (5, .int v5)] → W p l e (rmO 5 133) s m args below meth c H locs 0 0 (MQ below (QI E Q) args s 0 0 (AA E)) (F0 m 18 ls [])) : ∀ (v1 : Int32) (v2 : Int32) (v3 : Int64) (v5 : Int32) (v6 : Int64) (I : MI) (J : MJ) (H : Heap) (locs : List Loc) (ls : Array Slot), wX12_best_b48 (wg E) ko18 Q v1 v2 v3 v5 v6 I J → Wd E I J s H locs → lv_has ls 9 [(0, .ref (wa E 17 0)), (1, .int v1), (2, .int v2), (3, .long v3), (5, .int v5), (6, .long v6)] → W p l e (rmO 5 133) s m args below meth c H locs 0 0 (MQ below (QI E Q) args s 0 0 (AA E)) (F0 m 48 ls []) := by
  have hx := X.1.1
  have hb := X.1.2.1
  intro v1 v2 v3 v5 v6 I J H locs ls h hW hl
  refine lv_iconst (v := 1) hx hb dX12_best_48 (by decide) ?_
  refine lv_goto (tgt := 53) hx hb dX12_best_49 (by decide) ?_
  exact bX12_best_53 X hk18 v1 v2 v3 v5 v6 1 _ _ _ _ _  h hW (lv_sub hl [0, 1, 2, 3, 4, 5] rfl)
def wX12_best_b18 (g : GS) (Q : Int32 → MI → MJ → Prop) : Nat → Int32 → Int32 → Int64 → Int32 → MI → MJ → Prop
  | 0, _, _, _, _, _, _ => False
  | n + 1, v1, v2, v3, v5, I, J => (((I 17 0 7) ≤ v5 → Q v2 I J) ∧ (¬ (I 17 0 7) ≤ v5 → wX12_wrongBy g v5 v1 I J (fun r31 I31 J31 => ((v2 = ((-1)) → wX12_best_b48 g (fun v1 v2 v3 v5 I J => wX12_best_b18 g Q n v1 v2 v3 v5 I J) Q v1 v2 v3 v5 r31 I31 J31) ∧ (¬ v2 = ((-1)) → ((0 ≤ (lg_cmp r31 v3) → wX12_best_b53 g (fun v1 v2 v3 v5 I J => wX12_best_b18 g Q n v1 v2 v3 v5 I J) Q v1 v2 v3 v5 r31 0 I31 J31) ∧ (¬ 0 ≤ (lg_cmp r31 v3) → wX12_best_b48 g (fun v1 v2 v3 v5 I J => wX12_best_b18 g Q n v1 v2 v3 v5 I J) Q v1 v2 v3 v5 r31 I31 J31)))))))
set_option maxHeartbeats 4000000 in
set_option maxRecDepth 100000 in
theorem bX12_best_18 {p : Program} {l : Launch} {e : Env} {s : State} {m : MethodId} {args : Array Value} {below : List Frame} {meth : Method} {c : Code} {E : WE} {Q : Int32 → MI → MJ → Prop} (X : Cx E cX12_best 9 RX12 ((Option.some FieldType.int)) p s m args c meth) (n : Nat) : ∀ (v1 : Int32) (v2 : Int32) (v3 : Int64) (v5 : Int32) (I : MI) (J : MJ) (H : Heap) (locs : List Loc) (ls : Array Slot), wX12_best_b18 (wg E) Q n v1 v2 v3 v5 I J → Wd E I J s H locs → lv_has ls 9 [(0, .ref (wa E 17 0)), (1, .int v1), (2, .int v2), (3, .long v3), (5, .int v5)] → W p l e (rmO 5 133) s m args below meth c H locs 0 0 (MQ below (QI E Q) args s 0 0 (AA E)) (F0 m 18 ls []) := by
  have hx := X.1.1
  have hb := X.1.2.1
  induction n with
  | zero => intro v1 v2 v3 v5 I J H locs ls h hW hl; exact h.elim
  | succ n ih =>
    intro v1 v2 v3 v5 I J H locs ls h hW hl
    refine lv_iload hx hb dX12_best_18 (lv_at hl 4 rfl) ?_
    refine lv_aload_n hx hb dX12_best_20 rfl (lv_at hl 0 rfl) ?_
    refine r_get X hW 7 (okS hW sc17_0) rfl rfl inX12 (Nat.le_of_ble_eq_true rfl) tw841 rfl dX12_best_21 ?_
    refine lv_icmp_ge (tgt := 85) hx hb dX12_best_24 (by decide) (fun c24 => ?_) (fun c24 => ?_)
    · have h := h.1 c24
      refine lv_iload_n hx hb dX12_best_85 rfl (lv_at hl 2 rfl) ?_
      exact e_i X hW h dX12_best_86
    · have h := h.2 c24
      refine lv_aload_n hx hb dX12_best_27 rfl (lv_at hl 0 rfl) ?_
      refine lv_iload hx hb dX12_best_28 (lv_at hl 4 rfl) ?_
      refine lv_iload_n hx hb dX12_best_30 rfl (lv_at hl 1 rfl) ?_
      refine af_l hW (rn_V X hW (As := [.int v5, .int v1]) (rest := []) (okS hW sc17_0) rfl rfl (kX12_wrongBy h) mbX12_wrongBy tw1118 tw1120 tp44 rfl hl.1 (Nat.le_of_ble_eq_true rfl) ⟨(Nat.le_of_ble_eq_true rfl), (Nat.le_of_ble_eq_true rfl)⟩ dX12_best_31) (fun r31 I31 J31 H locs h hW => ?_)
      refine lv_lstore (lv' := [(6, .long r31), (0, .ref (wa E 17 0)), (1, .int v1), (2, .int v2), (3, .long v3), (5, .int v5)]) hx hb dX12_best_34 hl (by decide) rfl (fun ls hl => ?_)
      refine lv_iload_n hx hb dX12_best_36 rfl (lv_at hl 3 rfl) ?_
      refine lv_iconst (v := (-1)) hx hb dX12_best_37 (by decide) ?_
      refine lv_icmp_eq (tgt := 48) hx hb dX12_best_38 (by decide) (fun c38 => ?_) (fun c38 => ?_)
      · have h := h.1 c38
        exact bX12_best_48 X ih v1 v2 v3 v5 r31 _ _ _ _ _  h hW (lv_sub hl [1, 2, 3, 4, 5, 0] rfl)
      · have h := h.2 c38
        refine lv_lload hx hb dX12_best_41 (lv_at hl 0 rfl) ?_
        refine lv_lload_n hx hb dX12_best_43 rfl (lv_at hl 4 rfl) ?_
        refine W.lcmp hx hb dX12_best_44 ?_
        refine lv_if_ge (tgt := 52) hx hb dX12_best_45 (by decide) (fun c45 => ?_) (fun c45 => ?_)
        · have h := h.1 c45
          refine lv_iconst (v := 0) hx hb dX12_best_52 (by decide) ?_
          exact bX12_best_53 X ih v1 v2 v3 v5 r31 0 _ _ _ _ _  h hW (lv_sub hl [1, 2, 3, 4, 5, 0] rfl)
        · have h := h.2 c45
          exact bX12_best_48 X ih v1 v2 v3 v5 r31 _ _ _ _ _  h hW (lv_sub hl [1, 2, 3, 4, 5, 0] rfl)
def wX12_best (g : GS) (a1 : Int32) (I : MI) (J : MJ) (Q : Int32 → MI → MJ → Prop) : Prop :=
  wX12_areComers g a1 I J (fun r2 I2 J2 => ((¬ r2 = 0 → ∃ n18, wX12_best_b18 g Q n18 a1 ((-1)) 0 0 I2 J2) ∧ (r2 = 0 → Q ((-102)) I2 J2)))
theorem mbX12_best : MB yX12_best cX12_best 9 ((Option.some FieldType.int)) 1 := ⟨tw1125, tw7, ⟨by decide, by decide⟩, by decide +kernel, by decide +kernel⟩
set_option maxHeartbeats 4000000 in
set_option maxRecDepth 100000 in
theorem kX12_best {l : Launch} {E : WE} {a1 : Int32} {I : MI} {J : MJ} {Q : Int32 → MI → MJ → Prop} (h : wX12_best (wg E) a1 I J Q) : Met l yX12_best (wsM yX12_best cX12_best 9 ((Option.some FieldType.int))) (rmO 5 133) (va_Pc [.ref (wa E 17 0), .int a1] (Wp E I J)) (QI E Q) 0 0 (AA E) := by
  refine m_entry mbX12_best (Nat.le_of_ble_eq_true rfl) ?_
  intro p e s m args below meth c X ls hW hl
  have X : Cx E cX12_best 9 RX12 ((Option.some FieldType.int)) p s m args c meth := X
  have hx := X.1.1
  have hb := X.1.2.1
  have hl : lv_has ls 9 [(0, .ref (wa E 17 0)), (1, .int a1)] := hl
  refine lv_aload_n hx hb dX12_best_0 rfl (lv_at hl 0 rfl) ?_
  refine lv_iload_n hx hb dX12_best_1 rfl (lv_at hl 1 rfl) ?_
  refine af_i hW (rn_V X hW (As := [.int a1]) (rest := []) (okS hW sc17_0) rfl rfl (kX12_areComers h) mbX12_areComers tw1051 tw1053 tp36 rfl hl.1 (Nat.le_of_ble_eq_true rfl) ⟨(Nat.le_of_ble_eq_true rfl), (Nat.le_of_ble_eq_true rfl)⟩ dX12_best_2) (fun r2 I2 J2 H locs h hW => ?_)
  refine lv_if_ne (tgt := 11) hx hb dX12_best_5 (by decide) (fun c5 => ?_) (fun c5 => ?_)
  · have h := h.1 c5
    refine lv_iconst (v := (-1)) hx hb dX12_best_11 (by decide) ?_
    refine lv_istore_n (lv' := [(2, .int ((-1))), (0, .ref (wa E 17 0)), (1, .int a1)]) hx hb dX12_best_12 rfl hl (by decide) rfl (fun ls hl => ?_)
    refine lv_lconst (v := 0) hx hb dX12_best_13 (by decide) ?_
    refine lv_lstore_n (lv' := [(3, .long 0), (2, .int ((-1))), (0, .ref (wa E 17 0)), (1, .int a1)]) hx hb dX12_best_14 rfl hl (by decide) rfl (fun ls hl => ?_)
    refine lv_iconst (v := 0) hx hb dX12_best_15 (by decide) ?_
    refine lv_istore (lv' := [(5, .int 0), (3, .long 0), (2, .int ((-1))), (0, .ref (wa E 17 0)), (1, .int a1)]) hx hb dX12_best_16 hl (by decide) rfl (fun ls hl => ?_)
    obtain ⟨n18, h⟩ := h
    exact bX12_best_18 X n18 a1 ((-1)) 0 0 _ _ _ _ _  h hW (lv_sub hl [3, 4, 2, 1, 0] rfl)
  · have h := h.2 c5
    refine lv_bipush (v := (-102)) hx hb dX12_best_8 (by decide) ?_
    exact e_i X hW h dX12_best_10
def wX12_isAsked (g : GS) (a1 : Int32) (a2 : Int32) (a3 : Int32) (I : MI) (J : MJ) (Q : Int32 → MI → MJ → Prop) : Prop :=
  wX12_areComers g a1 I J (fun r2 I2 J2 => ((r2 = 0 → Q 0 I2 J2) ∧ (¬ r2 = 0 → wX12_has g a1 a2 I2 J2 (fun r10 I10 J10 => ((r10 = 0 → Q 0 I10 J10) ∧ (¬ r10 = 0 → wX12_isPart g a3 I10 J10 (fun r17 I17 J17 => ((r17 = 0 → Q 0 I17 J17) ∧ (¬ r17 = 0 → Q 1 I17 J17)))))))))
theorem mbX12_isAsked : MB yX12_isAsked cX12_isAsked 4 ((Option.some FieldType.boolean)) 3 := ⟨tw1133, tw7, ⟨by decide, by decide⟩, by decide +kernel, by decide +kernel⟩
set_option maxHeartbeats 4000000 in
set_option maxRecDepth 100000 in
theorem kX12_isAsked {l : Launch} {E : WE} {a1 : Int32} {a2 : Int32} {a3 : Int32} {I : MI} {J : MJ} {Q : Int32 → MI → MJ → Prop} (h : wX12_isAsked (wg E) a1 a2 a3 I J Q) : Met l yX12_isAsked (wsM yX12_isAsked cX12_isAsked 4 ((Option.some FieldType.boolean))) (rmO 2 43) (va_Pc [.ref (wa E 17 0), .int a1, .int a2, .int a3] (Wp E I J)) (QI E Q) 0 0 (AA E) := by
  refine m_entry mbX12_isAsked (Nat.le_of_ble_eq_true rfl) ?_
  intro p e s m args below meth c X ls hW hl
  have X : Cx E cX12_isAsked 4 RX12 ((Option.some FieldType.boolean)) p s m args c meth := X
  have hx := X.1.1
  have hb := X.1.2.1
  have hl : lv_has ls 4 [(0, .ref (wa E 17 0)), (1, .int a1), (2, .int a2), (3, .int a3)] := hl
  refine lv_aload_n hx hb dX12_isAsked_0 rfl (lv_at hl 0 rfl) ?_
  refine lv_iload_n hx hb dX12_isAsked_1 rfl (lv_at hl 1 rfl) ?_
  refine af_i hW (rn_V X hW (As := [.int a1]) (rest := []) (okS hW sc17_0) rfl rfl (kX12_areComers h) mbX12_areComers tw1051 tw1053 tp36 rfl hl.1 (Nat.le_of_ble_eq_true rfl) ⟨(Nat.le_of_ble_eq_true rfl), (Nat.le_of_ble_eq_true rfl)⟩ dX12_isAsked_2) (fun r2 I2 J2 H locs h hW => ?_)
  refine lv_if_eq (tgt := 27) hx hb dX12_isAsked_5 (by decide) (fun c5 => ?_) (fun c5 => ?_)
  · have h := h.1 c5
    refine lv_iconst (v := 0) hx hb dX12_isAsked_27 (by decide) ?_
    exact e_z X hW rfl h dX12_isAsked_28
  · have h := h.2 c5
    refine lv_iload_n hx hb dX12_isAsked_8 rfl (lv_at hl 1 rfl) ?_
    refine lv_iload_n hx hb dX12_isAsked_9 rfl (lv_at hl 2 rfl) ?_
    refine af_i hW (rn_S X hW (As := [.int a1, .int a2]) (rest := []) (kX12_has h) mbX12_has tw1055 tw1056 rfl hl.1 (Nat.le_of_ble_eq_true rfl) ⟨(Nat.le_of_ble_eq_true rfl), (Nat.le_of_ble_eq_true rfl)⟩ dX12_isAsked_10) (fun r10 I10 J10 H locs h hW => ?_)
    refine lv_if_eq (tgt := 27) hx hb dX12_isAsked_13 (by decide) (fun c13 => ?_) (fun c13 => ?_)
    · have h := h.1 c13
      refine lv_iconst (v := 0) hx hb dX12_isAsked_27 (by decide) ?_
      exact e_z X hW rfl h dX12_isAsked_28
    · have h := h.2 c13
      refine lv_iload_n hx hb dX12_isAsked_16 rfl (lv_at hl 3 rfl) ?_
      refine af_i hW (rn_S X hW (As := [.int a3]) (rest := []) (kX12_isPart h) mbX12_isPart tw1073 tw1074 rfl hl.1 (Nat.le_of_ble_eq_true rfl) ⟨(Nat.le_of_ble_eq_true rfl), (Nat.le_of_ble_eq_true rfl)⟩ dX12_isAsked_17) (fun r17 I17 J17 H locs h hW => ?_)
      refine lv_if_eq (tgt := 27) hx hb dX12_isAsked_20 (by decide) (fun c20 => ?_) (fun c20 => ?_)
      · have h := h.1 c20
        refine lv_iconst (v := 0) hx hb dX12_isAsked_27 (by decide) ?_
        exact e_z X hW rfl h dX12_isAsked_28
      · have h := h.2 c20
        refine lv_iconst (v := 1) hx hb dX12_isAsked_23 (by decide) ?_
        refine lv_goto (tgt := 28) hx hb dX12_isAsked_24 (by decide) ?_
        exact e_z X hW rfl h dX12_isAsked_28
def wX12_who_b192 (g : GS) (ko85 : Int32 → Int32 → Int32 → Int32 → Int32 → Int64 → Int64 → Int32 → MI → MJ → Prop) (Q : Int32 → MI → MJ → Prop) (v1 : Int32) (v5 : Int32) (v6 : Int32) (v7 : Int32) (v8 : Int32) (v9 : Int64) (v13 : Int32) (t0 : Int64) (t1 : Int64) (I : MI) (J : MJ) : Prop :=
  ko85 v1 v5 v6 v7 v8 v9 (t1 + t0) (v13 + 1) I J
set_option maxHeartbeats 4000000 in
set_option maxRecDepth 100000 in
theorem bX12_who_192 {p : Program} {l : Launch} {e : Env} {s : State} {m : MethodId} {args : Array Value} {below : List Frame} {meth : Method} {c : Code} {E : WE} {Q : Int32 → MI → MJ → Prop} {ko85 : Int32 → Int32 → Int32 → Int32 → Int32 → Int64 → Int64 → Int32 → MI → MJ → Prop} (X : Cx E cX12_who 17 RX12 ((Option.some FieldType.int)) p s m args c meth)
    (hk85 : ∀ (v1 : Int32) (v5 : Int32) (v6 : Int32) (v7 : Int32) (v8 : Int32) (v9 : Int64) (v11 : Int64) (v13 : Int32) (I : MI) (J : MJ) (H : Heap) (locs : List Loc) (ls : Array Slot), ko85 v1 v5 v6 v7 v8 v9 v11 v13 I J → Wd E I J s H locs → lv_has ls 17 [(0, .ref (wa E 17 0)), (1, .int v1), (5, .int v5), (6, .int v6), (7, .int v7), (8, .int v8), (9, .long v9), (11, .long v11), (13, .int v13)] → W p l e (rmO 3 66) s m args below meth c H locs 0 0 (MQ below (QI E Q) args s 0 0 (AA E)) (F0 m 85 ls [])) : ∀ (v1 : Int32) (v5 : Int32) (v6 : Int32) (v7 : Int32) (v8 : Int32) (v9 : Int64) (v13 : Int32) (t0 : Int64) (t1 : Int64) (I : MI) (J : MJ) (H : Heap) (locs : List Loc) (ls : Array Slot), wX12_who_b192 (wg E) ko85 Q v1 v5 v6 v7 v8 v9 v13 t0 t1 I J → Wd E I J s H locs → lv_has ls 17 [(0, .ref (wa E 17 0)), (1, .int v1), (5, .int v5), (6, .int v6), (7, .int v7), (8, .int v8), (9, .long v9), (13, .int v13)] → W p l e (rmO 3 66) s m args below meth c H locs 0 0 (MQ below (QI E Q) args s 0 0 (AA E)) (F0 m 192 ls [.long t0, .long t1]) := by
  have hx := X.1.1
  have hb := X.1.2.1
  intro v1 v5 v6 v7 v8 v9 v13 t0 t1 I J H locs ls h hW hl
  refine lv_ladd hx hb dX12_who_192 ?_
  refine lv_lstore (lv' := [(11, .long (t1 + t0)), (0, .ref (wa E 17 0)), (1, .int v1), (5, .int v5), (6, .int v6), (7, .int v7), (8, .int v8), (9, .long v9), (13, .int v13)]) hx hb dX12_who_193 hl (by decide) rfl (fun ls hl => ?_)
  refine lv_iinc (v := v13 + 1) (lv' := [(13, .int (v13 + 1)), (11, .long (t1 + t0)), (0, .ref (wa E 17 0)), (1, .int v1), (5, .int v5), (6, .int v6), (7, .int v7), (8, .int v8), (9, .long v9)]) hx hb dX12_who_195 hl (k := 8) rfl rfl (by decide) rfl (fun ls hl => ?_)
  refine lv_goto (tgt := 85) hx hb dX12_who_198 (by decide) ?_
  exact hk85 v1 v5 v6 v7 v8 v9 (t1 + t0) (v13 + 1) _ _ _ _ _  h hW (lv_sub hl [2, 3, 4, 5, 6, 7, 8, 1, 0] rfl)
def wX12_who_b161 (g : GS) (ko85 : Int32 → Int32 → Int32 → Int32 → Int32 → Int64 → Int64 → Int32 → MI → MJ → Prop) (Q : Int32 → MI → MJ → Prop) (v1 : Int32) (v5 : Int32) (v6 : Int32) (v7 : Int32) (v8 : Int32) (v11 : Int64) (v13 : Int32) (v14 : Int32) (v15 : Int64) (t0 : Int64) (t1 : Int64) (I : MI) (J : MJ) : Prop :=
  ((v14 = 0 → wX12_who_b192 g ko85 Q v1 v5 v6 v7 v8 (t1 + t0) v13 0 v11 I J) ∧ (¬ v14 = 0 → vp_in v13 9 ∧ (wX12_who_b192 g ko85 Q v1 v5 v6 v7 v8 (t1 + t0) v13 (v15 + ((J 31 0 (Int32.toNatClampNeg v13)) * (Int32.toInt64 (10 - v8)))) v11 I J)))
set_option maxHeartbeats 4000000 in
set_option maxRecDepth 100000 in
theorem bX12_who_161 {p : Program} {l : Launch} {e : Env} {s : State} {m : MethodId} {args : Array Value} {below : List Frame} {meth : Method} {c : Code} {E : WE} {Q : Int32 → MI → MJ → Prop} {ko85 : Int32 → Int32 → Int32 → Int32 → Int32 → Int64 → Int64 → Int32 → MI → MJ → Prop} (X : Cx E cX12_who 17 RX12 ((Option.some FieldType.int)) p s m args c meth)
    (hk85 : ∀ (v1 : Int32) (v5 : Int32) (v6 : Int32) (v7 : Int32) (v8 : Int32) (v9 : Int64) (v11 : Int64) (v13 : Int32) (I : MI) (J : MJ) (H : Heap) (locs : List Loc) (ls : Array Slot), ko85 v1 v5 v6 v7 v8 v9 v11 v13 I J → Wd E I J s H locs → lv_has ls 17 [(0, .ref (wa E 17 0)), (1, .int v1), (5, .int v5), (6, .int v6), (7, .int v7), (8, .int v8), (9, .long v9), (11, .long v11), (13, .int v13)] → W p l e (rmO 3 66) s m args below meth c H locs 0 0 (MQ below (QI E Q) args s 0 0 (AA E)) (F0 m 85 ls [])) : ∀ (v1 : Int32) (v5 : Int32) (v6 : Int32) (v7 : Int32) (v8 : Int32) (v11 : Int64) (v13 : Int32) (v14 : Int32) (v15 : Int64) (t0 : Int64) (t1 : Int64) (I : MI) (J : MJ) (H : Heap) (locs : List Loc) (ls : Array Slot), wX12_who_b161 (wg E) ko85 Q v1 v5 v6 v7 v8 v11 v13 v14 v15 t0 t1 I J → Wd E I J s H locs → lv_has ls 17 [(0, .ref (wa E 17 0)), (1, .int v1), (5, .int v5), (6, .int v6), (7, .int v7), (8, .int v8), (11, .long v11), (13, .int v13), (14, .int v14), (15, .long v15)] → W p l e (rmO 3 66) s m args below meth c H locs 0 0 (MQ below (QI E Q) args s 0 0 (AA E)) (F0 m 161 ls [.long t0, .long t1]) := by
  have hx := X.1.1
  have hb := X.1.2.1
  intro v1 v5 v6 v7 v8 v11 v13 v14 v15 t0 t1 I J H locs ls h hW hl
  refine lv_ladd hx hb dX12_who_161 ?_
  refine lv_lstore (lv' := [(9, .long (t1 + t0)), (0, .ref (wa E 17 0)), (1, .int v1), (5, .int v5), (6, .int v6), (7, .int v7), (8, .int v8), (11, .long v11), (13, .int v13), (14, .int v14), (15, .long v15)]) hx hb dX12_who_162 hl (by decide) rfl (fun ls hl => ?_)
  refine lv_lload hx hb dX12_who_164 (lv_at hl 7 rfl) ?_
  refine lv_iload hx hb dX12_who_166 (lv_at hl 9 rfl) ?_
  refine lv_if_eq (tgt := 191) hx hb dX12_who_168 (by decide) (fun c168 => ?_) (fun c168 => ?_)
  · have h := h.1 c168
    refine lv_lconst (v := 0) hx hb dX12_who_191 (by decide) ?_
    exact bX12_who_192 X hk85 v1 v5 v6 v7 v8 (t1 + t0) v13 0 v11 _ _ _ _ _  h hW (lv_sub hl [1, 2, 3, 4, 5, 6, 0, 8] rfl)
  · have h := h.2 c168
    refine lv_lload hx hb dX12_who_171 (lv_at hl 10 rfl) ?_
    refine lv_aload_n hx hb dX12_who_173 rfl (lv_at hl 1 rfl) ?_
    refine r_get X hW 27 (okS hW sc17_0) rfl rfl inX12 (Nat.le_of_ble_eq_true rfl) tw861 rfl dX12_who_174 ?_
    refine lv_iload hx hb dX12_who_177 (lv_at hl 8 rfl) ?_
    refine r_lald X hW (okS hW sc31_0) rfl h.1 dX12_who_179 ?_
    have h := h.2
    refine lv_bipush (v := 10) hx hb dX12_who_180 (by decide) ?_
    refine lv_iload hx hb dX12_who_182 (lv_at hl 6 rfl) ?_
    refine lv_isub hx hb dX12_who_184 ?_
    refine lv_i2l hx hb dX12_who_185 rfl ?_
    refine lv_lmul hx hb dX12_who_186 ?_
    refine lv_ladd hx hb dX12_who_187 ?_
    refine lv_goto (tgt := 192) hx hb dX12_who_188 (by decide) ?_
    exact bX12_who_192 X hk85 v1 v5 v6 v7 v8 (t1 + t0) v13 (v15 + ((J 31 0 (Int32.toNatClampNeg v13)) * (Int32.toInt64 (10 - v8)))) v11 _ _ _ _ _  h hW (lv_sub hl [1, 2, 3, 4, 5, 6, 0, 8] rfl)
def wX12_who_b146 (g : GS) (ko85 : Int32 → Int32 → Int32 → Int32 → Int32 → Int64 → Int64 → Int32 → MI → MJ → Prop) (Q : Int32 → MI → MJ → Prop) (v1 : Int32) (v5 : Int32) (v6 : Int32) (v7 : Int32) (v8 : Int32) (v9 : Int64) (v11 : Int64) (v13 : Int32) (v14 : Int32) (t0 : Int64) (I : MI) (J : MJ) : Prop :=
  ((v14 = 0 → wX12_who_b161 g ko85 Q v1 v5 v6 v7 v8 v11 v13 v14 t0 0 v9 I J) ∧ (¬ v14 = 0 → wX12_who_b161 g ko85 Q v1 v5 v6 v7 v8 v11 v13 v14 t0 t0 v9 I J))
set_option maxHeartbeats 4000000 in
set_option maxRecDepth 100000 in
theorem bX12_who_146 {p : Program} {l : Launch} {e : Env} {s : State} {m : MethodId} {args : Array Value} {below : List Frame} {meth : Method} {c : Code} {E : WE} {Q : Int32 → MI → MJ → Prop} {ko85 : Int32 → Int32 → Int32 → Int32 → Int32 → Int64 → Int64 → Int32 → MI → MJ → Prop} (X : Cx E cX12_who 17 RX12 ((Option.some FieldType.int)) p s m args c meth)
    (hk85 : ∀ (v1 : Int32) (v5 : Int32) (v6 : Int32) (v7 : Int32) (v8 : Int32) (v9 : Int64) (v11 : Int64) (v13 : Int32) (I : MI) (J : MJ) (H : Heap) (locs : List Loc) (ls : Array Slot), ko85 v1 v5 v6 v7 v8 v9 v11 v13 I J → Wd E I J s H locs → lv_has ls 17 [(0, .ref (wa E 17 0)), (1, .int v1), (5, .int v5), (6, .int v6), (7, .int v7), (8, .int v8), (9, .long v9), (11, .long v11), (13, .int v13)] → W p l e (rmO 3 66) s m args below meth c H locs 0 0 (MQ below (QI E Q) args s 0 0 (AA E)) (F0 m 85 ls [])) : ∀ (v1 : Int32) (v5 : Int32) (v6 : Int32) (v7 : Int32) (v8 : Int32) (v9 : Int64) (v11 : Int64) (v13 : Int32) (v14 : Int32) (t0 : Int64) (I : MI) (J : MJ) (H : Heap) (locs : List Loc) (ls : Array Slot), wX12_who_b146 (wg E) ko85 Q v1 v5 v6 v7 v8 v9 v11 v13 v14 t0 I J → Wd E I J s H locs → lv_has ls 17 [(0, .ref (wa E 17 0)), (1, .int v1), (5, .int v5), (6, .int v6), (7, .int v7), (8, .int v8), (9, .long v9), (11, .long v11), (13, .int v13), (14, .int v14)] → W p l e (rmO 3 66) s m args below meth c H locs 0 0 (MQ below (QI E Q) args s 0 0 (AA E)) (F0 m 146 ls [.long t0]) := by
  have hx := X.1.1
  have hb := X.1.2.1
  intro v1 v5 v6 v7 v8 v9 v11 v13 v14 t0 I J H locs ls h hW hl
  refine lv_lstore (lv' := [(15, .long t0), (0, .ref (wa E 17 0)), (1, .int v1), (5, .int v5), (6, .int v6), (7, .int v7), (8, .int v8), (9, .long v9), (11, .long v11), (13, .int v13), (14, .int v14)]) hx hb dX12_who_146 hl (by decide) rfl (fun ls hl => ?_)
  refine lv_lload hx hb dX12_who_148 (lv_at hl 7 rfl) ?_
  refine lv_iload hx hb dX12_who_150 (lv_at hl 10 rfl) ?_
  refine lv_if_eq (tgt := 160) hx hb dX12_who_152 (by decide) (fun c152 => ?_) (fun c152 => ?_)
  · have h := h.1 c152
    refine lv_lconst (v := 0) hx hb dX12_who_160 (by decide) ?_
    exact bX12_who_161 X hk85 v1 v5 v6 v7 v8 v11 v13 v14 t0 0 v9 _ _ _ _ _  h hW (lv_sub hl [1, 2, 3, 4, 5, 6, 8, 9, 10, 0] rfl)
  · have h := h.2 c152
    refine lv_lload hx hb dX12_who_155 (lv_at hl 0 rfl) ?_
    refine lv_goto (tgt := 161) hx hb dX12_who_157 (by decide) ?_
    exact bX12_who_161 X hk85 v1 v5 v6 v7 v8 v11 v13 v14 t0 t0 v9 _ _ _ _ _  h hW (lv_sub hl [1, 2, 3, 4, 5, 6, 8, 9, 10, 0] rfl)
def wX12_who_b122 (g : GS) (ko85 : Int32 → Int32 → Int32 → Int32 → Int32 → Int64 → Int64 → Int32 → MI → MJ → Prop) (Q : Int32 → MI → MJ → Prop) (v1 : Int32) (v5 : Int32) (v6 : Int32) (v7 : Int32) (v8 : Int32) (v9 : Int64) (v11 : Int64) (v13 : Int32) (t0 : Int32) (I : MI) (J : MJ) : Prop :=
  ((¬ v13 = 0 → vp_in (v13 - 1) 9 ∧ (wX12_who_b146 g ko85 Q v1 v5 v6 v7 v8 v9 v11 v13 t0 ((J 31 0 (Int32.toNatClampNeg (v13 - 1))) * (Int32.toInt64 v8)) I J)) ∧ (v13 = 0 → wX12_who_b146 g ko85 Q v1 v5 v6 v7 v8 v9 v11 v13 t0 0 I J))
set_option maxHeartbeats 4000000 in
set_option maxRecDepth 100000 in
theorem bX12_who_122 {p : Program} {l : Launch} {e : Env} {s : State} {m : MethodId} {args : Array Value} {below : List Frame} {meth : Method} {c : Code} {E : WE} {Q : Int32 → MI → MJ → Prop} {ko85 : Int32 → Int32 → Int32 → Int32 → Int32 → Int64 → Int64 → Int32 → MI → MJ → Prop} (X : Cx E cX12_who 17 RX12 ((Option.some FieldType.int)) p s m args c meth)
    (hk85 : ∀ (v1 : Int32) (v5 : Int32) (v6 : Int32) (v7 : Int32) (v8 : Int32) (v9 : Int64) (v11 : Int64) (v13 : Int32) (I : MI) (J : MJ) (H : Heap) (locs : List Loc) (ls : Array Slot), ko85 v1 v5 v6 v7 v8 v9 v11 v13 I J → Wd E I J s H locs → lv_has ls 17 [(0, .ref (wa E 17 0)), (1, .int v1), (5, .int v5), (6, .int v6), (7, .int v7), (8, .int v8), (9, .long v9), (11, .long v11), (13, .int v13)] → W p l e (rmO 3 66) s m args below meth c H locs 0 0 (MQ below (QI E Q) args s 0 0 (AA E)) (F0 m 85 ls [])) : ∀ (v1 : Int32) (v5 : Int32) (v6 : Int32) (v7 : Int32) (v8 : Int32) (v9 : Int64) (v11 : Int64) (v13 : Int32) (t0 : Int32) (I : MI) (J : MJ) (H : Heap) (locs : List Loc) (ls : Array Slot), wX12_who_b122 (wg E) ko85 Q v1 v5 v6 v7 v8 v9 v11 v13 t0 I J → Wd E I J s H locs → lv_has ls 17 [(0, .ref (wa E 17 0)), (1, .int v1), (5, .int v5), (6, .int v6), (7, .int v7), (8, .int v8), (9, .long v9), (11, .long v11), (13, .int v13)] → W p l e (rmO 3 66) s m args below meth c H locs 0 0 (MQ below (QI E Q) args s 0 0 (AA E)) (F0 m 122 ls [.int t0]) := by
  have hx := X.1.1
  have hb := X.1.2.1
  intro v1 v5 v6 v7 v8 v9 v11 v13 t0 I J H locs ls h hW hl
  refine lv_istore (lv' := [(14, .int t0), (0, .ref (wa E 17 0)), (1, .int v1), (5, .int v5), (6, .int v6), (7, .int v7), (8, .int v8), (9, .long v9), (11, .long v11), (13, .int v13)]) hx hb dX12_who_122 hl (by decide) rfl (fun ls hl => ?_)
  refine lv_iload hx hb dX12_who_124 (lv_at hl 9 rfl) ?_
  refine lv_if_ne (tgt := 133) hx hb dX12_who_126 (by decide) (fun c126 => ?_) (fun c126 => ?_)
  · have h := h.1 c126
    refine lv_aload_n hx hb dX12_who_133 rfl (lv_at hl 1 rfl) ?_
    refine r_get X hW 27 (okS hW sc17_0) rfl rfl inX12 (Nat.le_of_ble_eq_true rfl) tw861 rfl dX12_who_134 ?_
    refine lv_iload hx hb dX12_who_137 (lv_at hl 9 rfl) ?_
    refine lv_iconst (v := 1) hx hb dX12_who_139 (by decide) ?_
    refine lv_isub hx hb dX12_who_140 ?_
    refine r_lald X hW (okS hW sc31_0) rfl h.1 dX12_who_141 ?_
    have h := h.2
    refine lv_iload hx hb dX12_who_142 (lv_at hl 6 rfl) ?_
    refine lv_i2l hx hb dX12_who_144 rfl ?_
    refine lv_lmul hx hb dX12_who_145 ?_
    exact bX12_who_146 X hk85 v1 v5 v6 v7 v8 v9 v11 v13 t0 ((J 31 0 (Int32.toNatClampNeg (v13 - 1))) * (Int32.toInt64 v8)) _ _ _ _ _  h hW (lv_sub hl [1, 2, 3, 4, 5, 6, 7, 8, 9, 0] rfl)
  · have h := h.2 c126
    refine lv_lconst (v := 0) hx hb dX12_who_129 (by decide) ?_
    refine lv_goto (tgt := 146) hx hb dX12_who_130 (by decide) ?_
    exact bX12_who_146 X hk85 v1 v5 v6 v7 v8 v9 v11 v13 t0 0 _ _ _ _ _  h hW (lv_sub hl [1, 2, 3, 4, 5, 6, 7, 8, 9, 0] rfl)
def wX12_who_b85 (g : GS) (Q : Int32 → MI → MJ → Prop) : Nat → Int32 → Int32 → Int32 → Int32 → Int32 → Int64 → Int64 → Int32 → MI → MJ → Prop
  | 0, _, _, _, _, _, _, _, _, _, _ => False
  | n + 1, v1, v5, v6, v7, v8, v9, v11, v13, I, J => ((9 ≤ v13 → ((¬ (lg_cmp v11 0) = 0 → wX12_lowest g v9 v11 v6 I J (fun r218 I218 J218 => Q (Int64.toInt32 r218) I218 J218)) ∧ ((lg_cmp v11 0) = 0 → Q ((-1)) I J))) ∧ (¬ 9 ≤ v13 → ((¬ v5 = ((-1)) → ((¬ v13 = v5 → wX12_who_b122 g (fun v1 v5 v6 v7 v8 v9 v11 v13 I J => wX12_who_b85 g Q n v1 v5 v6 v7 v8 v9 v11 v13 I J) Q v1 v5 v6 v7 v8 v9 v11 v13 0 I J) ∧ (v13 = v5 → wX12_who_b122 g (fun v1 v5 v6 v7 v8 v9 v11 v13 I J => wX12_who_b85 g Q n v1 v5 v6 v7 v8 v9 v11 v13 I J) Q v1 v5 v6 v7 v8 v9 v11 v13 1 I J))) ∧ (v5 = ((-1)) → wX12_shuts g v1 v13 v7 I J (fun r104 I104 J104 => wX12_who_b122 g (fun v1 v5 v6 v7 v8 v9 v11 v13 I J => wX12_who_b85 g Q n v1 v5 v6 v7 v8 v9 v11 v13 I J) Q v1 v5 v6 v7 v8 v9 v11 v13 r104 I104 J104)))))
set_option maxHeartbeats 4000000 in
set_option maxRecDepth 100000 in
theorem bX12_who_85 {p : Program} {l : Launch} {e : Env} {s : State} {m : MethodId} {args : Array Value} {below : List Frame} {meth : Method} {c : Code} {E : WE} {Q : Int32 → MI → MJ → Prop} (X : Cx E cX12_who 17 RX12 ((Option.some FieldType.int)) p s m args c meth) (n : Nat) : ∀ (v1 : Int32) (v5 : Int32) (v6 : Int32) (v7 : Int32) (v8 : Int32) (v9 : Int64) (v11 : Int64) (v13 : Int32) (I : MI) (J : MJ) (H : Heap) (locs : List Loc) (ls : Array Slot), wX12_who_b85 (wg E) Q n v1 v5 v6 v7 v8 v9 v11 v13 I J → Wd E I J s H locs → lv_has ls 17 [(0, .ref (wa E 17 0)), (1, .int v1), (5, .int v5), (6, .int v6), (7, .int v7), (8, .int v8), (9, .long v9), (11, .long v11), (13, .int v13)] → W p l e (rmO 3 66) s m args below meth c H locs 0 0 (MQ below (QI E Q) args s 0 0 (AA E)) (F0 m 85 ls []) := by
  have hx := X.1.1
  have hb := X.1.2.1
  induction n with
  | zero => intro v1 v5 v6 v7 v8 v9 v11 v13 I J H locs ls h hW hl; exact h.elim
  | succ n ih =>
    intro v1 v5 v6 v7 v8 v9 v11 v13 I J H locs ls h hW hl
    refine lv_iload hx hb dX12_who_85 (lv_at hl 8 rfl) ?_
    refine lv_bipush (v := 9) hx hb dX12_who_87 (by decide) ?_
    refine lv_icmp_ge (tgt := 201) hx hb dX12_who_89 (by decide) (fun c89 => ?_) (fun c89 => ?_)
    · have h := h.1 c89
      refine lv_lload hx hb dX12_who_201 (lv_at hl 7 rfl) ?_
      refine lv_lconst (v := 0) hx hb dX12_who_203 (by decide) ?_
      refine W.lcmp hx hb dX12_who_204 ?_
      refine lv_if_ne (tgt := 212) hx hb dX12_who_205 (by decide) (fun c205 => ?_) (fun c205 => ?_)
      · have h := h.1 c205
        refine lv_lload hx hb dX12_who_212 (lv_at hl 6 rfl) ?_
        refine lv_lload hx hb dX12_who_214 (lv_at hl 7 rfl) ?_
        refine lv_iload hx hb dX12_who_216 (lv_at hl 3 rfl) ?_
        refine af_l hW (rn_S X hW (As := [.long v9, .long v11, .int v6]) (rest := []) (kX12_lowest h) mbX12_lowest tw1084 tw1085 rfl hl.1 (Nat.le_of_ble_eq_true rfl) ⟨(Nat.le_of_ble_eq_true rfl), (Nat.le_of_ble_eq_true rfl)⟩ dX12_who_218) (fun r218 I218 J218 H locs h hW => ?_)
        refine lv_l2i hx hb dX12_who_221 rfl ?_
        exact e_i X hW h dX12_who_222
      · have h := h.2 c205
        refine lv_iconst (v := (-1)) hx hb dX12_who_208 (by decide) ?_
        refine lv_goto (tgt := 222) hx hb dX12_who_209 (by decide) ?_
        exact e_i X hW h dX12_who_222
    · have h := h.2 c89
      refine lv_iload hx hb dX12_who_92 (lv_at hl 2 rfl) ?_
      refine lv_iconst (v := (-1)) hx hb dX12_who_94 (by decide) ?_
      refine lv_icmp_ne (tgt := 110) hx hb dX12_who_95 (by decide) (fun c95 => ?_) (fun c95 => ?_)
      · have h := h.1 c95
        refine lv_iload hx hb dX12_who_110 (lv_at hl 8 rfl) ?_
        refine lv_iload hx hb dX12_who_112 (lv_at hl 2 rfl) ?_
        refine lv_icmp_ne (tgt := 121) hx hb dX12_who_114 (by decide) (fun c114 => ?_) (fun c114 => ?_)
        · have h := h.1 c114
          refine lv_iconst (v := 0) hx hb dX12_who_121 (by decide) ?_
          exact bX12_who_122 X ih v1 v5 v6 v7 v8 v9 v11 v13 0 _ _ _ _ _  h hW (lv_sub hl [0, 1, 2, 3, 4, 5, 6, 7, 8] rfl)
        · have h := h.2 c114
          refine lv_iconst (v := 1) hx hb dX12_who_117 (by decide) ?_
          refine lv_goto (tgt := 122) hx hb dX12_who_118 (by decide) ?_
          exact bX12_who_122 X ih v1 v5 v6 v7 v8 v9 v11 v13 1 _ _ _ _ _  h hW (lv_sub hl [0, 1, 2, 3, 4, 5, 6, 7, 8] rfl)
      · have h := h.2 c95
        refine lv_aload_n hx hb dX12_who_98 rfl (lv_at hl 0 rfl) ?_
        refine lv_iload_n hx hb dX12_who_99 rfl (lv_at hl 1 rfl) ?_
        refine lv_iload hx hb dX12_who_100 (lv_at hl 8 rfl) ?_
        refine lv_iload hx hb dX12_who_102 (lv_at hl 4 rfl) ?_
        refine af_i hW (rn_V X hW (As := [.int v1, .int v13, .int v7]) (rest := []) (okS hW sc17_0) rfl rfl (kX12_shuts h) mbX12_shuts tw1101 tw1103 tp42 rfl hl.1 (Nat.le_of_ble_eq_true rfl) ⟨(Nat.le_of_ble_eq_true rfl), (Nat.le_of_ble_eq_true rfl)⟩ dX12_who_104) (fun r104 I104 J104 H locs h hW => ?_)
        refine lv_goto (tgt := 122) hx hb dX12_who_107 (by decide) ?_
        exact bX12_who_122 X ih v1 v5 v6 v7 v8 v9 v11 v13 r104 _ _ _ _ _  h hW (lv_sub hl [0, 1, 2, 3, 4, 5, 6, 7, 8] rfl)
def wX12_who (g : GS) (a1 : Int32) (a2 : Int32) (a3 : Int32) (a4 : Int32) (a5 : Int32) (a6 : Int32) (I : MI) (J : MJ) (Q : Int32 → MI → MJ → Prop) : Prop :=
  wX12_areThere g a1 a2 I J (fun r3 I3 J3 => ((r3 = 0 → Q ((-101)) I3 J3) ∧ (¬ r3 = 0 → wX12_isMember g a4 I3 J3 (fun r12 I12 J12 => ((¬ r12 = 0 → wX12_isAsked g a3 a4 a6 I12 J12 (fun r27 I27 J27 => ((r27 = 0 → Q ((-102)) I27 J27) ∧ (¬ r27 = 0 → wX12_within g a5 ((-1)) 8 I27 J27 (fun r38 I38 J38 => ((¬ r38 = 0 → wX12_ones g a3 I38 J38 (fun r48 I48 J48 => wX12_blackBy g a1 a2 r48 a4 I48 J48 (fun r60 I60 J60 => wX12_layWays g a1 a2 a3 r48 a4 I60 J60 (fun I73 J73 => ∃ n85, wX12_who_b85 g Q n85 a1 a5 a6 r48 r60 0 0 0 I73 J73)))) ∧ (r38 = 0 → Q ((-102)) I38 J38))))))) ∧ (r12 = 0 → Q ((-101)) I12 J12))))))
theorem mbX12_who : MB yX12_who cX12_who 17 ((Option.some FieldType.int)) 6 := ⟨tw1129, tw7, ⟨by decide, by decide⟩, by decide +kernel, by decide +kernel⟩
set_option maxHeartbeats 4000000 in
set_option maxRecDepth 100000 in
theorem kX12_who {l : Launch} {E : WE} {a1 : Int32} {a2 : Int32} {a3 : Int32} {a4 : Int32} {a5 : Int32} {a6 : Int32} {I : MI} {J : MJ} {Q : Int32 → MI → MJ → Prop} (h : wX12_who (wg E) a1 a2 a3 a4 a5 a6 I J Q) : Met l yX12_who (wsM yX12_who cX12_who 17 ((Option.some FieldType.int))) (rmO 3 66) (va_Pc [.ref (wa E 17 0), .int a1, .int a2, .int a3, .int a4, .int a5, .int a6] (Wp E I J)) (QI E Q) 0 0 (AA E) := by
  refine m_entry mbX12_who (Nat.le_of_ble_eq_true rfl) ?_
  intro p e s m args below meth c X ls hW hl
  have X : Cx E cX12_who 17 RX12 ((Option.some FieldType.int)) p s m args c meth := X
  have hx := X.1.1
  have hb := X.1.2.1
  have hl : lv_has ls 17 [(0, .ref (wa E 17 0)), (1, .int a1), (2, .int a2), (3, .int a3), (4, .int a4), (5, .int a5), (6, .int a6)] := hl
  refine lv_aload_n hx hb dX12_who_0 rfl (lv_at hl 0 rfl) ?_
  refine lv_iload_n hx hb dX12_who_1 rfl (lv_at hl 1 rfl) ?_
  refine lv_iload_n hx hb dX12_who_2 rfl (lv_at hl 2 rfl) ?_
  refine af_i hW (rn_V X hW (As := [.int a1, .int a2]) (rest := []) (okS hW sc17_0) rfl rfl (kX12_areThere h) mbX12_areThere tw1069 tw1071 tp38 rfl hl.1 (Nat.le_of_ble_eq_true rfl) ⟨(Nat.le_of_ble_eq_true rfl), (Nat.le_of_ble_eq_true rfl)⟩ dX12_who_3) (fun r3 I3 J3 H locs h hW => ?_)
  refine lv_if_eq (tgt := 18) hx hb dX12_who_6 (by decide) (fun c6 => ?_) (fun c6 => ?_)
  · have h := h.1 c6
    refine lv_bipush (v := (-101)) hx hb dX12_who_18 (by decide) ?_
    exact e_i X hW h dX12_who_20
  · have h := h.2 c6
    refine lv_aload_n hx hb dX12_who_9 rfl (lv_at hl 0 rfl) ?_
    refine lv_iload hx hb dX12_who_10 (lv_at hl 4 rfl) ?_
    refine af_i hW (rn_V X hW (As := [.int a4]) (rest := []) (okS hW sc17_0) rfl rfl (kX12_isMember h) mbX12_isMember tw999 tw1001 tp30 rfl hl.1 (Nat.le_of_ble_eq_true rfl) ⟨(Nat.le_of_ble_eq_true rfl), (Nat.le_of_ble_eq_true rfl)⟩ dX12_who_12) (fun r12 I12 J12 H locs h hW => ?_)
    refine lv_if_ne (tgt := 21) hx hb dX12_who_15 (by decide) (fun c15 => ?_) (fun c15 => ?_)
    · have h := h.1 c15
      refine lv_aload_n hx hb dX12_who_21 rfl (lv_at hl 0 rfl) ?_
      refine lv_iload_n hx hb dX12_who_22 rfl (lv_at hl 3 rfl) ?_
      refine lv_iload hx hb dX12_who_23 (lv_at hl 4 rfl) ?_
      refine lv_iload hx hb dX12_who_25 (lv_at hl 6 rfl) ?_
      refine af_i hW (rn_V X hW (As := [.int a3, .int a4, .int a6]) (rest := []) (okS hW sc17_0) rfl rfl (kX12_isAsked h) mbX12_isAsked tw1130 tw1132 tp45 rfl hl.1 (Nat.le_of_ble_eq_true rfl) ⟨(Nat.le_of_ble_eq_true rfl), (Nat.le_of_ble_eq_true rfl)⟩ dX12_who_27) (fun r27 I27 J27 H locs h hW => ?_)
      refine lv_if_eq (tgt := 44) hx hb dX12_who_30 (by decide) (fun c30 => ?_) (fun c30 => ?_)
      · have h := h.1 c30
        refine lv_bipush (v := (-102)) hx hb dX12_who_44 (by decide) ?_
        exact e_i X hW h dX12_who_46
      · have h := h.2 c30
        refine lv_iload hx hb dX12_who_33 (lv_at hl 5 rfl) ?_
        refine lv_iconst (v := (-1)) hx hb dX12_who_35 (by decide) ?_
        refine lv_bipush (v := 8) hx hb dX12_who_36 (by decide) ?_
        refine af_i hW (rn_S X hW (As := [.int a5, .int ((-1)), .int 8]) (rest := []) (kX12_within h) mbX12_within tw969 tw970 rfl hl.1 (Nat.le_of_ble_eq_true rfl) ⟨(Nat.le_of_ble_eq_true rfl), (Nat.le_of_ble_eq_true rfl)⟩ dX12_who_38) (fun r38 I38 J38 H locs h hW => ?_)
        refine lv_if_ne (tgt := 47) hx hb dX12_who_41 (by decide) (fun c41 => ?_) (fun c41 => ?_)
        · have h := h.1 c41
          refine lv_iload_n hx hb dX12_who_47 rfl (lv_at hl 3 rfl) ?_
          refine af_i hW (rn_S X hW (As := [.int a3]) (rest := []) (kX12_ones h) mbX12_ones tw1058 tw1059 rfl hl.1 (Nat.le_of_ble_eq_true rfl) ⟨(Nat.le_of_ble_eq_true rfl), (Nat.le_of_ble_eq_true rfl)⟩ dX12_who_48) (fun r48 I48 J48 H locs h hW => ?_)
          refine lv_istore (lv' := [(7, .int r48), (0, .ref (wa E 17 0)), (1, .int a1), (2, .int a2), (3, .int a3), (4, .int a4), (5, .int a5), (6, .int a6)]) hx hb dX12_who_51 hl (by decide) rfl (fun ls hl => ?_)
          refine lv_aload_n hx hb dX12_who_53 rfl (lv_at hl 1 rfl) ?_
          refine lv_iload_n hx hb dX12_who_54 rfl (lv_at hl 2 rfl) ?_
          refine lv_iload_n hx hb dX12_who_55 rfl (lv_at hl 3 rfl) ?_
          refine lv_iload hx hb dX12_who_56 (lv_at hl 0 rfl) ?_
          refine lv_iload hx hb dX12_who_58 (lv_at hl 5 rfl) ?_
          refine af_i hW (rn_V X hW (As := [.int a1, .int a2, .int r48, .int a4]) (rest := []) (okS hW sc17_0) rfl rfl (kX12_blackBy h) mbX12_blackBy tw1061 tw1063 tp37 rfl hl.1 (Nat.le_of_ble_eq_true rfl) ⟨(Nat.le_of_ble_eq_true rfl), (Nat.le_of_ble_eq_true rfl)⟩ dX12_who_60) (fun r60 I60 J60 H locs h hW => ?_)
          refine lv_istore (lv' := [(8, .int r60), (7, .int r48), (0, .ref (wa E 17 0)), (1, .int a1), (2, .int a2), (3, .int a3), (4, .int a4), (5, .int a5), (6, .int a6)]) hx hb dX12_who_63 hl (by decide) rfl (fun ls hl => ?_)
          refine lv_aload_n hx hb dX12_who_65 rfl (lv_at hl 2 rfl) ?_
          refine lv_iload_n hx hb dX12_who_66 rfl (lv_at hl 3 rfl) ?_
          refine lv_iload_n hx hb dX12_who_67 rfl (lv_at hl 4 rfl) ?_
          refine lv_iload_n hx hb dX12_who_68 rfl (lv_at hl 5 rfl) ?_
          refine lv_iload hx hb dX12_who_69 (lv_at hl 1 rfl) ?_
          refine lv_iload hx hb dX12_who_71 (lv_at hl 6 rfl) ?_
          refine af_v hW (rn_V X hW (As := [.int a1, .int a2, .int a3, .int r48, .int a4]) (rest := []) (okS hW sc17_0) rfl rfl (kX12_layWays h) mbX12_layWays tw1076 tw1078 tp39 rfl hl.1 (Nat.le_of_ble_eq_true rfl) ⟨(Nat.le_of_ble_eq_true rfl), (Nat.le_of_ble_eq_true rfl)⟩ dX12_who_73) (fun I73 J73 H locs h hW => ?_)
          refine lv_lconst (v := 0) hx hb dX12_who_76 (by decide) ?_
          refine lv_lstore (lv' := [(9, .long 0), (8, .int r60), (7, .int r48), (0, .ref (wa E 17 0)), (1, .int a1), (2, .int a2), (3, .int a3), (4, .int a4), (5, .int a5), (6, .int a6)]) hx hb dX12_who_77 hl (by decide) rfl (fun ls hl => ?_)
          refine lv_lconst (v := 0) hx hb dX12_who_79 (by decide) ?_
          refine lv_lstore (lv' := [(11, .long 0), (9, .long 0), (8, .int r60), (7, .int r48), (0, .ref (wa E 17 0)), (1, .int a1), (2, .int a2), (3, .int a3), (4, .int a4), (5, .int a5), (6, .int a6)]) hx hb dX12_who_80 hl (by decide) rfl (fun ls hl => ?_)
          refine lv_iconst (v := 0) hx hb dX12_who_82 (by decide) ?_
          refine lv_istore (lv' := [(13, .int 0), (11, .long 0), (9, .long 0), (8, .int r60), (7, .int r48), (0, .ref (wa E 17 0)), (1, .int a1), (2, .int a2), (3, .int a3), (4, .int a4), (5, .int a5), (6, .int a6)]) hx hb dX12_who_83 hl (by decide) rfl (fun ls hl => ?_)
          obtain ⟨n85, h⟩ := h
          exact bX12_who_85 X n85 a1 a5 a6 r48 r60 0 0 0 _ _ _ _ _  h hW (lv_sub hl [5, 6, 10, 11, 4, 3, 2, 1, 0] rfl)
        · have h := h.2 c41
          refine lv_bipush (v := (-102)) hx hb dX12_who_44 (by decide) ?_
          exact e_i X hW h dX12_who_46
    · have h := h.2 c15
      refine lv_bipush (v := (-101)) hx hb dX12_who_18 (by decide) ?_
      exact e_i X hW h dX12_who_20
def wX12_heard_b103 (g : GS) (Q : Int32 → MI → MJ → Prop) (v7 : Int32) (v9 : Int32) (t0 : Int32) (t1 : Int32) (t2 : Int32) (I : MI) (J : MJ) : Prop :=
  ((¬ (t2 + (t1 * t0)) = 0 → wX12_lowest g (Int32.toInt64 v9) (Int32.toInt64 (t2 + (t1 * t0))) v7 I J (fun r124 I124 J124 => Q (Int64.toInt32 r124) I124 J124)) ∧ ((t2 + (t1 * t0)) = 0 → Q ((-1)) I J))
set_option maxHeartbeats 4000000 in
set_option maxRecDepth 100000 in
theorem bX12_heard_103 {p : Program} {l : Launch} {e : Env} {s : State} {m : MethodId} {args : Array Value} {below : List Frame} {meth : Method} {c : Code} {E : WE} {Q : Int32 → MI → MJ → Prop} (X : Cx E cX12_heard 11 RX12 ((Option.some FieldType.int)) p s m args c meth) : ∀ (v7 : Int32) (v9 : Int32) (t0 : Int32) (t1 : Int32) (t2 : Int32) (I : MI) (J : MJ) (H : Heap) (locs : List Loc) (ls : Array Slot), wX12_heard_b103 (wg E) Q v7 v9 t0 t1 t2 I J → Wd E I J s H locs → lv_has ls 11 [(7, .int v7), (9, .int v9)] → W p l e (rmO 3 66) s m args below meth c H locs 0 0 (MQ below (QI E Q) args s 0 0 (AA E)) (F0 m 103 ls [.int t0, .int t1, .int t2]) := by
  have hx := X.1.1
  have hb := X.1.2.1
  intro v7 v9 t0 t1 t2 I J H locs ls h hW hl
  refine lv_imul hx hb dX12_heard_103 ?_
  refine lv_iadd hx hb dX12_heard_104 ?_
  refine lv_istore (lv' := [(10, .int (t2 + (t1 * t0))), (7, .int v7), (9, .int v9)]) hx hb dX12_heard_105 hl (by decide) rfl (fun ls hl => ?_)
  refine lv_iload hx hb dX12_heard_107 (lv_at hl 0 rfl) ?_
  refine lv_if_ne (tgt := 116) hx hb dX12_heard_109 (by decide) (fun c109 => ?_) (fun c109 => ?_)
  · have h := h.1 c109
    refine lv_iload hx hb dX12_heard_116 (lv_at hl 2 rfl) ?_
    refine lv_i2l hx hb dX12_heard_118 rfl ?_
    refine lv_iload hx hb dX12_heard_119 (lv_at hl 0 rfl) ?_
    refine lv_i2l hx hb dX12_heard_121 rfl ?_
    refine lv_iload hx hb dX12_heard_122 (lv_at hl 1 rfl) ?_
    refine af_l hW (rn_S X hW (As := [.long (Int32.toInt64 v9), .long (Int32.toInt64 (t2 + (t1 * t0))), .int v7]) (rest := []) (kX12_lowest h) mbX12_lowest tw1084 tw1085 rfl hl.1 (Nat.le_of_ble_eq_true rfl) ⟨(Nat.le_of_ble_eq_true rfl), (Nat.le_of_ble_eq_true rfl)⟩ dX12_heard_124) (fun r124 I124 J124 H locs h hW => ?_)
    refine lv_l2i hx hb dX12_heard_127 rfl ?_
    exact e_i X hW h dX12_heard_128
  · have h := h.2 c109
    refine lv_iconst (v := (-1)) hx hb dX12_heard_112 (by decide) ?_
    refine lv_goto (tgt := 128) hx hb dX12_heard_113 (by decide) ?_
    exact e_i X hW h dX12_heard_128
def wX12_heard_b78 (g : GS) (Q : Int32 → MI → MJ → Prop) (v5 : Int32) (v6 : Int32) (v7 : Int32) (v8 : Int32) (t0 : Int32) (t1 : Int32) (I : MI) (J : MJ) : Prop :=
  ((v6 = 0 → wX12_heard_b103 g Q v7 (t1 * t0) v5 (10 - v8) (t1 * t0) I J) ∧ (¬ v6 = 0 → wX12_heard_b103 g Q v7 (t1 * t0) (10 - v5) (10 - v8) (t1 * t0) I J))
set_option maxHeartbeats 4000000 in
set_option maxRecDepth 100000 in
theorem bX12_heard_78 {p : Program} {l : Launch} {e : Env} {s : State} {m : MethodId} {args : Array Value} {below : List Frame} {meth : Method} {c : Code} {E : WE} {Q : Int32 → MI → MJ → Prop} (X : Cx E cX12_heard 11 RX12 ((Option.some FieldType.int)) p s m args c meth) : ∀ (v5 : Int32) (v6 : Int32) (v7 : Int32) (v8 : Int32) (t0 : Int32) (t1 : Int32) (I : MI) (J : MJ) (H : Heap) (locs : List Loc) (ls : Array Slot), wX12_heard_b78 (wg E) Q v5 v6 v7 v8 t0 t1 I J → Wd E I J s H locs → lv_has ls 11 [(5, .int v5), (6, .int v6), (7, .int v7), (8, .int v8)] → W p l e (rmO 3 66) s m args below meth c H locs 0 0 (MQ below (QI E Q) args s 0 0 (AA E)) (F0 m 78 ls [.int t0, .int t1]) := by
  have hx := X.1.1
  have hb := X.1.2.1
  intro v5 v6 v7 v8 t0 t1 I J H locs ls h hW hl
  refine lv_imul hx hb dX12_heard_78 ?_
  refine lv_istore (lv' := [(9, .int (t1 * t0)), (5, .int v5), (6, .int v6), (7, .int v7), (8, .int v8)]) hx hb dX12_heard_79 hl (by decide) rfl (fun ls hl => ?_)
  refine lv_iload hx hb dX12_heard_81 (lv_at hl 0 rfl) ?_
  refine lv_bipush (v := 10) hx hb dX12_heard_83 (by decide) ?_
  refine lv_iload hx hb dX12_heard_85 (lv_at hl 4 rfl) ?_
  refine lv_isub hx hb dX12_heard_87 ?_
  refine lv_iload hx hb dX12_heard_88 (lv_at hl 2 rfl) ?_
  refine lv_if_eq (tgt := 101) hx hb dX12_heard_90 (by decide) (fun c90 => ?_) (fun c90 => ?_)
  · have h := h.1 c90
    refine lv_iload hx hb dX12_heard_101 (lv_at hl 1 rfl) ?_
    exact bX12_heard_103 X v7 (t1 * t0) v5 (10 - v8) (t1 * t0) _ _ _ _ _  h hW (lv_sub hl [3, 0] rfl)
  · have h := h.2 c90
    refine lv_bipush (v := 10) hx hb dX12_heard_93 (by decide) ?_
    refine lv_iload hx hb dX12_heard_95 (lv_at hl 1 rfl) ?_
    refine lv_isub hx hb dX12_heard_97 ?_
    refine lv_goto (tgt := 103) hx hb dX12_heard_98 (by decide) ?_
    exact bX12_heard_103 X v7 (t1 * t0) (10 - v5) (10 - v8) (t1 * t0) _ _ _ _ _  h hW (lv_sub hl [3, 0] rfl)
def wX12_heard (g : GS) (a1 : Int32) (a2 : Int32) (a3 : Int32) (a4 : Int32) (a5 : Int32) (a6 : Int32) (a7 : Int32) (I : MI) (J : MJ) (Q : Int32 → MI → MJ → Prop) : Prop :=
  wX12_areThere g a1 a2 I J (fun r3 I3 J3 => ((r3 = 0 → Q ((-101)) I3 J3) ∧ (¬ r3 = 0 → wX12_isMember g a4 I3 J3 (fun r12 I12 J12 => ((¬ r12 = 0 → wX12_isAsked g a3 a4 a7 I12 J12 (fun r27 I27 J27 => ((r27 = 0 → Q ((-102)) I27 J27) ∧ (¬ r27 = 0 → wX12_within g a5 0 10 I27 J27 (fun r38 I38 J38 => ((¬ r38 = 0 → wX12_ones g a3 I38 J38 (fun r51 I51 J51 => wX12_blackBy g a1 a2 r51 a4 I51 J51 (fun r56 I56 J56 => ((a6 = 0 → wX12_heard_b78 g Q a5 a6 a7 r56 (10 - a5) r56 I56 J56) ∧ (¬ a6 = 0 → wX12_heard_b78 g Q a5 a6 a7 r56 a5 r56 I56 J56))))) ∧ (r38 = 0 → Q ((-102)) I38 J38))))))) ∧ (r12 = 0 → Q ((-101)) I12 J12))))))
theorem mbX12_heard : MB yX12_heard cX12_heard 11 ((Option.some FieldType.int)) 7 := ⟨tw1137, tw7, ⟨by decide, by decide⟩, by decide +kernel, by decide +kernel⟩
set_option maxHeartbeats 4000000 in
set_option maxRecDepth 100000 in
theorem kX12_heard {l : Launch} {E : WE} {a1 : Int32} {a2 : Int32} {a3 : Int32} {a4 : Int32} {a5 : Int32} {a6 : Int32} {a7 : Int32} {I : MI} {J : MJ} {Q : Int32 → MI → MJ → Prop} (h : wX12_heard (wg E) a1 a2 a3 a4 a5 a6 a7 I J Q) : Met l yX12_heard (wsM yX12_heard cX12_heard 11 ((Option.some FieldType.int))) (rmO 3 66) (va_Pc [.ref (wa E 17 0), .int a1, .int a2, .int a3, .int a4, .int a5, .int a6, .int a7] (Wp E I J)) (QI E Q) 0 0 (AA E) := by
  refine m_entry mbX12_heard (Nat.le_of_ble_eq_true rfl) ?_
  intro p e s m args below meth c X ls hW hl
  have X : Cx E cX12_heard 11 RX12 ((Option.some FieldType.int)) p s m args c meth := X
  have hx := X.1.1
  have hb := X.1.2.1
  have hl : lv_has ls 11 [(0, .ref (wa E 17 0)), (1, .int a1), (2, .int a2), (3, .int a3), (4, .int a4), (5, .int a5), (6, .int a6), (7, .int a7)] := hl
  refine lv_aload_n hx hb dX12_heard_0 rfl (lv_at hl 0 rfl) ?_
  refine lv_iload_n hx hb dX12_heard_1 rfl (lv_at hl 1 rfl) ?_
  refine lv_iload_n hx hb dX12_heard_2 rfl (lv_at hl 2 rfl) ?_
  refine af_i hW (rn_V X hW (As := [.int a1, .int a2]) (rest := []) (okS hW sc17_0) rfl rfl (kX12_areThere h) mbX12_areThere tw1069 tw1071 tp38 rfl hl.1 (Nat.le_of_ble_eq_true rfl) ⟨(Nat.le_of_ble_eq_true rfl), (Nat.le_of_ble_eq_true rfl)⟩ dX12_heard_3) (fun r3 I3 J3 H locs h hW => ?_)
  refine lv_if_eq (tgt := 18) hx hb dX12_heard_6 (by decide) (fun c6 => ?_) (fun c6 => ?_)
  · have h := h.1 c6
    refine lv_bipush (v := (-101)) hx hb dX12_heard_18 (by decide) ?_
    exact e_i X hW h dX12_heard_20
  · have h := h.2 c6
    refine lv_aload_n hx hb dX12_heard_9 rfl (lv_at hl 0 rfl) ?_
    refine lv_iload hx hb dX12_heard_10 (lv_at hl 4 rfl) ?_
    refine af_i hW (rn_V X hW (As := [.int a4]) (rest := []) (okS hW sc17_0) rfl rfl (kX12_isMember h) mbX12_isMember tw999 tw1001 tp30 rfl hl.1 (Nat.le_of_ble_eq_true rfl) ⟨(Nat.le_of_ble_eq_true rfl), (Nat.le_of_ble_eq_true rfl)⟩ dX12_heard_12) (fun r12 I12 J12 H locs h hW => ?_)
    refine lv_if_ne (tgt := 21) hx hb dX12_heard_15 (by decide) (fun c15 => ?_) (fun c15 => ?_)
    · have h := h.1 c15
      refine lv_aload_n hx hb dX12_heard_21 rfl (lv_at hl 0 rfl) ?_
      refine lv_iload_n hx hb dX12_heard_22 rfl (lv_at hl 3 rfl) ?_
      refine lv_iload hx hb dX12_heard_23 (lv_at hl 4 rfl) ?_
      refine lv_iload hx hb dX12_heard_25 (lv_at hl 7 rfl) ?_
      refine af_i hW (rn_V X hW (As := [.int a3, .int a4, .int a7]) (rest := []) (okS hW sc17_0) rfl rfl (kX12_isAsked h) mbX12_isAsked tw1130 tw1132 tp45 rfl hl.1 (Nat.le_of_ble_eq_true rfl) ⟨(Nat.le_of_ble_eq_true rfl), (Nat.le_of_ble_eq_true rfl)⟩ dX12_heard_27) (fun r27 I27 J27 H locs h hW => ?_)
      refine lv_if_eq (tgt := 44) hx hb dX12_heard_30 (by decide) (fun c30 => ?_) (fun c30 => ?_)
      · have h := h.1 c30
        refine lv_bipush (v := (-102)) hx hb dX12_heard_44 (by decide) ?_
        exact e_i X hW h dX12_heard_46
      · have h := h.2 c30
        refine lv_iload hx hb dX12_heard_33 (lv_at hl 5 rfl) ?_
        refine lv_iconst (v := 0) hx hb dX12_heard_35 (by decide) ?_
        refine lv_bipush (v := 10) hx hb dX12_heard_36 (by decide) ?_
        refine af_i hW (rn_S X hW (As := [.int a5, .int 0, .int 10]) (rest := []) (kX12_within h) mbX12_within tw969 tw970 rfl hl.1 (Nat.le_of_ble_eq_true rfl) ⟨(Nat.le_of_ble_eq_true rfl), (Nat.le_of_ble_eq_true rfl)⟩ dX12_heard_38) (fun r38 I38 J38 H locs h hW => ?_)
        refine lv_if_ne (tgt := 47) hx hb dX12_heard_41 (by decide) (fun c41 => ?_) (fun c41 => ?_)
        · have h := h.1 c41
          refine lv_aload_n hx hb dX12_heard_47 rfl (lv_at hl 0 rfl) ?_
          refine lv_iload_n hx hb dX12_heard_48 rfl (lv_at hl 1 rfl) ?_
          refine lv_iload_n hx hb dX12_heard_49 rfl (lv_at hl 2 rfl) ?_
          refine lv_iload_n hx hb dX12_heard_50 rfl (lv_at hl 3 rfl) ?_
          refine af_i hW (rn_S X hW (As := [.int a3]) (rest := [.int a2, .int a1, .ref (wa E 17 0)]) (kX12_ones h) mbX12_ones tw1058 tw1059 rfl hl.1 (Nat.le_of_ble_eq_true rfl) ⟨(Nat.le_of_ble_eq_true rfl), (Nat.le_of_ble_eq_true rfl)⟩ dX12_heard_51) (fun r51 I51 J51 H locs h hW => ?_)
          refine lv_iload hx hb dX12_heard_54 (lv_at hl 4 rfl) ?_
          refine af_i hW (rn_V X hW (As := [.int a1, .int a2, .int r51, .int a4]) (rest := []) (okS hW sc17_0) rfl rfl (kX12_blackBy h) mbX12_blackBy tw1061 tw1063 tp37 rfl hl.1 (Nat.le_of_ble_eq_true rfl) ⟨(Nat.le_of_ble_eq_true rfl), (Nat.le_of_ble_eq_true rfl)⟩ dX12_heard_56) (fun r56 I56 J56 H locs h hW => ?_)
          refine lv_istore (lv' := [(8, .int r56), (0, .ref (wa E 17 0)), (1, .int a1), (2, .int a2), (3, .int a3), (4, .int a4), (5, .int a5), (6, .int a6), (7, .int a7)]) hx hb dX12_heard_59 hl (by decide) rfl (fun ls hl => ?_)
          refine lv_iload hx hb dX12_heard_61 (lv_at hl 0 rfl) ?_
          refine lv_iload hx hb dX12_heard_63 (lv_at hl 7 rfl) ?_
          refine lv_if_eq (tgt := 73) hx hb dX12_heard_65 (by decide) (fun c65 => ?_) (fun c65 => ?_)
          · have h := h.1 c65
            refine lv_bipush (v := 10) hx hb dX12_heard_73 (by decide) ?_
            refine lv_iload hx hb dX12_heard_75 (lv_at hl 6 rfl) ?_
            refine lv_isub hx hb dX12_heard_77 ?_
            exact bX12_heard_78 X a5 a6 a7 r56 (10 - a5) r56 _ _ _ _ _  h hW (lv_sub hl [6, 7, 8, 0] rfl)
          · have h := h.2 c65
            refine lv_iload hx hb dX12_heard_68 (lv_at hl 6 rfl) ?_
            refine lv_goto (tgt := 78) hx hb dX12_heard_70 (by decide) ?_
            exact bX12_heard_78 X a5 a6 a7 r56 a5 r56 _ _ _ _ _  h hW (lv_sub hl [6, 7, 8, 0] rfl)
        · have h := h.2 c41
          refine lv_bipush (v := (-102)) hx hb dX12_heard_44 (by decide) ?_
          exact e_i X hW h dX12_heard_46
    · have h := h.2 c15
      refine lv_bipush (v := (-101)) hx hb dX12_heard_18 (by decide) ?_
      exact e_i X hW h dX12_heard_20
def wX12_sway_b148 (g : GS) (ko41 : Int32 → Int32 → Int32 → Int64 → Int32 → Int64 → Int32 → MI → MJ → Prop) (Q : Int32 → MI → MJ → Prop) (v1 : Int32) (v2 : Int32) (v3 : Int32) (v4 : Int64) (v6 : Int32) (v7 : Int64) (v9 : Int32) (I : MI) (J : MJ) : Prop :=
  ko41 v1 v2 v3 v4 v6 v7 (v9 + 1) I J
set_option maxHeartbeats 4000000 in
set_option maxRecDepth 100000 in
theorem bX12_sway_148 {p : Program} {l : Launch} {e : Env} {s : State} {m : MethodId} {args : Array Value} {below : List Frame} {meth : Method} {c : Code} {E : WE} {Q : Int32 → MI → MJ → Prop} {ko41 : Int32 → Int32 → Int32 → Int64 → Int32 → Int64 → Int32 → MI → MJ → Prop} (X : Cx E cX12_sway 13 RX12 ((Option.some FieldType.int)) p s m args c meth)
    (hk41 : ∀ (v1 : Int32) (v2 : Int32) (v3 : Int32) (v4 : Int64) (v6 : Int32) (v7 : Int64) (v9 : Int32) (I : MI) (J : MJ) (H : Heap) (locs : List Loc) (ls : Array Slot), ko41 v1 v2 v3 v4 v6 v7 v9 I J → Wd E I J s H locs → lv_has ls 13 [(0, .ref (wa E 17 0)), (1, .int v1), (2, .int v2), (3, .int v3), (4, .long v4), (6, .int v6), (7, .long v7), (9, .int v9)] → W p l e (rmO 4 106) s m args below meth c H locs 0 0 (MQ below (QI E Q) args s 0 0 (AA E)) (F0 m 41 ls [])) : ∀ (v1 : Int32) (v2 : Int32) (v3 : Int32) (v4 : Int64) (v6 : Int32) (v7 : Int64) (v9 : Int32) (I : MI) (J : MJ) (H : Heap) (locs : List Loc) (ls : Array Slot), wX12_sway_b148 (wg E) ko41 Q v1 v2 v3 v4 v6 v7 v9 I J → Wd E I J s H locs → lv_has ls 13 [(0, .ref (wa E 17 0)), (1, .int v1), (2, .int v2), (3, .int v3), (4, .long v4), (6, .int v6), (7, .long v7), (9, .int v9)] → W p l e (rmO 4 106) s m args below meth c H locs 0 0 (MQ below (QI E Q) args s 0 0 (AA E)) (F0 m 148 ls []) := by
  have hx := X.1.1
  have hb := X.1.2.1
  intro v1 v2 v3 v4 v6 v7 v9 I J H locs ls h hW hl
  refine lv_iinc (v := v9 + 1) (lv' := [(9, .int (v9 + 1)), (0, .ref (wa E 17 0)), (1, .int v1), (2, .int v2), (3, .int v3), (4, .long v4), (6, .int v6), (7, .long v7)]) hx hb dX12_sway_148 hl (k := 7) rfl rfl (by decide) rfl (fun ls hl => ?_)
  refine lv_goto (tgt := 41) hx hb dX12_sway_151 (by decide) ?_
  exact hk41 v1 v2 v3 v4 v6 v7 (v9 + 1) _ _ _ _ _  h hW (lv_sub hl [1, 2, 3, 4, 5, 6, 7, 0] rfl)
def wX12_sway_b146 (g : GS) (ko41 : Int32 → Int32 → Int32 → Int64 → Int32 → Int64 → Int32 → MI → MJ → Prop) (Q : Int32 → MI → MJ → Prop) (v1 : Int32) (v2 : Int32) (v3 : Int32) (v4 : Int64) (v6 : Int32) (v9 : Int32) (t0 : Int64) (I : MI) (J : MJ) : Prop :=
  wX12_sway_b148 g ko41 Q v1 v2 v3 v4 v6 t0 v9 I J
set_option maxHeartbeats 4000000 in
set_option maxRecDepth 100000 in
theorem bX12_sway_146 {p : Program} {l : Launch} {e : Env} {s : State} {m : MethodId} {args : Array Value} {below : List Frame} {meth : Method} {c : Code} {E : WE} {Q : Int32 → MI → MJ → Prop} {ko41 : Int32 → Int32 → Int32 → Int64 → Int32 → Int64 → Int32 → MI → MJ → Prop} (X : Cx E cX12_sway 13 RX12 ((Option.some FieldType.int)) p s m args c meth)
    (hk41 : ∀ (v1 : Int32) (v2 : Int32) (v3 : Int32) (v4 : Int64) (v6 : Int32) (v7 : Int64) (v9 : Int32) (I : MI) (J : MJ) (H : Heap) (locs : List Loc) (ls : Array Slot), ko41 v1 v2 v3 v4 v6 v7 v9 I J → Wd E I J s H locs → lv_has ls 13 [(0, .ref (wa E 17 0)), (1, .int v1), (2, .int v2), (3, .int v3), (4, .long v4), (6, .int v6), (7, .long v7), (9, .int v9)] → W p l e (rmO 4 106) s m args below meth c H locs 0 0 (MQ below (QI E Q) args s 0 0 (AA E)) (F0 m 41 ls [])) : ∀ (v1 : Int32) (v2 : Int32) (v3 : Int32) (v4 : Int64) (v6 : Int32) (v9 : Int32) (t0 : Int64) (I : MI) (J : MJ) (H : Heap) (locs : List Loc) (ls : Array Slot), wX12_sway_b146 (wg E) ko41 Q v1 v2 v3 v4 v6 v9 t0 I J → Wd E I J s H locs → lv_has ls 13 [(0, .ref (wa E 17 0)), (1, .int v1), (2, .int v2), (3, .int v3), (4, .long v4), (6, .int v6), (9, .int v9)] → W p l e (rmO 4 106) s m args below meth c H locs 0 0 (MQ below (QI E Q) args s 0 0 (AA E)) (F0 m 146 ls [.long t0]) := by
  have hx := X.1.1
  have hb := X.1.2.1
  intro v1 v2 v3 v4 v6 v9 t0 I J H locs ls h hW hl
  refine lv_lstore (lv' := [(7, .long t0), (0, .ref (wa E 17 0)), (1, .int v1), (2, .int v2), (3, .int v3), (4, .long v4), (6, .int v6), (9, .int v9)]) hx hb dX12_sway_146 hl (by decide) rfl (fun ls hl => ?_)
  exact bX12_sway_148 X hk41 v1 v2 v3 v4 v6 t0 v9 _ _ _ _ _  h hW (lv_sub hl [1, 2, 3, 4, 5, 6, 0, 7] rfl)
def wX12_sway_b132 (g : GS) (ko41 : Int32 → Int32 → Int32 → Int64 → Int32 → Int64 → Int32 → MI → MJ → Prop) (Q : Int32 → MI → MJ → Prop) (v1 : Int32) (v2 : Int32) (v3 : Int32) (v4 : Int64) (v7 : Int64) (v9 : Int32) (v10 : Int64) (v12 : Int32) (t0 : Int32) (I : MI) (J : MJ) : Prop :=
  ((v12 = 0 → wX12_sway_b146 g ko41 Q v1 v2 v3 v4 t0 v9 v7 I J) ∧ (¬ v12 = 0 → wX12_sway_b146 g ko41 Q v1 v2 v3 v4 t0 v9 v10 I J))
set_option maxHeartbeats 4000000 in
set_option maxRecDepth 100000 in
theorem bX12_sway_132 {p : Program} {l : Launch} {e : Env} {s : State} {m : MethodId} {args : Array Value} {below : List Frame} {meth : Method} {c : Code} {E : WE} {Q : Int32 → MI → MJ → Prop} {ko41 : Int32 → Int32 → Int32 → Int64 → Int32 → Int64 → Int32 → MI → MJ → Prop} (X : Cx E cX12_sway 13 RX12 ((Option.some FieldType.int)) p s m args c meth)
    (hk41 : ∀ (v1 : Int32) (v2 : Int32) (v3 : Int32) (v4 : Int64) (v6 : Int32) (v7 : Int64) (v9 : Int32) (I : MI) (J : MJ) (H : Heap) (locs : List Loc) (ls : Array Slot), ko41 v1 v2 v3 v4 v6 v7 v9 I J → Wd E I J s H locs → lv_has ls 13 [(0, .ref (wa E 17 0)), (1, .int v1), (2, .int v2), (3, .int v3), (4, .long v4), (6, .int v6), (7, .long v7), (9, .int v9)] → W p l e (rmO 4 106) s m args below meth c H locs 0 0 (MQ below (QI E Q) args s 0 0 (AA E)) (F0 m 41 ls [])) : ∀ (v1 : Int32) (v2 : Int32) (v3 : Int32) (v4 : Int64) (v7 : Int64) (v9 : Int32) (v10 : Int64) (v12 : Int32) (t0 : Int32) (I : MI) (J : MJ) (H : Heap) (locs : List Loc) (ls : Array Slot), wX12_sway_b132 (wg E) ko41 Q v1 v2 v3 v4 v7 v9 v10 v12 t0 I J → Wd E I J s H locs → lv_has ls 13 [(0, .ref (wa E 17 0)), (1, .int v1), (2, .int v2), (3, .int v3), (4, .long v4), (7, .long v7), (9, .int v9), (10, .long v10), (12, .int v12)] → W p l e (rmO 4 106) s m args below meth c H locs 0 0 (MQ below (QI E Q) args s 0 0 (AA E)) (F0 m 132 ls [.int t0]) := by
  have hx := X.1.1
  have hb := X.1.2.1
  intro v1 v2 v3 v4 v7 v9 v10 v12 t0 I J H locs ls h hW hl
  refine lv_istore (lv' := [(6, .int t0), (0, .ref (wa E 17 0)), (1, .int v1), (2, .int v2), (3, .int v3), (4, .long v4), (7, .long v7), (9, .int v9), (10, .long v10), (12, .int v12)]) hx hb dX12_sway_132 hl (by decide) rfl (fun ls hl => ?_)
  refine lv_iload hx hb dX12_sway_134 (lv_at hl 9 rfl) ?_
  refine lv_if_eq (tgt := 144) hx hb dX12_sway_136 (by decide) (fun c136 => ?_) (fun c136 => ?_)
  · have h := h.1 c136
    refine lv_lload hx hb dX12_sway_144 (lv_at hl 6 rfl) ?_
    exact bX12_sway_146 X hk41 v1 v2 v3 v4 t0 v9 v7 _ _ _ _ _  h hW (lv_sub hl [1, 2, 3, 4, 5, 0, 7] rfl)
  · have h := h.2 c136
    refine lv_lload hx hb dX12_sway_139 (lv_at hl 8 rfl) ?_
    refine lv_goto (tgt := 146) hx hb dX12_sway_141 (by decide) ?_
    exact bX12_sway_146 X hk41 v1 v2 v3 v4 t0 v9 v10 _ _ _ _ _  h hW (lv_sub hl [1, 2, 3, 4, 5, 0, 7] rfl)
def wX12_sway_b118 (g : GS) (ko41 : Int32 → Int32 → Int32 → Int64 → Int32 → Int64 → Int32 → MI → MJ → Prop) (Q : Int32 → MI → MJ → Prop) (v1 : Int32) (v2 : Int32) (v3 : Int32) (v4 : Int64) (v6 : Int32) (v7 : Int64) (v9 : Int32) (v10 : Int64) (t0 : Int32) (I : MI) (J : MJ) : Prop :=
  ((t0 = 0 → wX12_sway_b132 g ko41 Q v1 v2 v3 v4 v7 v9 v10 t0 v6 I J) ∧ (¬ t0 = 0 → wX12_sway_b132 g ko41 Q v1 v2 v3 v4 v7 v9 v10 t0 v9 I J))
set_option maxHeartbeats 4000000 in
set_option maxRecDepth 100000 in
theorem bX12_sway_118 {p : Program} {l : Launch} {e : Env} {s : State} {m : MethodId} {args : Array Value} {below : List Frame} {meth : Method} {c : Code} {E : WE} {Q : Int32 → MI → MJ → Prop} {ko41 : Int32 → Int32 → Int32 → Int64 → Int32 → Int64 → Int32 → MI → MJ → Prop} (X : Cx E cX12_sway 13 RX12 ((Option.some FieldType.int)) p s m args c meth)
    (hk41 : ∀ (v1 : Int32) (v2 : Int32) (v3 : Int32) (v4 : Int64) (v6 : Int32) (v7 : Int64) (v9 : Int32) (I : MI) (J : MJ) (H : Heap) (locs : List Loc) (ls : Array Slot), ko41 v1 v2 v3 v4 v6 v7 v9 I J → Wd E I J s H locs → lv_has ls 13 [(0, .ref (wa E 17 0)), (1, .int v1), (2, .int v2), (3, .int v3), (4, .long v4), (6, .int v6), (7, .long v7), (9, .int v9)] → W p l e (rmO 4 106) s m args below meth c H locs 0 0 (MQ below (QI E Q) args s 0 0 (AA E)) (F0 m 41 ls [])) : ∀ (v1 : Int32) (v2 : Int32) (v3 : Int32) (v4 : Int64) (v6 : Int32) (v7 : Int64) (v9 : Int32) (v10 : Int64) (t0 : Int32) (I : MI) (J : MJ) (H : Heap) (locs : List Loc) (ls : Array Slot), wX12_sway_b118 (wg E) ko41 Q v1 v2 v3 v4 v6 v7 v9 v10 t0 I J → Wd E I J s H locs → lv_has ls 13 [(0, .ref (wa E 17 0)), (1, .int v1), (2, .int v2), (3, .int v3), (4, .long v4), (6, .int v6), (7, .long v7), (9, .int v9), (10, .long v10)] → W p l e (rmO 4 106) s m args below meth c H locs 0 0 (MQ below (QI E Q) args s 0 0 (AA E)) (F0 m 118 ls [.int t0]) := by
  have hx := X.1.1
  have hb := X.1.2.1
  intro v1 v2 v3 v4 v6 v7 v9 v10 t0 I J H locs ls h hW hl
  refine lv_istore (lv' := [(12, .int t0), (0, .ref (wa E 17 0)), (1, .int v1), (2, .int v2), (3, .int v3), (4, .long v4), (6, .int v6), (7, .long v7), (9, .int v9), (10, .long v10)]) hx hb dX12_sway_118 hl (by decide) rfl (fun ls hl => ?_)
  refine lv_iload hx hb dX12_sway_120 (lv_at hl 0 rfl) ?_
  refine lv_if_eq (tgt := 130) hx hb dX12_sway_122 (by decide) (fun c122 => ?_) (fun c122 => ?_)
  · have h := h.1 c122
    refine lv_iload hx hb dX12_sway_130 (lv_at hl 6 rfl) ?_
    exact bX12_sway_132 X hk41 v1 v2 v3 v4 v7 v9 v10 t0 v6 _ _ _ _ _  h hW (lv_sub hl [1, 2, 3, 4, 5, 7, 8, 9, 0] rfl)
  · have h := h.2 c122
    refine lv_iload hx hb dX12_sway_125 (lv_at hl 8 rfl) ?_
    refine lv_goto (tgt := 132) hx hb dX12_sway_127 (by decide) ?_
    exact bX12_sway_132 X hk41 v1 v2 v3 v4 v7 v9 v10 t0 v9 _ _ _ _ _  h hW (lv_sub hl [1, 2, 3, 4, 5, 7, 8, 9, 0] rfl)
def wX12_sway_b113 (g : GS) (ko41 : Int32 → Int32 → Int32 → Int64 → Int32 → Int64 → Int32 → MI → MJ → Prop) (Q : Int32 → MI → MJ → Prop) (v1 : Int32) (v2 : Int32) (v3 : Int32) (v4 : Int64) (v6 : Int32) (v7 : Int64) (v9 : Int32) (v10 : Int64) (I : MI) (J : MJ) : Prop :=
  wX12_sway_b118 g ko41 Q v1 v2 v3 v4 v6 v7 v9 v10 1 I J
set_option maxHeartbeats 4000000 in
set_option maxRecDepth 100000 in
theorem bX12_sway_113 {p : Program} {l : Launch} {e : Env} {s : State} {m : MethodId} {args : Array Value} {below : List Frame} {meth : Method} {c : Code} {E : WE} {Q : Int32 → MI → MJ → Prop} {ko41 : Int32 → Int32 → Int32 → Int64 → Int32 → Int64 → Int32 → MI → MJ → Prop} (X : Cx E cX12_sway 13 RX12 ((Option.some FieldType.int)) p s m args c meth)
    (hk41 : ∀ (v1 : Int32) (v2 : Int32) (v3 : Int32) (v4 : Int64) (v6 : Int32) (v7 : Int64) (v9 : Int32) (I : MI) (J : MJ) (H : Heap) (locs : List Loc) (ls : Array Slot), ko41 v1 v2 v3 v4 v6 v7 v9 I J → Wd E I J s H locs → lv_has ls 13 [(0, .ref (wa E 17 0)), (1, .int v1), (2, .int v2), (3, .int v3), (4, .long v4), (6, .int v6), (7, .long v7), (9, .int v9)] → W p l e (rmO 4 106) s m args below meth c H locs 0 0 (MQ below (QI E Q) args s 0 0 (AA E)) (F0 m 41 ls [])) : ∀ (v1 : Int32) (v2 : Int32) (v3 : Int32) (v4 : Int64) (v6 : Int32) (v7 : Int64) (v9 : Int32) (v10 : Int64) (I : MI) (J : MJ) (H : Heap) (locs : List Loc) (ls : Array Slot), wX12_sway_b113 (wg E) ko41 Q v1 v2 v3 v4 v6 v7 v9 v10 I J → Wd E I J s H locs → lv_has ls 13 [(0, .ref (wa E 17 0)), (1, .int v1), (2, .int v2), (3, .int v3), (4, .long v4), (6, .int v6), (7, .long v7), (9, .int v9), (10, .long v10)] → W p l e (rmO 4 106) s m args below meth c H locs 0 0 (MQ below (QI E Q) args s 0 0 (AA E)) (F0 m 113 ls []) := by
  have hx := X.1.1
  have hb := X.1.2.1
  intro v1 v2 v3 v4 v6 v7 v9 v10 I J H locs ls h hW hl
  refine lv_iconst (v := 1) hx hb dX12_sway_113 (by decide) ?_
  refine lv_goto (tgt := 118) hx hb dX12_sway_114 (by decide) ?_
  exact bX12_sway_118 X hk41 v1 v2 v3 v4 v6 v7 v9 v10 1 _ _ _ _ _  h hW (lv_sub hl [0, 1, 2, 3, 4, 5, 6, 7, 8] rfl)
def wX12_sway_b97 (g : GS) (ko41 : Int32 → Int32 → Int32 → Int64 → Int32 → Int64 → Int32 → MI → MJ → Prop) (Q : Int32 → MI → MJ → Prop) (v1 : Int32) (v2 : Int32) (v3 : Int32) (v4 : Int64) (v6 : Int32) (v7 : Int64) (v9 : Int32) (t0 : Int64) (I : MI) (J : MJ) : Prop :=
  ((v6 = ((-1)) → wX12_sway_b113 g ko41 Q v1 v2 v3 v4 v6 v7 v9 t0 I J) ∧ (¬ v6 = ((-1)) → (((lg_cmp t0 v7) ≤ 0 → wX12_sway_b118 g ko41 Q v1 v2 v3 v4 v6 v7 v9 t0 0 I J) ∧ (¬ (lg_cmp t0 v7) ≤ 0 → wX12_sway_b113 g ko41 Q v1 v2 v3 v4 v6 v7 v9 t0 I J))))
set_option maxHeartbeats 4000000 in
set_option maxRecDepth 100000 in
theorem bX12_sway_97 {p : Program} {l : Launch} {e : Env} {s : State} {m : MethodId} {args : Array Value} {below : List Frame} {meth : Method} {c : Code} {E : WE} {Q : Int32 → MI → MJ → Prop} {ko41 : Int32 → Int32 → Int32 → Int64 → Int32 → Int64 → Int32 → MI → MJ → Prop} (X : Cx E cX12_sway 13 RX12 ((Option.some FieldType.int)) p s m args c meth)
    (hk41 : ∀ (v1 : Int32) (v2 : Int32) (v3 : Int32) (v4 : Int64) (v6 : Int32) (v7 : Int64) (v9 : Int32) (I : MI) (J : MJ) (H : Heap) (locs : List Loc) (ls : Array Slot), ko41 v1 v2 v3 v4 v6 v7 v9 I J → Wd E I J s H locs → lv_has ls 13 [(0, .ref (wa E 17 0)), (1, .int v1), (2, .int v2), (3, .int v3), (4, .long v4), (6, .int v6), (7, .long v7), (9, .int v9)] → W p l e (rmO 4 106) s m args below meth c H locs 0 0 (MQ below (QI E Q) args s 0 0 (AA E)) (F0 m 41 ls [])) : ∀ (v1 : Int32) (v2 : Int32) (v3 : Int32) (v4 : Int64) (v6 : Int32) (v7 : Int64) (v9 : Int32) (t0 : Int64) (I : MI) (J : MJ) (H : Heap) (locs : List Loc) (ls : Array Slot), wX12_sway_b97 (wg E) ko41 Q v1 v2 v3 v4 v6 v7 v9 t0 I J → Wd E I J s H locs → lv_has ls 13 [(0, .ref (wa E 17 0)), (1, .int v1), (2, .int v2), (3, .int v3), (4, .long v4), (6, .int v6), (7, .long v7), (9, .int v9)] → W p l e (rmO 4 106) s m args below meth c H locs 0 0 (MQ below (QI E Q) args s 0 0 (AA E)) (F0 m 97 ls [.long t0]) := by
  have hx := X.1.1
  have hb := X.1.2.1
  intro v1 v2 v3 v4 v6 v7 v9 t0 I J H locs ls h hW hl
  refine lv_lstore (lv' := [(10, .long t0), (0, .ref (wa E 17 0)), (1, .int v1), (2, .int v2), (3, .int v3), (4, .long v4), (6, .int v6), (7, .long v7), (9, .int v9)]) hx hb dX12_sway_97 hl (by decide) rfl (fun ls hl => ?_)
  refine lv_iload hx hb dX12_sway_99 (lv_at hl 6 rfl) ?_
  refine lv_iconst (v := (-1)) hx hb dX12_sway_101 (by decide) ?_
  refine lv_icmp_eq (tgt := 113) hx hb dX12_sway_102 (by decide) (fun c102 => ?_) (fun c102 => ?_)
  · have h := h.1 c102
    exact bX12_sway_113 X hk41 v1 v2 v3 v4 v6 v7 v9 t0 _ _ _ _ _  h hW (lv_sub hl [1, 2, 3, 4, 5, 6, 7, 8, 0] rfl)
  · have h := h.2 c102
    refine lv_lload hx hb dX12_sway_105 (lv_at hl 0 rfl) ?_
    refine lv_lload hx hb dX12_sway_107 (lv_at hl 7 rfl) ?_
    refine W.lcmp hx hb dX12_sway_109 ?_
    refine lv_if_le (tgt := 117) hx hb dX12_sway_110 (by decide) (fun c110 => ?_) (fun c110 => ?_)
    · have h := h.1 c110
      refine lv_iconst (v := 0) hx hb dX12_sway_117 (by decide) ?_
      exact bX12_sway_118 X hk41 v1 v2 v3 v4 v6 v7 v9 t0 0 _ _ _ _ _  h hW (lv_sub hl [1, 2, 3, 4, 5, 6, 7, 8, 0] rfl)
    · have h := h.2 c110
      exact bX12_sway_113 X hk41 v1 v2 v3 v4 v6 v7 v9 t0 _ _ _ _ _  h hW (lv_sub hl [1, 2, 3, 4, 5, 6, 7, 8, 0] rfl)
def wX12_sway_b41 (g : GS) (Q : Int32 → MI → MJ → Prop) : Nat → Int32 → Int32 → Int32 → Int64 → Int32 → Int64 → Int32 → MI → MJ → Prop
  | 0, _, _, _, _, _, _, _, _, _ => False
  | n + 1, v1, v2, v3, v4, v6, v7, v9, I, J => (((I 17 0 0) ≤ v9 → Q v6 I J) ∧ (¬ (I 17 0 0) ≤ v9 → wX12_has g v3 v9 I J (fun r53 I53 J53 => ((r53 = 0 → wX12_sway_b148 g (fun v1 v2 v3 v4 v6 v7 v9 I J => wX12_sway_b41 g Q n v1 v2 v3 v4 v6 v7 v9 I J) Q v1 v2 v3 v4 v6 v7 v9 I53 J53) ∧ (¬ r53 = 0 → wX12_inBy g v1 v2 (v3 &&& ((1 <<< (v9 &&& 31)) ^^^ ((-1)))) I53 J53 (fun r75 I75 J75 => ((0 ≤ (lg_cmp (v4 - (100 * r75)) 0) → wX12_sway_b97 g (fun v1 v2 v3 v4 v6 v7 v9 I J => wX12_sway_b41 g Q n v1 v2 v3 v4 v6 v7 v9 I J) Q v1 v2 v3 v4 v6 v7 v9 (v4 - (100 * r75)) I75 J75) ∧ (¬ 0 ≤ (lg_cmp (v4 - (100 * r75)) 0) → wX12_sway_b97 g (fun v1 v2 v3 v4 v6 v7 v9 I J => wX12_sway_b41 g Q n v1 v2 v3 v4 v6 v7 v9 I J) Q v1 v2 v3 v4 v6 v7 v9 (-(v4 - (100 * r75))) I75 J75))))))))
set_option maxHeartbeats 4000000 in
set_option maxRecDepth 100000 in
theorem bX12_sway_41 {p : Program} {l : Launch} {e : Env} {s : State} {m : MethodId} {args : Array Value} {below : List Frame} {meth : Method} {c : Code} {E : WE} {Q : Int32 → MI → MJ → Prop} (X : Cx E cX12_sway 13 RX12 ((Option.some FieldType.int)) p s m args c meth) (n : Nat) : ∀ (v1 : Int32) (v2 : Int32) (v3 : Int32) (v4 : Int64) (v6 : Int32) (v7 : Int64) (v9 : Int32) (I : MI) (J : MJ) (H : Heap) (locs : List Loc) (ls : Array Slot), wX12_sway_b41 (wg E) Q n v1 v2 v3 v4 v6 v7 v9 I J → Wd E I J s H locs → lv_has ls 13 [(0, .ref (wa E 17 0)), (1, .int v1), (2, .int v2), (3, .int v3), (4, .long v4), (6, .int v6), (7, .long v7), (9, .int v9)] → W p l e (rmO 4 106) s m args below meth c H locs 0 0 (MQ below (QI E Q) args s 0 0 (AA E)) (F0 m 41 ls []) := by
  have hx := X.1.1
  have hb := X.1.2.1
  induction n with
  | zero => intro v1 v2 v3 v4 v6 v7 v9 I J H locs ls h hW hl; exact h.elim
  | succ n ih =>
    intro v1 v2 v3 v4 v6 v7 v9 I J H locs ls h hW hl
    refine lv_iload hx hb dX12_sway_41 (lv_at hl 7 rfl) ?_
    refine lv_aload_n hx hb dX12_sway_43 rfl (lv_at hl 0 rfl) ?_
    refine r_get X hW 0 (okS hW sc17_0) rfl rfl inX12 (Nat.le_of_ble_eq_true rfl) tw834 rfl dX12_sway_44 ?_
    refine lv_icmp_ge (tgt := 154) hx hb dX12_sway_47 (by decide) (fun c47 => ?_) (fun c47 => ?_)
    · have h := h.1 c47
      refine lv_iload hx hb dX12_sway_154 (lv_at hl 5 rfl) ?_
      exact e_i X hW h dX12_sway_156
    · have h := h.2 c47
      refine lv_iload_n hx hb dX12_sway_50 rfl (lv_at hl 3 rfl) ?_
      refine lv_iload hx hb dX12_sway_51 (lv_at hl 7 rfl) ?_
      refine af_i hW (rn_S X hW (As := [.int v3, .int v9]) (rest := []) (kX12_has h) mbX12_has tw1055 tw1056 rfl hl.1 (Nat.le_of_ble_eq_true rfl) ⟨(Nat.le_of_ble_eq_true rfl), (Nat.le_of_ble_eq_true rfl)⟩ dX12_sway_53) (fun r53 I53 J53 H locs h hW => ?_)
      refine lv_if_eq (tgt := 148) hx hb dX12_sway_56 (by decide) (fun c56 => ?_) (fun c56 => ?_)
      · have h := h.1 c56
        exact bX12_sway_148 X ih v1 v2 v3 v4 v6 v7 v9 _ _ _ _ _  h hW (lv_sub hl [0, 1, 2, 3, 4, 5, 6, 7] rfl)
      · have h := h.2 c56
        refine lv_lload hx hb dX12_sway_59 (lv_at hl 4 rfl) ?_
        refine lv_ldc2 hx hb X.1.2.2.2.1 (X.1.2.2.2.2 _ tw1142) dX12_sway_61 ?_
        refine lv_aload_n hx hb dX12_sway_64 rfl (lv_at hl 0 rfl) ?_
        refine lv_iload_n hx hb dX12_sway_65 rfl (lv_at hl 1 rfl) ?_
        refine lv_iload_n hx hb dX12_sway_66 rfl (lv_at hl 2 rfl) ?_
        refine lv_iload_n hx hb dX12_sway_67 rfl (lv_at hl 3 rfl) ?_
        refine lv_iconst (v := 1) hx hb dX12_sway_68 (by decide) ?_
        refine lv_iload hx hb dX12_sway_69 (lv_at hl 7 rfl) ?_
        refine lv_ishl hx hb dX12_sway_71 ?_
        refine lv_iconst (v := (-1)) hx hb dX12_sway_72 (by decide) ?_
        refine lv_ixor hx hb dX12_sway_73 ?_
        refine lv_iand hx hb dX12_sway_74 ?_
        refine af_l hW (rn_V X hW (As := [.int v1, .int v2, .int (v3 &&& ((1 <<< (v9 &&& 31)) ^^^ ((-1))))]) (rest := [.long 100, .long v4]) (okS hW sc17_0) rfl rfl (kX12_inBy h) mbX12_inBy tw1093 tw1095 tp40 rfl hl.1 (Nat.le_of_ble_eq_true rfl) ⟨(Nat.le_of_ble_eq_true rfl), (Nat.le_of_ble_eq_true rfl)⟩ dX12_sway_75) (fun r75 I75 J75 H locs h hW => ?_)
        refine lv_lmul hx hb dX12_sway_78 ?_
        refine lv_lsub hx hb dX12_sway_79 ?_
        refine lv_lstore (lv' := [(10, .long (v4 - (100 * r75))), (0, .ref (wa E 17 0)), (1, .int v1), (2, .int v2), (3, .int v3), (4, .long v4), (6, .int v6), (7, .long v7), (9, .int v9)]) hx hb dX12_sway_80 hl (by decide) rfl (fun ls hl => ?_)
        refine lv_lload hx hb dX12_sway_82 (lv_at hl 0 rfl) ?_
        refine lv_lconst (v := 0) hx hb dX12_sway_84 (by decide) ?_
        refine W.lcmp hx hb dX12_sway_85 ?_
        refine lv_if_ge (tgt := 95) hx hb dX12_sway_86 (by decide) (fun c86 => ?_) (fun c86 => ?_)
        · have h := h.1 c86
          refine lv_lload hx hb dX12_sway_95 (lv_at hl 0 rfl) ?_
          exact bX12_sway_97 X ih v1 v2 v3 v4 v6 v7 v9 (v4 - (100 * r75)) _ _ _ _ _  h hW (lv_sub hl [1, 2, 3, 4, 5, 6, 7, 8] rfl)
        · have h := h.2 c86
          refine lv_lload hx hb dX12_sway_89 (lv_at hl 0 rfl) ?_
          refine lv_lneg hx hb dX12_sway_91 ?_
          refine lv_goto (tgt := 97) hx hb dX12_sway_92 (by decide) ?_
          exact bX12_sway_97 X ih v1 v2 v3 v4 v6 v7 v9 (-(v4 - (100 * r75))) _ _ _ _ _  h hW (lv_sub hl [1, 2, 3, 4, 5, 6, 7, 8] rfl)
def wX12_sway (g : GS) (a1 : Int32) (a2 : Int32) (a3 : Int32) (I : MI) (J : MJ) (Q : Int32 → MI → MJ → Prop) : Prop :=
  wX12_areThere g a1 a2 I J (fun r3 I3 J3 => ((¬ r3 = 0 → wX12_areComers g a3 I3 J3 (fun r14 I14 J14 => ((¬ r14 = 0 → wX12_inBy g a1 a2 a3 I14 J14 (fun r27 I27 J27 => ∃ n41, wX12_sway_b41 g Q n41 a1 a2 a3 r27 ((-1)) 0 0 I27 J27)) ∧ (r14 = 0 → Q ((-102)) I14 J14)))) ∧ (r3 = 0 → Q ((-101)) I3 J3)))
theorem mbX12_sway : MB yX12_sway cX12_sway 13 ((Option.some FieldType.int)) 3 := ⟨tw1141, tw7, ⟨by decide, by decide⟩, by decide +kernel, by decide +kernel⟩
set_option maxHeartbeats 4000000 in
set_option maxRecDepth 100000 in
theorem kX12_sway {l : Launch} {E : WE} {a1 : Int32} {a2 : Int32} {a3 : Int32} {I : MI} {J : MJ} {Q : Int32 → MI → MJ → Prop} (h : wX12_sway (wg E) a1 a2 a3 I J Q) : Met l yX12_sway (wsM yX12_sway cX12_sway 13 ((Option.some FieldType.int))) (rmO 4 106) (va_Pc [.ref (wa E 17 0), .int a1, .int a2, .int a3] (Wp E I J)) (QI E Q) 0 0 (AA E) := by
  refine m_entry mbX12_sway (Nat.le_of_ble_eq_true rfl) ?_
  intro p e s m args below meth c X ls hW hl
  have X : Cx E cX12_sway 13 RX12 ((Option.some FieldType.int)) p s m args c meth := X
  have hx := X.1.1
  have hb := X.1.2.1
  have hl : lv_has ls 13 [(0, .ref (wa E 17 0)), (1, .int a1), (2, .int a2), (3, .int a3)] := hl
  refine lv_aload_n hx hb dX12_sway_0 rfl (lv_at hl 0 rfl) ?_
  refine lv_iload_n hx hb dX12_sway_1 rfl (lv_at hl 1 rfl) ?_
  refine lv_iload_n hx hb dX12_sway_2 rfl (lv_at hl 2 rfl) ?_
  refine af_i hW (rn_V X hW (As := [.int a1, .int a2]) (rest := []) (okS hW sc17_0) rfl rfl (kX12_areThere h) mbX12_areThere tw1069 tw1071 tp38 rfl hl.1 (Nat.le_of_ble_eq_true rfl) ⟨(Nat.le_of_ble_eq_true rfl), (Nat.le_of_ble_eq_true rfl)⟩ dX12_sway_3) (fun r3 I3 J3 H locs h hW => ?_)
  refine lv_if_ne (tgt := 12) hx hb dX12_sway_6 (by decide) (fun c6 => ?_) (fun c6 => ?_)
  · have h := h.1 c6
    refine lv_aload_n hx hb dX12_sway_12 rfl (lv_at hl 0 rfl) ?_
    refine lv_iload_n hx hb dX12_sway_13 rfl (lv_at hl 3 rfl) ?_
    refine af_i hW (rn_V X hW (As := [.int a3]) (rest := []) (okS hW sc17_0) rfl rfl (kX12_areComers h) mbX12_areComers tw1051 tw1053 tp36 rfl hl.1 (Nat.le_of_ble_eq_true rfl) ⟨(Nat.le_of_ble_eq_true rfl), (Nat.le_of_ble_eq_true rfl)⟩ dX12_sway_14) (fun r14 I14 J14 H locs h hW => ?_)
    refine lv_if_ne (tgt := 23) hx hb dX12_sway_17 (by decide) (fun c17 => ?_) (fun c17 => ?_)
    · have h := h.1 c17
      refine lv_aload_n hx hb dX12_sway_23 rfl (lv_at hl 0 rfl) ?_
      refine lv_iload_n hx hb dX12_sway_24 rfl (lv_at hl 1 rfl) ?_
      refine lv_iload_n hx hb dX12_sway_25 rfl (lv_at hl 2 rfl) ?_
      refine lv_iload_n hx hb dX12_sway_26 rfl (lv_at hl 3 rfl) ?_
      refine af_l hW (rn_V X hW (As := [.int a1, .int a2, .int a3]) (rest := []) (okS hW sc17_0) rfl rfl (kX12_inBy h) mbX12_inBy tw1093 tw1095 tp40 rfl hl.1 (Nat.le_of_ble_eq_true rfl) ⟨(Nat.le_of_ble_eq_true rfl), (Nat.le_of_ble_eq_true rfl)⟩ dX12_sway_27) (fun r27 I27 J27 H locs h hW => ?_)
      refine lv_lstore (lv' := [(4, .long r27), (0, .ref (wa E 17 0)), (1, .int a1), (2, .int a2), (3, .int a3)]) hx hb dX12_sway_30 hl (by decide) rfl (fun ls hl => ?_)
      refine lv_iconst (v := (-1)) hx hb dX12_sway_32 (by decide) ?_
      refine lv_istore (lv' := [(6, .int ((-1))), (4, .long r27), (0, .ref (wa E 17 0)), (1, .int a1), (2, .int a2), (3, .int a3)]) hx hb dX12_sway_33 hl (by decide) rfl (fun ls hl => ?_)
      refine lv_lconst (v := 0) hx hb dX12_sway_35 (by decide) ?_
      refine lv_lstore (lv' := [(7, .long 0), (6, .int ((-1))), (4, .long r27), (0, .ref (wa E 17 0)), (1, .int a1), (2, .int a2), (3, .int a3)]) hx hb dX12_sway_36 hl (by decide) rfl (fun ls hl => ?_)
      refine lv_iconst (v := 0) hx hb dX12_sway_38 (by decide) ?_
      refine lv_istore (lv' := [(9, .int 0), (7, .long 0), (6, .int ((-1))), (4, .long r27), (0, .ref (wa E 17 0)), (1, .int a1), (2, .int a2), (3, .int a3)]) hx hb dX12_sway_39 hl (by decide) rfl (fun ls hl => ?_)
      obtain ⟨n41, h⟩ := h
      exact bX12_sway_41 X n41 a1 a2 a3 r27 ((-1)) 0 0 _ _ _ _ _  h hW (lv_sub hl [4, 5, 6, 7, 3, 2, 1, 0] rfl)
    · have h := h.2 c17
      refine lv_bipush (v := (-102)) hx hb dX12_sway_20 (by decide) ?_
      exact e_i X hW h dX12_sway_22
  · have h := h.2 c6
    refine lv_bipush (v := (-101)) hx hb dX12_sway_9 (by decide) ?_
    exact e_i X hW h dX12_sway_11
def wX12_withdraws (g : GS) (a1 : Int32) (a2 : Int32) (a3 : Int32) (a4 : Int32) (I : MI) (J : MJ) (Q : Int32 → MI → MJ → Prop) : Prop :=
  wX12_inBy g a1 a2 a3 I J (fun r7 I7 J7 => wX12_ones g a3 I7 J7 (fun r16 I16 J16 => wX12_tens g (2 * r16) I16 J16 (fun r20 I20 J20 => ((0 ≤ (lg_cmp (10 * r7) ((Int32.toInt64 a4) * r20)) → Q 0 I20 J20) ∧ (¬ 0 ≤ (lg_cmp (10 * r7) ((Int32.toInt64 a4) * r20)) → Q 1 I20 J20)))))
theorem mbX12_withdraws : MB yX12_withdraws cX12_withdraws 5 ((Option.some FieldType.boolean)) 4 := ⟨tw1150, tw7, ⟨by decide, by decide⟩, by decide +kernel, by decide +kernel⟩
set_option maxHeartbeats 4000000 in
set_option maxRecDepth 100000 in
theorem kX12_withdraws {l : Launch} {E : WE} {a1 : Int32} {a2 : Int32} {a3 : Int32} {a4 : Int32} {I : MI} {J : MJ} {Q : Int32 → MI → MJ → Prop} (h : wX12_withdraws (wg E) a1 a2 a3 a4 I J Q) : Met l yX12_withdraws (wsM yX12_withdraws cX12_withdraws 5 ((Option.some FieldType.boolean))) (rmO 4 106) (va_Pc [.ref (wa E 17 0), .int a1, .int a2, .int a3, .int a4] (Wp E I J)) (QI E Q) 0 0 (AA E) := by
  refine m_entry mbX12_withdraws (Nat.le_of_ble_eq_true rfl) ?_
  intro p e s m args below meth c X ls hW hl
  have X : Cx E cX12_withdraws 5 RX12 ((Option.some FieldType.boolean)) p s m args c meth := X
  have hx := X.1.1
  have hb := X.1.2.1
  have hl : lv_has ls 5 [(0, .ref (wa E 17 0)), (1, .int a1), (2, .int a2), (3, .int a3), (4, .int a4)] := hl
  refine lv_ldc2 hx hb X.1.2.2.2.1 (X.1.2.2.2.2 _ tw1083) dX12_withdraws_0 ?_
  refine lv_aload_n hx hb dX12_withdraws_3 rfl (lv_at hl 0 rfl) ?_
  refine lv_iload_n hx hb dX12_withdraws_4 rfl (lv_at hl 1 rfl) ?_
  refine lv_iload_n hx hb dX12_withdraws_5 rfl (lv_at hl 2 rfl) ?_
  refine lv_iload_n hx hb dX12_withdraws_6 rfl (lv_at hl 3 rfl) ?_
  refine af_l hW (rn_V X hW (As := [.int a1, .int a2, .int a3]) (rest := [.long 10]) (okS hW sc17_0) rfl rfl (kX12_inBy h) mbX12_inBy tw1093 tw1095 tp40 rfl hl.1 (Nat.le_of_ble_eq_true rfl) ⟨(Nat.le_of_ble_eq_true rfl), (Nat.le_of_ble_eq_true rfl)⟩ dX12_withdraws_7) (fun r7 I7 J7 H locs h hW => ?_)
  refine lv_lmul hx hb dX12_withdraws_10 ?_
  refine lv_iload hx hb dX12_withdraws_11 (lv_at hl 4 rfl) ?_
  refine lv_i2l hx hb dX12_withdraws_13 rfl ?_
  refine lv_iconst (v := 2) hx hb dX12_withdraws_14 (by decide) ?_
  refine lv_iload_n hx hb dX12_withdraws_15 rfl (lv_at hl 3 rfl) ?_
  refine af_i hW (rn_S X hW (As := [.int a3]) (rest := [.int 2, .long (Int32.toInt64 a4), .long (10 * r7)]) (kX12_ones h) mbX12_ones tw1058 tw1059 rfl hl.1 (Nat.le_of_ble_eq_true rfl) ⟨(Nat.le_of_ble_eq_true rfl), (Nat.le_of_ble_eq_true rfl)⟩ dX12_withdraws_16) (fun r16 I16 J16 H locs h hW => ?_)
  refine lv_imul hx hb dX12_withdraws_19 ?_
  refine af_l hW (rn_S X hW (As := [.int (2 * r16)]) (rest := [.long (Int32.toInt64 a4), .long (10 * r7)]) (kX12_tens h) mbX12_tens tw1080 tw1081 rfl hl.1 (Nat.le_of_ble_eq_true rfl) ⟨(Nat.le_of_ble_eq_true rfl), (Nat.le_of_ble_eq_true rfl)⟩ dX12_withdraws_20) (fun r20 I20 J20 H locs h hW => ?_)
  refine lv_lmul hx hb dX12_withdraws_23 ?_
  refine W.lcmp hx hb dX12_withdraws_24 ?_
  refine lv_if_ge (tgt := 32) hx hb dX12_withdraws_25 (by decide) (fun c25 => ?_) (fun c25 => ?_)
  · have h := h.1 c25
    refine lv_iconst (v := 0) hx hb dX12_withdraws_32 (by decide) ?_
    exact e_z X hW rfl h dX12_withdraws_33
  · have h := h.2 c25
    refine lv_iconst (v := 1) hx hb dX12_withdraws_28 (by decide) ?_
    refine lv_goto (tgt := 33) hx hb dX12_withdraws_29 (by decide) ?_
    exact e_z X hW rfl h dX12_withdraws_33
def wX12_word_b69 (g : GS) (ko38 : Int32 → Int32 → Int32 → Int32 → Int32 → MI → MJ → Prop) (Q : Int32 → MI → MJ → Prop) (v1 : Int32) (v2 : Int32) (v3 : Int32) (v5 : Int32) (t0 : Int32) (t1 : Int32) (I : MI) (J : MJ) : Prop :=
  ko38 v1 v2 v3 (t1 ||| t0) (v5 + 1) I J
set_option maxHeartbeats 4000000 in
set_option maxRecDepth 100000 in
theorem bX12_word_69 {p : Program} {l : Launch} {e : Env} {s : State} {m : MethodId} {args : Array Value} {below : List Frame} {meth : Method} {c : Code} {E : WE} {Q : Int32 → MI → MJ → Prop} {ko38 : Int32 → Int32 → Int32 → Int32 → Int32 → MI → MJ → Prop} (X : Cx E cX12_word 6 RX12 ((Option.some FieldType.int)) p s m args c meth)
    (hk38 : ∀ (v1 : Int32) (v2 : Int32) (v3 : Int32) (v4 : Int32) (v5 : Int32) (I : MI) (J : MJ) (H : Heap) (locs : List Loc) (ls : Array Slot), ko38 v1 v2 v3 v4 v5 I J → Wd E I J s H locs → lv_has ls 6 [(0, .ref (wa E 17 0)), (1, .int v1), (2, .int v2), (3, .int v3), (4, .int v4), (5, .int v5)] → W p l e (rmO 5 130) s m args below meth c H locs 0 0 (MQ below (QI E Q) args s 0 0 (AA E)) (F0 m 38 ls [])) : ∀ (v1 : Int32) (v2 : Int32) (v3 : Int32) (v5 : Int32) (t0 : Int32) (t1 : Int32) (I : MI) (J : MJ) (H : Heap) (locs : List Loc) (ls : Array Slot), wX12_word_b69 (wg E) ko38 Q v1 v2 v3 v5 t0 t1 I J → Wd E I J s H locs → lv_has ls 6 [(0, .ref (wa E 17 0)), (1, .int v1), (2, .int v2), (3, .int v3), (5, .int v5)] → W p l e (rmO 5 130) s m args below meth c H locs 0 0 (MQ below (QI E Q) args s 0 0 (AA E)) (F0 m 69 ls [.int t0, .int t1]) := by
  have hx := X.1.1
  have hb := X.1.2.1
  intro v1 v2 v3 v5 t0 t1 I J H locs ls h hW hl
  refine lv_ior hx hb dX12_word_69 ?_
  refine lv_istore (lv' := [(4, .int (t1 ||| t0)), (0, .ref (wa E 17 0)), (1, .int v1), (2, .int v2), (3, .int v3), (5, .int v5)]) hx hb dX12_word_70 hl (by decide) rfl (fun ls hl => ?_)
  refine lv_iinc (v := v5 + 1) (lv' := [(5, .int (v5 + 1)), (4, .int (t1 ||| t0)), (0, .ref (wa E 17 0)), (1, .int v1), (2, .int v2), (3, .int v3)]) hx hb dX12_word_72 hl (k := 5) rfl rfl (by decide) rfl (fun ls hl => ?_)
  refine lv_goto (tgt := 38) hx hb dX12_word_75 (by decide) ?_
  exact hk38 v1 v2 v3 (t1 ||| t0) (v5 + 1) _ _ _ _ _  h hW (lv_sub hl [2, 3, 4, 5, 1, 0] rfl)
def wX12_word_b38 (g : GS) (Q : Int32 → MI → MJ → Prop) : Nat → Int32 → Int32 → Int32 → Int32 → Int32 → MI → MJ → Prop
  | 0, _, _, _, _, _, _, _ => False
  | n + 1, v1, v2, v3, v4, v5, I, J => (((I 17 0 4) ≤ v5 → Q v4 I J) ∧ (¬ (I 17 0 4) ≤ v5 → wX12_withdraws g v1 v5 v2 v3 I J (fun r55 I55 J55 => ((r55 = 0 → wX12_word_b69 g (fun v1 v2 v3 v4 v5 I J => wX12_word_b38 g Q n v1 v2 v3 v4 v5 I J) Q v1 v2 v3 v5 0 v4 I55 J55) ∧ (¬ r55 = 0 → wX12_word_b69 g (fun v1 v2 v3 v4 v5 I J => wX12_word_b38 g Q n v1 v2 v3 v4 v5 I J) Q v1 v2 v3 v5 (1 <<< (v5 &&& 31)) v4 I55 J55)))))
set_option maxHeartbeats 4000000 in
set_option maxRecDepth 100000 in
theorem bX12_word_38 {p : Program} {l : Launch} {e : Env} {s : State} {m : MethodId} {args : Array Value} {below : List Frame} {meth : Method} {c : Code} {E : WE} {Q : Int32 → MI → MJ → Prop} (X : Cx E cX12_word 6 RX12 ((Option.some FieldType.int)) p s m args c meth) (n : Nat) : ∀ (v1 : Int32) (v2 : Int32) (v3 : Int32) (v4 : Int32) (v5 : Int32) (I : MI) (J : MJ) (H : Heap) (locs : List Loc) (ls : Array Slot), wX12_word_b38 (wg E) Q n v1 v2 v3 v4 v5 I J → Wd E I J s H locs → lv_has ls 6 [(0, .ref (wa E 17 0)), (1, .int v1), (2, .int v2), (3, .int v3), (4, .int v4), (5, .int v5)] → W p l e (rmO 5 130) s m args below meth c H locs 0 0 (MQ below (QI E Q) args s 0 0 (AA E)) (F0 m 38 ls []) := by
  have hx := X.1.1
  have hb := X.1.2.1
  induction n with
  | zero => intro v1 v2 v3 v4 v5 I J H locs ls h hW hl; exact h.elim
  | succ n ih =>
    intro v1 v2 v3 v4 v5 I J H locs ls h hW hl
    refine lv_iload hx hb dX12_word_38 (lv_at hl 5 rfl) ?_
    refine lv_aload_n hx hb dX12_word_40 rfl (lv_at hl 0 rfl) ?_
    refine r_get X hW 4 (okS hW sc17_0) rfl rfl inX12 (Nat.le_of_ble_eq_true rfl) tw838 rfl dX12_word_41 ?_
    refine lv_icmp_ge (tgt := 78) hx hb dX12_word_44 (by decide) (fun c44 => ?_) (fun c44 => ?_)
    · have h := h.1 c44
      refine lv_iload hx hb dX12_word_78 (lv_at hl 4 rfl) ?_
      exact e_i X hW h dX12_word_80
    · have h := h.2 c44
      refine lv_iload hx hb dX12_word_47 (lv_at hl 4 rfl) ?_
      refine lv_aload_n hx hb dX12_word_49 rfl (lv_at hl 0 rfl) ?_
      refine lv_iload_n hx hb dX12_word_50 rfl (lv_at hl 1 rfl) ?_
      refine lv_iload hx hb dX12_word_51 (lv_at hl 5 rfl) ?_
      refine lv_iload_n hx hb dX12_word_53 rfl (lv_at hl 2 rfl) ?_
      refine lv_iload_n hx hb dX12_word_54 rfl (lv_at hl 3 rfl) ?_
      refine af_i hW (rn_V X hW (As := [.int v1, .int v5, .int v2, .int v3]) (rest := [.int v4]) (okS hW sc17_0) rfl rfl (kX12_withdraws h) mbX12_withdraws tw1147 tw1149 tp46 rfl hl.1 (Nat.le_of_ble_eq_true rfl) ⟨(Nat.le_of_ble_eq_true rfl), (Nat.le_of_ble_eq_true rfl)⟩ dX12_word_55) (fun r55 I55 J55 H locs h hW => ?_)
      refine lv_if_eq (tgt := 68) hx hb dX12_word_58 (by decide) (fun c58 => ?_) (fun c58 => ?_)
      · have h := h.1 c58
        refine lv_iconst (v := 0) hx hb dX12_word_68 (by decide) ?_
        exact bX12_word_69 X ih v1 v2 v3 v5 0 v4 _ _ _ _ _  h hW (lv_sub hl [0, 1, 2, 3, 5] rfl)
      · have h := h.2 c58
        refine lv_iconst (v := 1) hx hb dX12_word_61 (by decide) ?_
        refine lv_iload hx hb dX12_word_62 (lv_at hl 5 rfl) ?_
        refine lv_ishl hx hb dX12_word_64 ?_
        refine lv_goto (tgt := 69) hx hb dX12_word_65 (by decide) ?_
        exact bX12_word_69 X ih v1 v2 v3 v5 (1 <<< (v5 &&& 31)) v4 _ _ _ _ _  h hW (lv_sub hl [0, 1, 2, 3, 5] rfl)
def wX12_word (g : GS) (a1 : Int32) (a2 : Int32) (a3 : Int32) (I : MI) (J : MJ) (Q : Int32 → MI → MJ → Prop) : Prop :=
  wX12_isRule g a1 I J (fun r2 I2 J2 => ((¬ r2 = 0 → wX12_areComers g a2 I2 J2 (fun r13 I13 J13 => ((r13 = 0 → Q ((-102)) I13 J13) ∧ (¬ r13 = 0 → wX12_within g a3 0 10 I13 J13 (fun r23 I23 J23 => ((¬ r23 = 0 → ∃ n38, wX12_word_b38 g Q n38 a1 a2 a3 0 0 I23 J23) ∧ (r23 = 0 → Q ((-102)) I23 J23))))))) ∧ (r2 = 0 → Q ((-101)) I2 J2)))
theorem mbX12_word : MB yX12_word cX12_word 6 ((Option.some FieldType.int)) 3 := ⟨tw1146, tw7, ⟨by decide, by decide⟩, by decide +kernel, by decide +kernel⟩
set_option maxHeartbeats 4000000 in
set_option maxRecDepth 100000 in
theorem kX12_word {l : Launch} {E : WE} {a1 : Int32} {a2 : Int32} {a3 : Int32} {I : MI} {J : MJ} {Q : Int32 → MI → MJ → Prop} (h : wX12_word (wg E) a1 a2 a3 I J Q) : Met l yX12_word (wsM yX12_word cX12_word 6 ((Option.some FieldType.int))) (rmO 5 130) (va_Pc [.ref (wa E 17 0), .int a1, .int a2, .int a3] (Wp E I J)) (QI E Q) 0 0 (AA E) := by
  refine m_entry mbX12_word (Nat.le_of_ble_eq_true rfl) ?_
  intro p e s m args below meth c X ls hW hl
  have X : Cx E cX12_word 6 RX12 ((Option.some FieldType.int)) p s m args c meth := X
  have hx := X.1.1
  have hb := X.1.2.1
  have hl : lv_has ls 6 [(0, .ref (wa E 17 0)), (1, .int a1), (2, .int a2), (3, .int a3)] := hl
  refine lv_aload_n hx hb dX12_word_0 rfl (lv_at hl 0 rfl) ?_
  refine lv_iload_n hx hb dX12_word_1 rfl (lv_at hl 1 rfl) ?_
  refine af_i hW (rn_V X hW (As := [.int a1]) (rest := []) (okS hW sc17_0) rfl rfl (kX12_isRule h) mbX12_isRule tw987 tw989 tp28 rfl hl.1 (Nat.le_of_ble_eq_true rfl) ⟨(Nat.le_of_ble_eq_true rfl), (Nat.le_of_ble_eq_true rfl)⟩ dX12_word_2) (fun r2 I2 J2 H locs h hW => ?_)
  refine lv_if_ne (tgt := 11) hx hb dX12_word_5 (by decide) (fun c5 => ?_) (fun c5 => ?_)
  · have h := h.1 c5
    refine lv_aload_n hx hb dX12_word_11 rfl (lv_at hl 0 rfl) ?_
    refine lv_iload_n hx hb dX12_word_12 rfl (lv_at hl 2 rfl) ?_
    refine af_i hW (rn_V X hW (As := [.int a2]) (rest := []) (okS hW sc17_0) rfl rfl (kX12_areComers h) mbX12_areComers tw1051 tw1053 tp36 rfl hl.1 (Nat.le_of_ble_eq_true rfl) ⟨(Nat.le_of_ble_eq_true rfl), (Nat.le_of_ble_eq_true rfl)⟩ dX12_word_13) (fun r13 I13 J13 H locs h hW => ?_)
    refine lv_if_eq (tgt := 29) hx hb dX12_word_16 (by decide) (fun c16 => ?_) (fun c16 => ?_)
    · have h := h.1 c16
      refine lv_bipush (v := (-102)) hx hb dX12_word_29 (by decide) ?_
      exact e_i X hW h dX12_word_31
    · have h := h.2 c16
      refine lv_iload_n hx hb dX12_word_19 rfl (lv_at hl 3 rfl) ?_
      refine lv_iconst (v := 0) hx hb dX12_word_20 (by decide) ?_
      refine lv_bipush (v := 10) hx hb dX12_word_21 (by decide) ?_
      refine af_i hW (rn_S X hW (As := [.int a3, .int 0, .int 10]) (rest := []) (kX12_within h) mbX12_within tw969 tw970 rfl hl.1 (Nat.le_of_ble_eq_true rfl) ⟨(Nat.le_of_ble_eq_true rfl), (Nat.le_of_ble_eq_true rfl)⟩ dX12_word_23) (fun r23 I23 J23 H locs h hW => ?_)
      refine lv_if_ne (tgt := 32) hx hb dX12_word_26 (by decide) (fun c26 => ?_) (fun c26 => ?_)
      · have h := h.1 c26
        refine lv_iconst (v := 0) hx hb dX12_word_32 (by decide) ?_
        refine lv_istore (lv' := [(4, .int 0), (0, .ref (wa E 17 0)), (1, .int a1), (2, .int a2), (3, .int a3)]) hx hb dX12_word_33 hl (by decide) rfl (fun ls hl => ?_)
        refine lv_iconst (v := 0) hx hb dX12_word_35 (by decide) ?_
        refine lv_istore (lv' := [(5, .int 0), (4, .int 0), (0, .ref (wa E 17 0)), (1, .int a1), (2, .int a2), (3, .int a3)]) hx hb dX12_word_36 hl (by decide) rfl (fun ls hl => ?_)
        obtain ⟨n38, h⟩ := h
        exact bX12_word_38 X n38 a1 a2 a3 0 0 _ _ _ _ _  h hW (lv_sub hl [2, 3, 4, 5, 1, 0] rfl)
      · have h := h.2 c26
        refine lv_bipush (v := (-102)) hx hb dX12_word_29 (by decide) ?_
        exact e_i X hW h dX12_word_31
  · have h := h.2 c5
    refine lv_bipush (v := (-101)) hx hb dX12_word_8 (by decide) ?_
    exact e_i X hW h dX12_word_10
