def wX11_wrongWays_b50 (g : GS) (ko11 : Nat → Int32 → Int64 → Int64 → Int32 → MI → MJ → Prop) (Q : Int64 → MI → MJ → Prop) (v1 : Nat) (v2 : Int32) (v3 : Int64) (v7 : Int32) (t0 : Int64) (t1 : Int64) (I : MI) (J : MJ) : Prop :=
  ko11 v1 v2 v3 (t1 + t0) (v7 + 1) I J
set_option maxHeartbeats 4000000 in
set_option maxRecDepth 100000 in
theorem bX11_wrongWays_50 {p : Program} {l : Launch} {e : Env} {s : State} {m : MethodId} {args : Array Value} {below : List Frame} {meth : Method} {c : Code} {E : WE} {Q : Int64 → MI → MJ → Prop} {ko11 : Nat → Int32 → Int64 → Int64 → Int32 → MI → MJ → Prop} (X : Cx E cX11_wrongWays 10 RX11 ((Option.some FieldType.long)) p s m args c meth)
    (hk11 : ∀ (v1 : Nat) (v2 : Int32) (v3 : Int64) (v5 : Int64) (v7 : Int32) (I : MI) (J : MJ) (H : Heap) (locs : List Loc) (ls : Array Slot), v1 < (wg E).2.2 → ko11 v1 v2 v3 v5 v7 I J → Wd E I J s H locs → lv_has ls 10 [(0, .ref (wa E 0 0)), (1, .ref (wa E 43 v1)), (2, .int v2), (3, .long v3), (5, .long v5), (7, .int v7)] → W p l e (rmO 6 142) s m args below meth c H locs 0 0 (MQ below (QL E Q) args s 0 0 (AA E)) (F0 m 11 ls [])) : ∀ (v1 : Nat) (v2 : Int32) (v3 : Int64) (v7 : Int32) (t0 : Int64) (t1 : Int64) (I : MI) (J : MJ) (H : Heap) (locs : List Loc) (ls : Array Slot), v1 < (wg E).2.2 → wX11_wrongWays_b50 (wg E) ko11 Q v1 v2 v3 v7 t0 t1 I J → Wd E I J s H locs → lv_has ls 10 [(0, .ref (wa E 0 0)), (1, .ref (wa E 43 v1)), (2, .int v2), (3, .long v3), (7, .int v7)] → W p l e (rmO 6 142) s m args below meth c H locs 0 0 (MQ below (QL E Q) args s 0 0 (AA E)) (F0 m 50 ls [.long t0, .long t1]) := by
  have hx := X.1.1
  have hb := X.1.2.1
  intro v1 v2 v3 v7 t0 t1 I J H locs ls hp_v1 h hW hl
  refine lv_ladd hx hb dX11_wrongWays_50 ?_
  refine lv_lstore (lv' := [(5, .long (t1 + t0)), (0, .ref (wa E 0 0)), (1, .ref (wa E 43 v1)), (2, .int v2), (3, .long v3), (7, .int v7)]) hx hb dX11_wrongWays_51 hl (by decide) rfl (fun ls hl => ?_)
  refine lv_iinc (v := v7 + 1) (lv' := [(7, .int (v7 + 1)), (5, .long (t1 + t0)), (0, .ref (wa E 0 0)), (1, .ref (wa E 43 v1)), (2, .int v2), (3, .long v3)]) hx hb dX11_wrongWays_53 hl (k := 5) rfl rfl (by decide) rfl (fun ls hl => ?_)
  refine lv_goto (tgt := 11) hx hb dX11_wrongWays_56 (by decide) ?_
  exact hk11 v1 v2 v3 (t1 + t0) (v7 + 1) _ _ _ _ _ hp_v1 h hW (lv_sub hl [2, 3, 4, 5, 1, 0] rfl)
def wX11_wrongWays_b11 (g : GS) (Q : Int64 → MI → MJ → Prop) : Nat → Nat → Int32 → Int64 → Int64 → Int32 → MI → MJ → Prop
  | 0, _, _, _, _, _, _, _ => False
  | n + 1, v1, v2, v3, v5, v7, I, J => (((I 0 0 11) ≤ v7 → Q v5 I J) ∧ (¬ (I 0 0 11) ≤ v7 → wX11_inWays g v1 v7 v2 I J (fun r25 I25 J25 => wX11_isMinded g v7 I25 J25 (fun r35 I35 J35 => ((r35 = 0 → wX11_wrongWays_b50 g (fun v1 v2 v3 v5 v7 I J => wX11_wrongWays_b11 g Q n v1 v2 v3 v5 v7 I J) Q v1 v2 v3 v7 (v3 - r25) v5 I35 J35) ∧ (¬ r35 = 0 → wX11_wrongWays_b50 g (fun v1 v2 v3 v5 v7 I J => wX11_wrongWays_b11 g Q n v1 v2 v3 v5 v7 I J) Q v1 v2 v3 v7 r25 v5 I35 J35))))))
set_option maxHeartbeats 4000000 in
set_option maxRecDepth 100000 in
theorem bX11_wrongWays_11 {p : Program} {l : Launch} {e : Env} {s : State} {m : MethodId} {args : Array Value} {below : List Frame} {meth : Method} {c : Code} {E : WE} {Q : Int64 → MI → MJ → Prop} (X : Cx E cX11_wrongWays 10 RX11 ((Option.some FieldType.long)) p s m args c meth) (n : Nat) : ∀ (v1 : Nat) (v2 : Int32) (v3 : Int64) (v5 : Int64) (v7 : Int32) (I : MI) (J : MJ) (H : Heap) (locs : List Loc) (ls : Array Slot), v1 < (wg E).2.2 → wX11_wrongWays_b11 (wg E) Q n v1 v2 v3 v5 v7 I J → Wd E I J s H locs → lv_has ls 10 [(0, .ref (wa E 0 0)), (1, .ref (wa E 43 v1)), (2, .int v2), (3, .long v3), (5, .long v5), (7, .int v7)] → W p l e (rmO 6 142) s m args below meth c H locs 0 0 (MQ below (QL E Q) args s 0 0 (AA E)) (F0 m 11 ls []) := by
  have hx := X.1.1
  have hb := X.1.2.1
  induction n with
  | zero => intro v1 v2 v3 v5 v7 I J H locs ls hp_v1 h hW hl; exact h.elim
  | succ n ih =>
    intro v1 v2 v3 v5 v7 I J H locs ls hp_v1 h hW hl
    refine lv_iload hx hb dX11_wrongWays_11 (lv_at hl 5 rfl) ?_
    refine lv_aload_n hx hb dX11_wrongWays_13 rfl (lv_at hl 0 rfl) ?_
    refine r_get X hW 11 (okS hW sc0_0) rfl rfl inX11 (Nat.le_of_ble_eq_true rfl) tw143 rfl dX11_wrongWays_14 ?_
    refine lv_icmp_ge (tgt := 59) hx hb dX11_wrongWays_17 (by decide) (fun c17 => ?_) (fun c17 => ?_)
    · have h := h.1 c17
      refine lv_lload hx hb dX11_wrongWays_59 (lv_at hl 4 rfl) ?_
      exact e_l X hW h dX11_wrongWays_61
    · have h := h.2 c17
      refine lv_aload_n hx hb dX11_wrongWays_20 rfl (lv_at hl 0 rfl) ?_
      refine lv_aload_n hx hb dX11_wrongWays_21 rfl (lv_at hl 1 rfl) ?_
      refine lv_iload hx hb dX11_wrongWays_22 (lv_at hl 5 rfl) ?_
      refine lv_iload_n hx hb dX11_wrongWays_24 rfl (lv_at hl 2 rfl) ?_
      refine af_l hW (rn_V X hW (As := [.ref (wa E 43 v1), .int v7, .int v2]) (rest := []) (okS hW sc0_0) rfl rfl (kX11_inWays hp_v1 h) mbX11_inWays tw564 tw566 tp12 rfl hl.1 (Nat.le_of_ble_eq_true rfl) ⟨(Nat.le_of_ble_eq_true rfl), (Nat.le_of_ble_eq_true rfl)⟩ dX11_wrongWays_25) (fun r25 I25 J25 H locs h hW => ?_)
      refine lv_lstore (lv' := [(8, .long r25), (0, .ref (wa E 0 0)), (1, .ref (wa E 43 v1)), (2, .int v2), (3, .long v3), (5, .long v5), (7, .int v7)]) hx hb dX11_wrongWays_28 hl (by decide) rfl (fun ls hl => ?_)
      refine lv_lload hx hb dX11_wrongWays_30 (lv_at hl 5 rfl) ?_
      refine lv_aload_n hx hb dX11_wrongWays_32 rfl (lv_at hl 1 rfl) ?_
      refine lv_iload hx hb dX11_wrongWays_33 (lv_at hl 6 rfl) ?_
      refine af_i hW (rn_V X hW (As := [.int v7]) (rest := [.long v5]) (okS hW sc0_0) rfl rfl (kX11_isMinded h) mbX11_isMinded tw447 tw449 tp6 rfl hl.1 (Nat.le_of_ble_eq_true rfl) ⟨(Nat.le_of_ble_eq_true rfl), (Nat.le_of_ble_eq_true rfl)⟩ dX11_wrongWays_35) (fun r35 I35 J35 H locs h hW => ?_)
      refine lv_if_eq (tgt := 46) hx hb dX11_wrongWays_38 (by decide) (fun c38 => ?_) (fun c38 => ?_)
      · have h := h.1 c38
        refine lv_lload_n hx hb dX11_wrongWays_46 rfl (lv_at hl 4 rfl) ?_
        refine lv_lload hx hb dX11_wrongWays_47 (lv_at hl 0 rfl) ?_
        refine lv_lsub hx hb dX11_wrongWays_49 ?_
        exact bX11_wrongWays_50 X ih v1 v2 v3 v7 (v3 - r25) v5 _ _ _ _ _ hp_v1 h hW (lv_sub hl [1, 2, 3, 4, 6] rfl)
      · have h := h.2 c38
        refine lv_lload hx hb dX11_wrongWays_41 (lv_at hl 0 rfl) ?_
        refine lv_goto (tgt := 50) hx hb dX11_wrongWays_43 (by decide) ?_
        exact bX11_wrongWays_50 X ih v1 v2 v3 v7 r25 v5 _ _ _ _ _ hp_v1 h hW (lv_sub hl [1, 2, 3, 4, 6] rfl)
def wX11_wrongWays (g : GS) (a1 : Nat) (a2 : Int32) (I : MI) (J : MJ) (Q : Int64 → MI → MJ → Prop) : Prop :=
  wX11_squaredTens g a2 I J (fun r1 I1 J1 => ∃ n11, wX11_wrongWays_b11 g Q n11 a1 a2 r1 0 0 I1 J1)
theorem mbX11_wrongWays : MB yX11_wrongWays cX11_wrongWays 10 ((Option.some FieldType.long)) 2 := ⟨tw625, tw1, ⟨by decide, by decide⟩, by decide +kernel, by decide +kernel⟩
set_option maxHeartbeats 4000000 in
set_option maxRecDepth 100000 in
theorem kX11_wrongWays {l : Launch} {E : WE} {a1 : Nat} {a2 : Int32} {I : MI} {J : MJ} {Q : Int64 → MI → MJ → Prop} (hp_a1 : a1 < (wg E).2.2) (h : wX11_wrongWays (wg E) a1 a2 I J Q) : Met l yX11_wrongWays (wsM yX11_wrongWays cX11_wrongWays 10 ((Option.some FieldType.long))) (rmO 6 142) (va_Pc [.ref (wa E 0 0), .ref (wa E 43 a1), .int a2] (Wp E I J)) (QL E Q) 0 0 (AA E) := by
  refine m_entry mbX11_wrongWays (Nat.le_of_ble_eq_true rfl) ?_
  intro p e s m args below meth c X ls hW hl
  have X : Cx E cX11_wrongWays 10 RX11 ((Option.some FieldType.long)) p s m args c meth := X
  have hx := X.1.1
  have hb := X.1.2.1
  have hl : lv_has ls 10 [(0, .ref (wa E 0 0)), (1, .ref (wa E 43 a1)), (2, .int a2)] := hl
  refine lv_iload_n hx hb dX11_wrongWays_0 rfl (lv_at hl 2 rfl) ?_
  refine af_l hW (rn_S X hW (As := [.int a2]) (rest := []) (kX11_squaredTens h) mbX11_squaredTens tw576 tw577 rfl hl.1 (Nat.le_of_ble_eq_true rfl) ⟨(Nat.le_of_ble_eq_true rfl), (Nat.le_of_ble_eq_true rfl)⟩ dX11_wrongWays_1) (fun r1 I1 J1 H locs h hW => ?_)
  refine lv_lstore_n (lv' := [(3, .long r1), (0, .ref (wa E 0 0)), (1, .ref (wa E 43 a1)), (2, .int a2)]) hx hb dX11_wrongWays_4 rfl hl (by decide) rfl (fun ls hl => ?_)
  refine lv_lconst (v := 0) hx hb dX11_wrongWays_5 (by decide) ?_
  refine lv_lstore (lv' := [(5, .long 0), (3, .long r1), (0, .ref (wa E 0 0)), (1, .ref (wa E 43 a1)), (2, .int a2)]) hx hb dX11_wrongWays_6 hl (by decide) rfl (fun ls hl => ?_)
  refine lv_iconst (v := 0) hx hb dX11_wrongWays_8 (by decide) ?_
  refine lv_istore (lv' := [(7, .int 0), (5, .long 0), (3, .long r1), (0, .ref (wa E 0 0)), (1, .ref (wa E 43 a1)), (2, .int a2)]) hx hb dX11_wrongWays_9 hl (by decide) rfl (fun ls hl => ?_)
  obtain ⟨n11, h⟩ := h
  exact bX11_wrongWays_11 X n11 a1 a2 r1 0 0 _ _ _ _ _ hp_a1 h hW (lv_sub hl [3, 4, 5, 2, 1, 0] rfl)
def wX11_wrong (g : GS) (a1 : Int32) (a2 : Int32) (I : MI) (J : MJ) (Q : Int64 → MI → MJ → Prop) : Prop :=
  wX11_ruleAt g a1 I J (fun o2 I2 J2 => (o2 = none → Q ((-101)) I2 J2) ∧ (∀ r2, o2 = some r2 → wX11_areComers g a2 I2 J2 (fun r16 I16 J16 => ((¬ r16 = 0 → wX11_wrongWays g r2 a2 I16 J16 (fun r29 I29 J29 => Q r29 I29 J29)) ∧ (r16 = 0 → Q ((-102)) I16 J16)))))
theorem mbX11_wrong : MB yX11_wrong cX11_wrong 4 ((Option.some FieldType.long)) 2 := ⟨tw621, tw1, ⟨by decide, by decide⟩, by decide +kernel, by decide +kernel⟩
set_option maxHeartbeats 4000000 in
set_option maxRecDepth 100000 in
theorem kX11_wrong {l : Launch} {E : WE} {a1 : Int32} {a2 : Int32} {I : MI} {J : MJ} {Q : Int64 → MI → MJ → Prop} (h : wX11_wrong (wg E) a1 a2 I J Q) : Met l yX11_wrong (wsM yX11_wrong cX11_wrong 4 ((Option.some FieldType.long))) (rmO 7 171) (va_Pc [.ref (wa E 0 0), .int a1, .int a2] (Wp E I J)) (QL E Q) 0 0 (AA E) := by
  refine m_entry mbX11_wrong (Nat.le_of_ble_eq_true rfl) ?_
  intro p e s m args below meth c X ls hW hl
  have X : Cx E cX11_wrong 4 RX11 ((Option.some FieldType.long)) p s m args c meth := X
  have hx := X.1.1
  have hb := X.1.2.1
  have hl : lv_has ls 4 [(0, .ref (wa E 0 0)), (1, .int a1), (2, .int a2)] := hl
  refine lv_aload_n hx hb dX11_wrong_0 rfl (lv_at hl 0 rfl) ?_
  refine lv_iload_n hx hb dX11_wrong_1 rfl (lv_at hl 1 rfl) ?_
  refine af_r hW (rn_V X hW (As := [.int a1]) (rest := []) (okS hW sc0_0) rfl rfl (kX11_ruleAt h) mbX11_ruleAt tw258 tw260 tp1 rfl hl.1 (Nat.le_of_ble_eq_true rfl) ⟨(Nat.le_of_ble_eq_true rfl), (Nat.le_of_ble_eq_true rfl)⟩ dX11_wrong_2) (fun I2 J2 H locs h hW => ?_) (fun r2 I2 J2 H locs c2 h hW => ?_)
  · have h := h.1 rfl
    refine lv_astore_nN (lv' := [(3, .null), (0, .ref (wa E 0 0)), (1, .int a1), (2, .int a2)]) hx hb dX11_wrong_5 rfl hl (by decide) rfl (fun ls hl => ?_)
    refine lv_aload_nN hx hb dX11_wrong_6 rfl (lv_at hl 0 rfl) ?_
    refine lv_ifnonnullN hx hb dX11_wrong_7 ?_
    refine lv_ldc2 hx hb X.1.2.2.2.1 (X.1.2.2.2.2 _ tw562) dX11_wrong_10 ?_
    exact e_l X hW h dX11_wrong_13
  · have h := h.2 r2 rfl
    refine lv_astore_n (lv' := [(3, .ref (wa E 43 r2)), (0, .ref (wa E 0 0)), (1, .int a1), (2, .int a2)]) hx hb dX11_wrong_5 rfl hl (by decide) rfl (fun ls hl => ?_)
    refine lv_aload_n hx hb dX11_wrong_6 rfl (lv_at hl 0 rfl) ?_
    refine lv_ifnonnull (tgt := 14) hx hb dX11_wrong_7 (by decide) ?_
    refine lv_aload_n hx hb dX11_wrong_14 rfl (lv_at hl 1 rfl) ?_
    refine lv_iload_n hx hb dX11_wrong_15 rfl (lv_at hl 3 rfl) ?_
    refine af_i hW (rn_V X hW (As := [.int a2]) (rest := []) (okS hW sc0_0) rfl rfl (kX11_areComers h) mbX11_areComers tw469 tw471 tp8 rfl hl.1 (Nat.le_of_ble_eq_true rfl) ⟨(Nat.le_of_ble_eq_true rfl), (Nat.le_of_ble_eq_true rfl)⟩ dX11_wrong_16) (fun r16 I16 J16 H locs h hW => ?_)
    refine lv_if_ne (tgt := 26) hx hb dX11_wrong_19 (by decide) (fun c19 => ?_) (fun c19 => ?_)
    · have h := h.1 c19
      refine lv_aload_n hx hb dX11_wrong_26 rfl (lv_at hl 1 rfl) ?_
      refine lv_aload_n hx hb dX11_wrong_27 rfl (lv_at hl 0 rfl) ?_
      refine lv_iload_n hx hb dX11_wrong_28 rfl (lv_at hl 3 rfl) ?_
      refine af_l hW (rn_V X hW (As := [.ref (wa E 43 r2), .int a2]) (rest := []) (okS hW sc0_0) rfl rfl (kX11_wrongWays c2 h) mbX11_wrongWays tw622 tw624 tp14 rfl hl.1 (Nat.le_of_ble_eq_true rfl) ⟨(Nat.le_of_ble_eq_true rfl), (Nat.le_of_ble_eq_true rfl)⟩ dX11_wrong_29) (fun r29 I29 J29 H locs h hW => ?_)
      exact e_l X hW h dX11_wrong_32
    · have h := h.2 c19
      refine lv_ldc2 hx hb X.1.2.2.2.1 (X.1.2.2.2.2 _ tw563) dX11_wrong_22 ?_
      exact e_l X hW h dX11_wrong_25
def wX11_best_b59 (g : GS) (ko18 : Int32 → Int32 → Int64 → Int32 → MI → MJ → Prop) (Q : Int32 → MI → MJ → Prop) (v1 : Int32) (v2 : Int32) (v3 : Int64) (v5 : Int32) (I : MI) (J : MJ) : Prop :=
  ko18 v1 v2 v3 (v5 + 1) I J
set_option maxHeartbeats 4000000 in
set_option maxRecDepth 100000 in
theorem bX11_best_59 {p : Program} {l : Launch} {e : Env} {s : State} {m : MethodId} {args : Array Value} {below : List Frame} {meth : Method} {c : Code} {E : WE} {Q : Int32 → MI → MJ → Prop} {ko18 : Int32 → Int32 → Int64 → Int32 → MI → MJ → Prop} (X : Cx E cX11_best 8 RX11 ((Option.some FieldType.int)) p s m args c meth)
    (hk18 : ∀ (v1 : Int32) (v2 : Int32) (v3 : Int64) (v5 : Int32) (I : MI) (J : MJ) (H : Heap) (locs : List Loc) (ls : Array Slot), ko18 v1 v2 v3 v5 I J → Wd E I J s H locs → lv_has ls 8 [(0, .ref (wa E 0 0)), (1, .int v1), (2, .int v2), (3, .long v3), (5, .int v5)] → W p l e (rmO 7 171) s m args below meth c H locs 0 0 (MQ below (QI E Q) args s 0 0 (AA E)) (F0 m 18 ls [])) : ∀ (v1 : Int32) (v2 : Int32) (v3 : Int64) (v5 : Int32) (I : MI) (J : MJ) (H : Heap) (locs : List Loc) (ls : Array Slot), wX11_best_b59 (wg E) ko18 Q v1 v2 v3 v5 I J → Wd E I J s H locs → lv_has ls 8 [(0, .ref (wa E 0 0)), (1, .int v1), (2, .int v2), (3, .long v3), (5, .int v5)] → W p l e (rmO 7 171) s m args below meth c H locs 0 0 (MQ below (QI E Q) args s 0 0 (AA E)) (F0 m 59 ls []) := by
  have hx := X.1.1
  have hb := X.1.2.1
  intro v1 v2 v3 v5 I J H locs ls h hW hl
  refine lv_iinc (v := v5 + 1) (lv' := [(5, .int (v5 + 1)), (0, .ref (wa E 0 0)), (1, .int v1), (2, .int v2), (3, .long v3)]) hx hb dX11_best_59 hl (k := 4) rfl rfl (by decide) rfl (fun ls hl => ?_)
  refine lv_goto (tgt := 18) hx hb dX11_best_62 (by decide) ?_
  exact hk18 v1 v2 v3 (v5 + 1) _ _ _ _ _  h hW (lv_sub hl [1, 2, 3, 4, 0] rfl)
def wX11_best_b53 (g : GS) (ko18 : Int32 → Int32 → Int64 → Int32 → MI → MJ → Prop) (Q : Int32 → MI → MJ → Prop) (v1 : Int32) (v5 : Int32) (v6 : Int64) (I : MI) (J : MJ) : Prop :=
  wX11_best_b59 g ko18 Q v1 v5 v6 v5 I J
set_option maxHeartbeats 4000000 in
set_option maxRecDepth 100000 in
theorem bX11_best_53 {p : Program} {l : Launch} {e : Env} {s : State} {m : MethodId} {args : Array Value} {below : List Frame} {meth : Method} {c : Code} {E : WE} {Q : Int32 → MI → MJ → Prop} {ko18 : Int32 → Int32 → Int64 → Int32 → MI → MJ → Prop} (X : Cx E cX11_best 8 RX11 ((Option.some FieldType.int)) p s m args c meth)
    (hk18 : ∀ (v1 : Int32) (v2 : Int32) (v3 : Int64) (v5 : Int32) (I : MI) (J : MJ) (H : Heap) (locs : List Loc) (ls : Array Slot), ko18 v1 v2 v3 v5 I J → Wd E I J s H locs → lv_has ls 8 [(0, .ref (wa E 0 0)), (1, .int v1), (2, .int v2), (3, .long v3), (5, .int v5)] → W p l e (rmO 7 171) s m args below meth c H locs 0 0 (MQ below (QI E Q) args s 0 0 (AA E)) (F0 m 18 ls [])) : ∀ (v1 : Int32) (v5 : Int32) (v6 : Int64) (I : MI) (J : MJ) (H : Heap) (locs : List Loc) (ls : Array Slot), wX11_best_b53 (wg E) ko18 Q v1 v5 v6 I J → Wd E I J s H locs → lv_has ls 8 [(0, .ref (wa E 0 0)), (1, .int v1), (5, .int v5), (6, .long v6)] → W p l e (rmO 7 171) s m args below meth c H locs 0 0 (MQ below (QI E Q) args s 0 0 (AA E)) (F0 m 53 ls []) := by
  have hx := X.1.1
  have hb := X.1.2.1
  intro v1 v5 v6 I J H locs ls h hW hl
  refine lv_iload hx hb dX11_best_53 (lv_at hl 2 rfl) ?_
  refine lv_istore_n (lv' := [(2, .int v5), (0, .ref (wa E 0 0)), (1, .int v1), (5, .int v5), (6, .long v6)]) hx hb dX11_best_55 rfl hl (by decide) rfl (fun ls hl => ?_)
  refine lv_lload hx hb dX11_best_56 (lv_at hl 4 rfl) ?_
  refine lv_lstore_n (lv' := [(3, .long v6), (2, .int v5), (0, .ref (wa E 0 0)), (1, .int v1), (5, .int v5), (6, .long v6)]) hx hb dX11_best_58 rfl hl (by decide) rfl (fun ls hl => ?_)
  exact bX11_best_59 X hk18 v1 v5 v6 v5 _ _ _ _ _  h hW (lv_sub hl [2, 3, 1, 0, 4] rfl)
def wX11_best_b18 (g : GS) (Q : Int32 → MI → MJ → Prop) : Nat → Int32 → Int32 → Int64 → Int32 → MI → MJ → Prop
  | 0, _, _, _, _, _, _ => False
  | n + 1, v1, v2, v3, v5, I, J => (((I 0 0 9) ≤ v5 → Q v2 I J) ∧ (¬ (I 0 0 9) ≤ v5 → vp_in v5 6 ∧ ((¬ (Int32.toNatClampNeg v5) < g.2.2 → False) ∧ ((Int32.toNatClampNeg v5) < g.2.2 → wX11_wrongWays g ((Int32.toNatClampNeg v5)) v1 I J (fun r36 I36 J36 => ((v2 = ((-1)) → wX11_best_b53 g (fun v1 v2 v3 v5 I J => wX11_best_b18 g Q n v1 v2 v3 v5 I J) Q v1 v5 r36 I36 J36) ∧ (¬ v2 = ((-1)) → ((0 ≤ (lg_cmp r36 v3) → wX11_best_b59 g (fun v1 v2 v3 v5 I J => wX11_best_b18 g Q n v1 v2 v3 v5 I J) Q v1 v2 v3 v5 I36 J36) ∧ (¬ 0 ≤ (lg_cmp r36 v3) → wX11_best_b53 g (fun v1 v2 v3 v5 I J => wX11_best_b18 g Q n v1 v2 v3 v5 I J) Q v1 v5 r36 I36 J36)))))))))
set_option maxHeartbeats 4000000 in
set_option maxRecDepth 100000 in
theorem bX11_best_18 {p : Program} {l : Launch} {e : Env} {s : State} {m : MethodId} {args : Array Value} {below : List Frame} {meth : Method} {c : Code} {E : WE} {Q : Int32 → MI → MJ → Prop} (X : Cx E cX11_best 8 RX11 ((Option.some FieldType.int)) p s m args c meth) (n : Nat) : ∀ (v1 : Int32) (v2 : Int32) (v3 : Int64) (v5 : Int32) (I : MI) (J : MJ) (H : Heap) (locs : List Loc) (ls : Array Slot), wX11_best_b18 (wg E) Q n v1 v2 v3 v5 I J → Wd E I J s H locs → lv_has ls 8 [(0, .ref (wa E 0 0)), (1, .int v1), (2, .int v2), (3, .long v3), (5, .int v5)] → W p l e (rmO 7 171) s m args below meth c H locs 0 0 (MQ below (QI E Q) args s 0 0 (AA E)) (F0 m 18 ls []) := by
  have hx := X.1.1
  have hb := X.1.2.1
  induction n with
  | zero => intro v1 v2 v3 v5 I J H locs ls h hW hl; exact h.elim
  | succ n ih =>
    intro v1 v2 v3 v5 I J H locs ls h hW hl
    refine lv_iload hx hb dX11_best_18 (lv_at hl 4 rfl) ?_
    refine lv_aload_n hx hb dX11_best_20 rfl (lv_at hl 0 rfl) ?_
    refine r_get X hW 9 (okS hW sc0_0) rfl rfl inX11 (Nat.le_of_ble_eq_true rfl) tw141 rfl dX11_best_21 ?_
    refine lv_icmp_ge (tgt := 65) hx hb dX11_best_24 (by decide) (fun c24 => ?_) (fun c24 => ?_)
    · have h := h.1 c24
      refine lv_iload_n hx hb dX11_best_65 rfl (lv_at hl 2 rfl) ?_
      exact e_i X hW h dX11_best_66
    · have h := h.2 c24
      refine lv_aload_n hx hb dX11_best_27 rfl (lv_at hl 0 rfl) ?_
      refine lv_aload_n hx hb dX11_best_28 rfl (lv_at hl 0 rfl) ?_
      refine r_get X hW 1 (okS hW sc0_0) rfl rfl inX11 (Nat.le_of_ble_eq_true rfl) tw133 rfl dX11_best_29 ?_
      refine lv_iload hx hb dX11_best_32 (lv_at hl 4 rfl) ?_
      refine r_aaR X hW h.1 dX11_best_34 (fun c34 => ?_) (fun c34 => ?_)
      · have h := h.2.1 c34
        refine lv_iload_n hx hb dX11_best_35 rfl (lv_at hl 1 rfl) ?_
        exact h.elim
      · have h := h.2.2 c34
        refine lv_iload_n hx hb dX11_best_35 rfl (lv_at hl 1 rfl) ?_
        refine af_l hW (rn_V X hW (As := [.ref (wa E 43 (Int32.toNatClampNeg v5)), .int v1]) (rest := []) (okS hW sc0_0) rfl rfl (kX11_wrongWays c34 h) mbX11_wrongWays tw622 tw624 tp14 rfl hl.1 (Nat.le_of_ble_eq_true rfl) ⟨(Nat.le_of_ble_eq_true rfl), (Nat.le_of_ble_eq_true rfl)⟩ dX11_best_36) (fun r36 I36 J36 H locs h hW => ?_)
        refine lv_lstore (lv' := [(6, .long r36), (0, .ref (wa E 0 0)), (1, .int v1), (2, .int v2), (3, .long v3), (5, .int v5)]) hx hb dX11_best_39 hl (by decide) rfl (fun ls hl => ?_)
        refine lv_iload_n hx hb dX11_best_41 rfl (lv_at hl 3 rfl) ?_
        refine lv_iconst (v := (-1)) hx hb dX11_best_42 (by decide) ?_
        refine lv_icmp_eq (tgt := 53) hx hb dX11_best_43 (by decide) (fun c43 => ?_) (fun c43 => ?_)
        · have h := h.1 c43
          exact bX11_best_53 X ih v1 v5 r36 _ _ _ _ _  h hW (lv_sub hl [1, 2, 5, 0] rfl)
        · have h := h.2 c43
          refine lv_lload hx hb dX11_best_46 (lv_at hl 0 rfl) ?_
          refine lv_lload_n hx hb dX11_best_48 rfl (lv_at hl 4 rfl) ?_
          refine W.lcmp hx hb dX11_best_49 ?_
          refine lv_if_ge (tgt := 59) hx hb dX11_best_50 (by decide) (fun c50 => ?_) (fun c50 => ?_)
          · have h := h.1 c50
            exact bX11_best_59 X ih v1 v2 v3 v5 _ _ _ _ _  h hW (lv_sub hl [1, 2, 3, 4, 5] rfl)
          · have h := h.2 c50
            exact bX11_best_53 X ih v1 v5 r36 _ _ _ _ _  h hW (lv_sub hl [1, 2, 5, 0] rfl)
def wX11_best (g : GS) (a1 : Int32) (I : MI) (J : MJ) (Q : Int32 → MI → MJ → Prop) : Prop :=
  wX11_areComers g a1 I J (fun r2 I2 J2 => ((¬ r2 = 0 → ∃ n18, wX11_best_b18 g Q n18 a1 ((-1)) 0 0 I2 J2) ∧ (r2 = 0 → Q ((-102)) I2 J2)))
theorem mbX11_best : MB yX11_best cX11_best 8 ((Option.some FieldType.int)) 1 := ⟨tw629, tw1, ⟨by decide, by decide⟩, by decide +kernel, by decide +kernel⟩
set_option maxHeartbeats 4000000 in
set_option maxRecDepth 100000 in
theorem kX11_best {l : Launch} {E : WE} {a1 : Int32} {I : MI} {J : MJ} {Q : Int32 → MI → MJ → Prop} (h : wX11_best (wg E) a1 I J Q) : Met l yX11_best (wsM yX11_best cX11_best 8 ((Option.some FieldType.int))) (rmO 7 171) (va_Pc [.ref (wa E 0 0), .int a1] (Wp E I J)) (QI E Q) 0 0 (AA E) := by
  refine m_entry mbX11_best (Nat.le_of_ble_eq_true rfl) ?_
  intro p e s m args below meth c X ls hW hl
  have X : Cx E cX11_best 8 RX11 ((Option.some FieldType.int)) p s m args c meth := X
  have hx := X.1.1
  have hb := X.1.2.1
  have hl : lv_has ls 8 [(0, .ref (wa E 0 0)), (1, .int a1)] := hl
  refine lv_aload_n hx hb dX11_best_0 rfl (lv_at hl 0 rfl) ?_
  refine lv_iload_n hx hb dX11_best_1 rfl (lv_at hl 1 rfl) ?_
  refine af_i hW (rn_V X hW (As := [.int a1]) (rest := []) (okS hW sc0_0) rfl rfl (kX11_areComers h) mbX11_areComers tw469 tw471 tp8 rfl hl.1 (Nat.le_of_ble_eq_true rfl) ⟨(Nat.le_of_ble_eq_true rfl), (Nat.le_of_ble_eq_true rfl)⟩ dX11_best_2) (fun r2 I2 J2 H locs h hW => ?_)
  refine lv_if_ne (tgt := 11) hx hb dX11_best_5 (by decide) (fun c5 => ?_) (fun c5 => ?_)
  · have h := h.1 c5
    refine lv_iconst (v := (-1)) hx hb dX11_best_11 (by decide) ?_
    refine lv_istore_n (lv' := [(2, .int ((-1))), (0, .ref (wa E 0 0)), (1, .int a1)]) hx hb dX11_best_12 rfl hl (by decide) rfl (fun ls hl => ?_)
    refine lv_lconst (v := 0) hx hb dX11_best_13 (by decide) ?_
    refine lv_lstore_n (lv' := [(3, .long 0), (2, .int ((-1))), (0, .ref (wa E 0 0)), (1, .int a1)]) hx hb dX11_best_14 rfl hl (by decide) rfl (fun ls hl => ?_)
    refine lv_iconst (v := 0) hx hb dX11_best_15 (by decide) ?_
    refine lv_istore (lv' := [(5, .int 0), (3, .long 0), (2, .int ((-1))), (0, .ref (wa E 0 0)), (1, .int a1)]) hx hb dX11_best_16 hl (by decide) rfl (fun ls hl => ?_)
    obtain ⟨n18, h⟩ := h
    exact bX11_best_18 X n18 a1 ((-1)) 0 0 _ _ _ _ _  h hW (lv_sub hl [3, 4, 2, 1, 0] rfl)
  · have h := h.2 c5
    refine lv_bipush (v := (-102)) hx hb dX11_best_8 (by decide) ?_
    exact e_i X hW h dX11_best_10
def wX11_who_b200 (g : GS) (ko124 : Int32 → Int32 → Nat → Int32 → Int32 → Int64 → Int64 → Int32 → MI → MJ → Prop) (Q : Int32 → MI → MJ → Prop) (v5 : Int32) (v6 : Int32) (v7 : Nat) (v10 : Int32) (v11 : Int32) (v12 : Int64) (v14 : Int64) (v16 : Int32) (I : MI) (J : MJ) : Prop :=
  ko124 v5 v6 v7 v10 v11 v12 v14 (v16 + 1) I J
set_option maxHeartbeats 4000000 in
set_option maxRecDepth 100000 in
theorem bX11_who_200 {p : Program} {l : Launch} {e : Env} {s : State} {m : MethodId} {args : Array Value} {below : List Frame} {meth : Method} {c : Code} {E : WE} {Q : Int32 → MI → MJ → Prop} {ko124 : Int32 → Int32 → Nat → Int32 → Int32 → Int64 → Int64 → Int32 → MI → MJ → Prop} (X : Cx E cX11_who 17 RX11 ((Option.some FieldType.int)) p s m args c meth)
    (hk124 : ∀ (v5 : Int32) (v6 : Int32) (v7 : Nat) (v10 : Int32) (v11 : Int32) (v12 : Int64) (v14 : Int64) (v16 : Int32) (I : MI) (J : MJ) (H : Heap) (locs : List Loc) (ls : Array Slot), v7 < (wg E).2.2 → ko124 v5 v6 v7 v10 v11 v12 v14 v16 I J → Wd E I J s H locs → lv_has ls 17 [(0, .ref (wa E 0 0)), (5, .int v5), (6, .int v6), (7, .ref (wa E 43 v7)), (10, .int v10), (11, .int v11), (12, .long v12), (14, .long v14), (16, .int v16)] → W p l e (rmO 5 113) s m args below meth c H locs 0 0 (MQ below (QI E Q) args s 0 0 (AA E)) (F0 m 124 ls [])) : ∀ (v5 : Int32) (v6 : Int32) (v7 : Nat) (v10 : Int32) (v11 : Int32) (v12 : Int64) (v14 : Int64) (v16 : Int32) (I : MI) (J : MJ) (H : Heap) (locs : List Loc) (ls : Array Slot), v7 < (wg E).2.2 → wX11_who_b200 (wg E) ko124 Q v5 v6 v7 v10 v11 v12 v14 v16 I J → Wd E I J s H locs → lv_has ls 17 [(0, .ref (wa E 0 0)), (5, .int v5), (6, .int v6), (7, .ref (wa E 43 v7)), (10, .int v10), (11, .int v11), (12, .long v12), (14, .long v14), (16, .int v16)] → W p l e (rmO 5 113) s m args below meth c H locs 0 0 (MQ below (QI E Q) args s 0 0 (AA E)) (F0 m 200 ls []) := by
  have hx := X.1.1
  have hb := X.1.2.1
  intro v5 v6 v7 v10 v11 v12 v14 v16 I J H locs ls hp_v7 h hW hl
  refine lv_iinc (v := v16 + 1) (lv' := [(16, .int (v16 + 1)), (0, .ref (wa E 0 0)), (5, .int v5), (6, .int v6), (7, .ref (wa E 43 v7)), (10, .int v10), (11, .int v11), (12, .long v12), (14, .long v14)]) hx hb dX11_who_200 hl (k := 8) rfl rfl (by decide) rfl (fun ls hl => ?_)
  refine lv_goto (tgt := 124) hx hb dX11_who_203 (by decide) ?_
  exact hk124 v5 v6 v7 v10 v11 v12 v14 (v16 + 1) _ _ _ _ _ hp_v7 h hW (lv_sub hl [1, 2, 3, 4, 5, 6, 7, 8, 0] rfl)
def wX11_who_b159 (g : GS) (ko124 : Int32 → Int32 → Nat → Int32 → Int32 → Int64 → Int64 → Int32 → MI → MJ → Prop) (Q : Int32 → MI → MJ → Prop) (v5 : Int32) (v6 : Int32) (v7 : Nat) (v10 : Int32) (v11 : Int32) (v12 : Int64) (v14 : Int64) (v16 : Int32) (I : MI) (J : MJ) : Prop :=
  wX7_waysTo g (v16 - 1) I J (fun r172 I172 J172 => wX7_waysTo g v16 I172 J172 (fun r193 I193 J193 => wX11_who_b200 g ko124 Q v5 v6 v7 v10 v11 (v12 + ((Int32.toInt64 v10) * r172)) (v14 + ((Int32.toInt64 (10 - v10)) * r193)) v16 I193 J193))
set_option maxHeartbeats 4000000 in
set_option maxRecDepth 100000 in
theorem bX11_who_159 {p : Program} {l : Launch} {e : Env} {s : State} {m : MethodId} {args : Array Value} {below : List Frame} {meth : Method} {c : Code} {E : WE} {Q : Int32 → MI → MJ → Prop} {ko124 : Int32 → Int32 → Nat → Int32 → Int32 → Int64 → Int64 → Int32 → MI → MJ → Prop} (X : Cx E cX11_who 17 RX11 ((Option.some FieldType.int)) p s m args c meth)
    (hk124 : ∀ (v5 : Int32) (v6 : Int32) (v7 : Nat) (v10 : Int32) (v11 : Int32) (v12 : Int64) (v14 : Int64) (v16 : Int32) (I : MI) (J : MJ) (H : Heap) (locs : List Loc) (ls : Array Slot), v7 < (wg E).2.2 → ko124 v5 v6 v7 v10 v11 v12 v14 v16 I J → Wd E I J s H locs → lv_has ls 17 [(0, .ref (wa E 0 0)), (5, .int v5), (6, .int v6), (7, .ref (wa E 43 v7)), (10, .int v10), (11, .int v11), (12, .long v12), (14, .long v14), (16, .int v16)] → W p l e (rmO 5 113) s m args below meth c H locs 0 0 (MQ below (QI E Q) args s 0 0 (AA E)) (F0 m 124 ls [])) : ∀ (v5 : Int32) (v6 : Int32) (v7 : Nat) (v10 : Int32) (v11 : Int32) (v12 : Int64) (v14 : Int64) (v16 : Int32) (I : MI) (J : MJ) (H : Heap) (locs : List Loc) (ls : Array Slot), v7 < (wg E).2.2 → wX11_who_b159 (wg E) ko124 Q v5 v6 v7 v10 v11 v12 v14 v16 I J → Wd E I J s H locs → lv_has ls 17 [(0, .ref (wa E 0 0)), (5, .int v5), (6, .int v6), (7, .ref (wa E 43 v7)), (10, .int v10), (11, .int v11), (12, .long v12), (14, .long v14), (16, .int v16)] → W p l e (rmO 5 113) s m args below meth c H locs 0 0 (MQ below (QI E Q) args s 0 0 (AA E)) (F0 m 159 ls []) := by
  have hx := X.1.1
  have hb := X.1.2.1
  intro v5 v6 v7 v10 v11 v12 v14 v16 I J H locs ls hp_v7 h hW hl
  refine lv_lload hx hb dX11_who_159 (lv_at hl 6 rfl) ?_
  refine lv_iload hx hb dX11_who_161 (lv_at hl 4 rfl) ?_
  refine lv_i2l hx hb dX11_who_163 rfl ?_
  refine lv_aload_n hx hb dX11_who_164 rfl (lv_at hl 0 rfl) ?_
  refine r_get X hW 4 (okS hW sc0_0) rfl rfl inX11 (Nat.le_of_ble_eq_true rfl) tw136 rfl dX11_who_165 ?_
  refine lv_iload hx hb dX11_who_168 (lv_at hl 8 rfl) ?_
  refine lv_iconst (v := 1) hx hb dX11_who_170 (by decide) ?_
  refine lv_isub hx hb dX11_who_171 ?_
  refine af_l hW (rn_V X hW (As := [.int (v16 - 1)]) (rest := [.long (Int32.toInt64 v10), .long v12]) (okS hW sc6_0) rfl rfl (kX7_waysTo h) mbX7_waysTo tw543 tw544 tw545 rfl hl.1 (Nat.le_of_ble_eq_true rfl) ⟨(Nat.le_of_ble_eq_true rfl), (Nat.le_of_ble_eq_true rfl)⟩ dX11_who_172) (fun r172 I172 J172 H locs h hW => ?_)
  refine lv_lmul hx hb dX11_who_175 ?_
  refine lv_ladd hx hb dX11_who_176 ?_
  refine lv_lstore (lv' := [(12, .long (v12 + ((Int32.toInt64 v10) * r172))), (0, .ref (wa E 0 0)), (5, .int v5), (6, .int v6), (7, .ref (wa E 43 v7)), (10, .int v10), (11, .int v11), (14, .long v14), (16, .int v16)]) hx hb dX11_who_177 hl (by decide) rfl (fun ls hl => ?_)
  refine lv_lload hx hb dX11_who_179 (lv_at hl 7 rfl) ?_
  refine lv_bipush (v := 10) hx hb dX11_who_181 (by decide) ?_
  refine lv_iload hx hb dX11_who_183 (lv_at hl 5 rfl) ?_
  refine lv_isub hx hb dX11_who_185 ?_
  refine lv_i2l hx hb dX11_who_186 rfl ?_
  refine lv_aload_n hx hb dX11_who_187 rfl (lv_at hl 1 rfl) ?_
  refine r_get X hW 4 (okS hW sc0_0) rfl rfl inX11 (Nat.le_of_ble_eq_true rfl) tw136 rfl dX11_who_188 ?_
  refine lv_iload hx hb dX11_who_191 (lv_at hl 8 rfl) ?_
  refine af_l hW (rn_V X hW (As := [.int v16]) (rest := [.long (Int32.toInt64 (10 - v10)), .long v14]) (okS hW sc6_0) rfl rfl (kX7_waysTo h) mbX7_waysTo tw543 tw544 tw545 rfl hl.1 (Nat.le_of_ble_eq_true rfl) ⟨(Nat.le_of_ble_eq_true rfl), (Nat.le_of_ble_eq_true rfl)⟩ dX11_who_193) (fun r193 I193 J193 H locs h hW => ?_)
  refine lv_lmul hx hb dX11_who_196 ?_
  refine lv_ladd hx hb dX11_who_197 ?_
  refine lv_lstore (lv' := [(14, .long (v14 + ((Int32.toInt64 (10 - v10)) * r193))), (12, .long (v12 + ((Int32.toInt64 v10) * r172))), (0, .ref (wa E 0 0)), (5, .int v5), (6, .int v6), (7, .ref (wa E 43 v7)), (10, .int v10), (11, .int v11), (16, .int v16)]) hx hb dX11_who_198 hl (by decide) rfl (fun ls hl => ?_)
  exact bX11_who_200 X hk124 v5 v6 v7 v10 v11 (v12 + ((Int32.toInt64 v10) * r172)) (v14 + ((Int32.toInt64 (10 - v10)) * r193)) v16 _ _ _ _ _ hp_v7 h hW (lv_sub hl [2, 3, 4, 5, 6, 7, 1, 0, 8] rfl)
def wX11_who_b124 (g : GS) (Q : Int32 → MI → MJ → Prop) : Nat → Int32 → Int32 → Nat → Int32 → Int32 → Int64 → Int64 → Int32 → MI → MJ → Prop
  | 0, _, _, _, _, _, _, _, _, _, _ => False
  | n + 1, v5, v6, v7, v10, v11, v12, v14, v16, I, J => ((v11 < v16 → wX11_lowest g v12 (v12 + v14) v6 I J (fun r215 I215 J215 => Q (Int64.toInt32 r215) I215 J215)) ∧ (¬ v11 < v16 → ((¬ v5 = ((-1)) → ((¬ v16 = v5 → wX11_who_b200 g (fun v5 v6 v7 v10 v11 v12 v14 v16 I J => wX11_who_b124 g Q n v5 v6 v7 v10 v11 v12 v14 v16 I J) Q v5 v6 v7 v10 v11 v12 v14 v16 I J) ∧ (v16 = v5 → wX11_who_b159 g (fun v5 v6 v7 v10 v11 v12 v14 v16 I J => wX11_who_b124 g Q n v5 v6 v7 v10 v11 v12 v14 v16 I J) Q v5 v6 v7 v10 v11 v12 v14 v16 I J))) ∧ (v5 = ((-1)) → wX6_shutsOut g v7 v16 v11 I J (fun r143 I143 J143 => ((r143 = 0 → wX11_who_b200 g (fun v5 v6 v7 v10 v11 v12 v14 v16 I J => wX11_who_b124 g Q n v5 v6 v7 v10 v11 v12 v14 v16 I J) Q v5 v6 v7 v10 v11 v12 v14 v16 I143 J143) ∧ (¬ r143 = 0 → wX11_who_b159 g (fun v5 v6 v7 v10 v11 v12 v14 v16 I J => wX11_who_b124 g Q n v5 v6 v7 v10 v11 v12 v14 v16 I J) Q v5 v6 v7 v10 v11 v12 v14 v16 I143 J143)))))))
set_option maxHeartbeats 4000000 in
set_option maxRecDepth 100000 in
theorem bX11_who_124 {p : Program} {l : Launch} {e : Env} {s : State} {m : MethodId} {args : Array Value} {below : List Frame} {meth : Method} {c : Code} {E : WE} {Q : Int32 → MI → MJ → Prop} (X : Cx E cX11_who 17 RX11 ((Option.some FieldType.int)) p s m args c meth) (n : Nat) : ∀ (v5 : Int32) (v6 : Int32) (v7 : Nat) (v10 : Int32) (v11 : Int32) (v12 : Int64) (v14 : Int64) (v16 : Int32) (I : MI) (J : MJ) (H : Heap) (locs : List Loc) (ls : Array Slot), v7 < (wg E).2.2 → wX11_who_b124 (wg E) Q n v5 v6 v7 v10 v11 v12 v14 v16 I J → Wd E I J s H locs → lv_has ls 17 [(0, .ref (wa E 0 0)), (5, .int v5), (6, .int v6), (7, .ref (wa E 43 v7)), (10, .int v10), (11, .int v11), (12, .long v12), (14, .long v14), (16, .int v16)] → W p l e (rmO 5 113) s m args below meth c H locs 0 0 (MQ below (QI E Q) args s 0 0 (AA E)) (F0 m 124 ls []) := by
  have hx := X.1.1
  have hb := X.1.2.1
  induction n with
  | zero => intro v5 v6 v7 v10 v11 v12 v14 v16 I J H locs ls hp_v7 h hW hl; exact h.elim
  | succ n ih =>
    intro v5 v6 v7 v10 v11 v12 v14 v16 I J H locs ls hp_v7 h hW hl
    refine lv_iload hx hb dX11_who_124 (lv_at hl 8 rfl) ?_
    refine lv_iload hx hb dX11_who_126 (lv_at hl 5 rfl) ?_
    refine lv_icmp_gt (tgt := 206) hx hb dX11_who_128 (by decide) (fun c128 => ?_) (fun c128 => ?_)
    · have h := h.1 c128
      refine lv_lload hx hb dX11_who_206 (lv_at hl 6 rfl) ?_
      refine lv_lload hx hb dX11_who_208 (lv_at hl 6 rfl) ?_
      refine lv_lload hx hb dX11_who_210 (lv_at hl 7 rfl) ?_
      refine lv_ladd hx hb dX11_who_212 ?_
      refine lv_iload hx hb dX11_who_213 (lv_at hl 2 rfl) ?_
      refine af_l hW (rn_S X hW (As := [.long v12, .long (v12 + v14), .int v6]) (rest := []) (kX11_lowest h) mbX11_lowest tw551 tw552 rfl hl.1 (Nat.le_of_ble_eq_true rfl) ⟨(Nat.le_of_ble_eq_true rfl), (Nat.le_of_ble_eq_true rfl)⟩ dX11_who_215) (fun r215 I215 J215 H locs h hW => ?_)
      refine lv_l2i hx hb dX11_who_218 rfl ?_
      exact e_i X hW h dX11_who_219
    · have h := h.2 c128
      refine lv_iload hx hb dX11_who_131 (lv_at hl 1 rfl) ?_
      refine lv_iconst (v := (-1)) hx hb dX11_who_133 (by decide) ?_
      refine lv_icmp_ne (tgt := 152) hx hb dX11_who_134 (by decide) (fun c134 => ?_) (fun c134 => ?_)
      · have h := h.1 c134
        refine lv_iload hx hb dX11_who_152 (lv_at hl 8 rfl) ?_
        refine lv_iload hx hb dX11_who_154 (lv_at hl 1 rfl) ?_
        refine lv_icmp_ne (tgt := 200) hx hb dX11_who_156 (by decide) (fun c156 => ?_) (fun c156 => ?_)
        · have h := h.1 c156
          exact bX11_who_200 X ih v5 v6 v7 v10 v11 v12 v14 v16 _ _ _ _ _ hp_v7 h hW (lv_sub hl [0, 1, 2, 3, 4, 5, 6, 7, 8] rfl)
        · have h := h.2 c156
          exact bX11_who_159 X ih v5 v6 v7 v10 v11 v12 v14 v16 _ _ _ _ _ hp_v7 h hW (lv_sub hl [0, 1, 2, 3, 4, 5, 6, 7, 8] rfl)
      · have h := h.2 c134
        refine lv_aload hx hb dX11_who_137 (lv_at hl 3 rfl) ?_
        refine lv_iload hx hb dX11_who_139 (lv_at hl 8 rfl) ?_
        refine lv_iload hx hb dX11_who_141 (lv_at hl 5 rfl) ?_
        refine af_i hW (rn_V X hW (As := [.int v16, .int v11]) (rest := []) (okR hW hp_v7) rfl rfl (kX6_shutsOut hp_v7 h) mbX6_shutsOut tw572 tw573 tw574 rfl hl.1 (Nat.le_of_ble_eq_true rfl) ⟨(Nat.le_of_ble_eq_true rfl), (Nat.le_of_ble_eq_true rfl)⟩ dX11_who_143) (fun r143 I143 J143 H locs h hW => ?_)
        refine lv_if_eq (tgt := 200) hx hb dX11_who_146 (by decide) (fun c146 => ?_) (fun c146 => ?_)
        · have h := h.1 c146
          exact bX11_who_200 X ih v5 v6 v7 v10 v11 v12 v14 v16 _ _ _ _ _ hp_v7 h hW (lv_sub hl [0, 1, 2, 3, 4, 5, 6, 7, 8] rfl)
        · have h := h.2 c146
          refine lv_goto (tgt := 159) hx hb dX11_who_149 (by decide) ?_
          exact bX11_who_159 X ih v5 v6 v7 v10 v11 v12 v14 v16 _ _ _ _ _ hp_v7 h hW (lv_sub hl [0, 1, 2, 3, 4, 5, 6, 7, 8] rfl)
def wX11_who (g : GS) (a1 : Int32) (a2 : Int32) (a3 : Int32) (a4 : Int32) (a5 : Int32) (a6 : Int32) (I : MI) (J : MJ) (Q : Int32 → MI → MJ → Prop) : Prop :=
  wX11_ruleAt g a1 I J (fun o2 I2 J2 => (o2 = none → wX11_personAt g a4 I2 J2 (fun o10 I10 J10 => (o10 = none → Q ((-101)) I10 J10) ∧ (∀ r10, o10 = some r10 → Q ((-101)) I10 J10))) ∧ (∀ r2, o2 = some r2 → wX11_personAt g a4 I2 J2 (fun o10 I10 J10 => (o10 = none → Q ((-101)) I10 J10) ∧ (∀ r10, o10 = some r10 → wX11_isCandidate g a2 I10 J10 (fun r27 I27 J27 => ((¬ r27 = 0 → wX11_areComers g a3 I27 J27 (fun r38 I38 J38 => ((r38 = 0 → Q ((-102)) I38 J38) ∧ (¬ r38 = 0 → wX11_isOneOf g a3 a4 I38 J38 (fun r47 I47 J47 => ((r47 = 0 → Q ((-102)) I47 J47) ∧ (¬ r47 = 0 → wX11_within g a5 ((-1)) 8 I47 J47 (fun r58 I58 J58 => ((r58 = 0 → Q ((-102)) I58 J58) ∧ (¬ r58 = 0 → wX11_isPart g a6 I58 J58 (fun r66 I66 J66 => ((¬ r66 = 0 → wX11_isWatched g r2 a3 I66 J66 (fun r78 I78 J78 => wX11_blackOf g r10 a2 r78 I78 J78 (fun r89 I89 J89 => wJ6_bitCount_0f7a4 g a3 I89 J89 (fun r95 I95 J95 => wX11_tallyBalls g a2 (a3 &&& ((1 <<< (a4 &&& 31)) ^^^ ((-1)))) r78 I95 J95 (fun I112 J112 => ∃ n124, wX11_who_b124 g Q n124 a5 a6 r2 r89 r95 0 0 0 I112 J112))))) ∧ (r66 = 0 → Q ((-102)) I66 J66))))))))))))) ∧ (r27 = 0 → Q ((-101)) I27 J27)))))))
theorem mbX11_who : MB yX11_who cX11_who 17 ((Option.some FieldType.int)) 6 := ⟨tw633, tw1, ⟨by decide, by decide⟩, by decide +kernel, by decide +kernel⟩
set_option maxHeartbeats 4000000 in
set_option maxRecDepth 100000 in
theorem kX11_who {l : Launch} {E : WE} {a1 : Int32} {a2 : Int32} {a3 : Int32} {a4 : Int32} {a5 : Int32} {a6 : Int32} {I : MI} {J : MJ} {Q : Int32 → MI → MJ → Prop} (h : wX11_who (wg E) a1 a2 a3 a4 a5 a6 I J Q) : Met l yX11_who (wsM yX11_who cX11_who 17 ((Option.some FieldType.int))) (rmO 5 113) (va_Pc [.ref (wa E 0 0), .int a1, .int a2, .int a3, .int a4, .int a5, .int a6] (Wp E I J)) (QI E Q) 0 0 (AA E) := by
  refine m_entry mbX11_who (Nat.le_of_ble_eq_true rfl) ?_
  intro p e s m args below meth c X ls hW hl
  have X : Cx E cX11_who 17 RX11 ((Option.some FieldType.int)) p s m args c meth := X
  have hx := X.1.1
  have hb := X.1.2.1
  have hl : lv_has ls 17 [(0, .ref (wa E 0 0)), (1, .int a1), (2, .int a2), (3, .int a3), (4, .int a4), (5, .int a5), (6, .int a6)] := hl
  refine lv_aload_n hx hb dX11_who_0 rfl (lv_at hl 0 rfl) ?_
  refine lv_iload_n hx hb dX11_who_1 rfl (lv_at hl 1 rfl) ?_
  refine af_r hW (rn_V X hW (As := [.int a1]) (rest := []) (okS hW sc0_0) rfl rfl (kX11_ruleAt h) mbX11_ruleAt tw258 tw260 tp1 rfl hl.1 (Nat.le_of_ble_eq_true rfl) ⟨(Nat.le_of_ble_eq_true rfl), (Nat.le_of_ble_eq_true rfl)⟩ dX11_who_2) (fun I2 J2 H locs h hW => ?_) (fun r2 I2 J2 H locs c2 h hW => ?_)
  · have h := h.1 rfl
    refine lv_astoreN (lv' := [(7, .null), (0, .ref (wa E 0 0)), (1, .int a1), (2, .int a2), (3, .int a3), (4, .int a4), (5, .int a5), (6, .int a6)]) hx hb dX11_who_5 hl (by decide) rfl (fun ls hl => ?_)
    refine lv_aload_n hx hb dX11_who_7 rfl (lv_at hl 1 rfl) ?_
    refine lv_iload hx hb dX11_who_8 (lv_at hl 5 rfl) ?_
    refine af_r hW (rn_V X hW (As := [.int a4]) (rest := []) (okS hW sc0_0) rfl rfl (kX11_personAt h) mbX11_personAt tw271 tw273 tp2 rfl hl.1 (Nat.le_of_ble_eq_true rfl) ⟨(Nat.le_of_ble_eq_true rfl), (Nat.le_of_ble_eq_true rfl)⟩ dX11_who_10) (fun I10 J10 H locs h hW => ?_) (fun r10 I10 J10 H locs c10 h hW => ?_)
    · have h := h.1 rfl
      refine lv_astoreN (lv' := [(8, .null), (7, .null), (0, .ref (wa E 0 0)), (1, .int a1), (2, .int a2), (3, .int a3), (4, .int a4), (5, .int a5), (6, .int a6)]) hx hb dX11_who_13 hl (by decide) rfl (fun ls hl => ?_)
      refine lv_aloadN hx hb dX11_who_15 (lv_at hl 1 rfl) ?_
      refine lv_ifnullN (tgt := 33) hx hb dX11_who_17 (by decide) ?_
      refine lv_bipush (v := (-101)) hx hb dX11_who_33 (by decide) ?_
      exact e_i X hW h dX11_who_35
    · have h := h.2 r10 rfl
      refine lv_astore (lv' := [(8, .ref (wa E 40 r10)), (7, .null), (0, .ref (wa E 0 0)), (1, .int a1), (2, .int a2), (3, .int a3), (4, .int a4), (5, .int a5), (6, .int a6)]) hx hb dX11_who_13 hl (by decide) rfl (fun ls hl => ?_)
      refine lv_aloadN hx hb dX11_who_15 (lv_at hl 1 rfl) ?_
      refine lv_ifnullN (tgt := 33) hx hb dX11_who_17 (by decide) ?_
      refine lv_bipush (v := (-101)) hx hb dX11_who_33 (by decide) ?_
      exact e_i X hW h dX11_who_35
  · have h := h.2 r2 rfl
    refine lv_astore (lv' := [(7, .ref (wa E 43 r2)), (0, .ref (wa E 0 0)), (1, .int a1), (2, .int a2), (3, .int a3), (4, .int a4), (5, .int a5), (6, .int a6)]) hx hb dX11_who_5 hl (by decide) rfl (fun ls hl => ?_)
    refine lv_aload_n hx hb dX11_who_7 rfl (lv_at hl 1 rfl) ?_
    refine lv_iload hx hb dX11_who_8 (lv_at hl 5 rfl) ?_
    refine af_r hW (rn_V X hW (As := [.int a4]) (rest := []) (okS hW sc0_0) rfl rfl (kX11_personAt h) mbX11_personAt tw271 tw273 tp2 rfl hl.1 (Nat.le_of_ble_eq_true rfl) ⟨(Nat.le_of_ble_eq_true rfl), (Nat.le_of_ble_eq_true rfl)⟩ dX11_who_10) (fun I10 J10 H locs h hW => ?_) (fun r10 I10 J10 H locs c10 h hW => ?_)
    · have h := h.1 rfl
      refine lv_astoreN (lv' := [(8, .null), (7, .ref (wa E 43 r2)), (0, .ref (wa E 0 0)), (1, .int a1), (2, .int a2), (3, .int a3), (4, .int a4), (5, .int a5), (6, .int a6)]) hx hb dX11_who_13 hl (by decide) rfl (fun ls hl => ?_)
      refine lv_aload hx hb dX11_who_15 (lv_at hl 1 rfl) ?_
      refine lv_ifnull hx hb dX11_who_17 ?_
      refine lv_aloadN hx hb dX11_who_20 (lv_at hl 0 rfl) ?_
      refine lv_ifnullN (tgt := 33) hx hb dX11_who_22 (by decide) ?_
      refine lv_bipush (v := (-101)) hx hb dX11_who_33 (by decide) ?_
      exact e_i X hW h dX11_who_35
    · have h := h.2 r10 rfl
      refine lv_astore (lv' := [(8, .ref (wa E 40 r10)), (7, .ref (wa E 43 r2)), (0, .ref (wa E 0 0)), (1, .int a1), (2, .int a2), (3, .int a3), (4, .int a4), (5, .int a5), (6, .int a6)]) hx hb dX11_who_13 hl (by decide) rfl (fun ls hl => ?_)
      refine lv_aload hx hb dX11_who_15 (lv_at hl 1 rfl) ?_
      refine lv_ifnull hx hb dX11_who_17 ?_
      refine lv_aload hx hb dX11_who_20 (lv_at hl 0 rfl) ?_
      refine lv_ifnull hx hb dX11_who_22 ?_
      refine lv_aload_n hx hb dX11_who_25 rfl (lv_at hl 2 rfl) ?_
      refine lv_iload_n hx hb dX11_who_26 rfl (lv_at hl 4 rfl) ?_
      refine af_i hW (rn_V X hW (As := [.int a2]) (rest := []) (okS hW sc0_0) rfl rfl (kX11_isCandidate h) mbX11_isCandidate tw417 tw419 tp4 rfl hl.1 (Nat.le_of_ble_eq_true rfl) ⟨(Nat.le_of_ble_eq_true rfl), (Nat.le_of_ble_eq_true rfl)⟩ dX11_who_27) (fun r27 I27 J27 H locs h hW => ?_)
      refine lv_if_ne (tgt := 36) hx hb dX11_who_30 (by decide) (fun c30 => ?_) (fun c30 => ?_)
      · have h := h.1 c30
        refine lv_aload_n hx hb dX11_who_36 rfl (lv_at hl 2 rfl) ?_
        refine lv_iload_n hx hb dX11_who_37 rfl (lv_at hl 5 rfl) ?_
        refine af_i hW (rn_V X hW (As := [.int a3]) (rest := []) (okS hW sc0_0) rfl rfl (kX11_areComers h) mbX11_areComers tw469 tw471 tp8 rfl hl.1 (Nat.le_of_ble_eq_true rfl) ⟨(Nat.le_of_ble_eq_true rfl), (Nat.le_of_ble_eq_true rfl)⟩ dX11_who_38) (fun r38 I38 J38 H locs h hW => ?_)
        refine lv_if_eq (tgt := 72) hx hb dX11_who_41 (by decide) (fun c41 => ?_) (fun c41 => ?_)
        · have h := h.1 c41
          refine lv_bipush (v := (-102)) hx hb dX11_who_72 (by decide) ?_
          exact e_i X hW h dX11_who_74
        · have h := h.2 c41
          refine lv_iload_n hx hb dX11_who_44 rfl (lv_at hl 5 rfl) ?_
          refine lv_iload hx hb dX11_who_45 (lv_at hl 6 rfl) ?_
          refine af_i hW (rn_S X hW (As := [.int a3, .int a4]) (rest := []) (kX11_isOneOf h) mbX11_isOneOf tw477 tw478 rfl hl.1 (Nat.le_of_ble_eq_true rfl) ⟨(Nat.le_of_ble_eq_true rfl), (Nat.le_of_ble_eq_true rfl)⟩ dX11_who_47) (fun r47 I47 J47 H locs h hW => ?_)
          refine lv_if_eq (tgt := 72) hx hb dX11_who_50 (by decide) (fun c50 => ?_) (fun c50 => ?_)
          · have h := h.1 c50
            refine lv_bipush (v := (-102)) hx hb dX11_who_72 (by decide) ?_
            exact e_i X hW h dX11_who_74
          · have h := h.2 c50
            refine lv_iload hx hb dX11_who_53 (lv_at hl 7 rfl) ?_
            refine lv_iconst (v := (-1)) hx hb dX11_who_55 (by decide) ?_
            refine lv_bipush (v := 8) hx hb dX11_who_56 (by decide) ?_
            refine af_i hW (rn_S X hW (As := [.int a5, .int ((-1)), .int 8]) (rest := []) (kX11_within h) mbX11_within tw262 tw207 rfl hl.1 (Nat.le_of_ble_eq_true rfl) ⟨(Nat.le_of_ble_eq_true rfl), (Nat.le_of_ble_eq_true rfl)⟩ dX11_who_58) (fun r58 I58 J58 H locs h hW => ?_)
            refine lv_if_eq (tgt := 72) hx hb dX11_who_61 (by decide) (fun c61 => ?_) (fun c61 => ?_)
            · have h := h.1 c61
              refine lv_bipush (v := (-102)) hx hb dX11_who_72 (by decide) ?_
              exact e_i X hW h dX11_who_74
            · have h := h.2 c61
              refine lv_iload hx hb dX11_who_64 (lv_at hl 8 rfl) ?_
              refine af_i hW (rn_S X hW (As := [.int a6]) (rest := []) (kX11_isPart h) mbX11_isPart tw527 tw528 rfl hl.1 (Nat.le_of_ble_eq_true rfl) ⟨(Nat.le_of_ble_eq_true rfl), (Nat.le_of_ble_eq_true rfl)⟩ dX11_who_66) (fun r66 I66 J66 H locs h hW => ?_)
              refine lv_if_ne (tgt := 75) hx hb dX11_who_69 (by decide) (fun c69 => ?_) (fun c69 => ?_)
              · have h := h.1 c69
                refine lv_aload hx hb dX11_who_75 (lv_at hl 1 rfl) ?_
                refine lv_iload_n hx hb dX11_who_77 rfl (lv_at hl 5 rfl) ?_
                refine af_i hW (rn_S X hW (As := [.ref (wa E 43 r2), .int a3]) (rest := []) (kX11_isWatched c2 h) mbX11_isWatched tw480 tw481 rfl hl.1 (Nat.le_of_ble_eq_true rfl) ⟨(Nat.le_of_ble_eq_true rfl), (Nat.le_of_ble_eq_true rfl)⟩ dX11_who_78) (fun r78 I78 J78 H locs h hW => ?_)
                refine lv_istore (lv' := [(9, .int r78), (8, .ref (wa E 40 r10)), (7, .ref (wa E 43 r2)), (0, .ref (wa E 0 0)), (1, .int a1), (2, .int a2), (3, .int a3), (4, .int a4), (5, .int a5), (6, .int a6)]) hx hb dX11_who_81 hl (by decide) rfl (fun ls hl => ?_)
                refine lv_aload_n hx hb dX11_who_83 rfl (lv_at hl 3 rfl) ?_
                refine lv_aload hx hb dX11_who_84 (lv_at hl 1 rfl) ?_
                refine lv_iload_n hx hb dX11_who_86 rfl (lv_at hl 5 rfl) ?_
                refine lv_iload hx hb dX11_who_87 (lv_at hl 0 rfl) ?_
                refine af_i hW (rn_V X hW (As := [.ref (wa E 40 r10), .int a2, .int r78]) (rest := []) (okS hW sc0_0) rfl rfl (kX11_blackOf c10 h) mbX11_blackOf tw489 tw491 tp10 rfl hl.1 (Nat.le_of_ble_eq_true rfl) ⟨(Nat.le_of_ble_eq_true rfl), (Nat.le_of_ble_eq_true rfl)⟩ dX11_who_89) (fun r89 I89 J89 H locs h hW => ?_)
                refine lv_istore (lv' := [(10, .int r89), (9, .int r78), (8, .ref (wa E 40 r10)), (7, .ref (wa E 43 r2)), (0, .ref (wa E 0 0)), (1, .int a1), (2, .int a2), (3, .int a3), (4, .int a4), (5, .int a5), (6, .int a6)]) hx hb dX11_who_92 hl (by decide) rfl (fun ls hl => ?_)
                refine lv_iload_n hx hb dX11_who_94 rfl (lv_at hl 7 rfl) ?_
                refine af_i hW (rn_S X hW (As := [.int a3]) (rest := []) (kJ6_bitCount_0f7a4 h) mbJ6_bitCount_0f7a4 tw483 tw484 rfl hl.1 (Nat.le_of_ble_eq_true rfl) ⟨(Nat.le_of_ble_eq_true rfl), (Nat.le_of_ble_eq_true rfl)⟩ dX11_who_95) (fun r95 I95 J95 H locs h hW => ?_)
                refine lv_istore (lv' := [(11, .int r95), (10, .int r89), (9, .int r78), (8, .ref (wa E 40 r10)), (7, .ref (wa E 43 r2)), (0, .ref (wa E 0 0)), (1, .int a1), (2, .int a2), (3, .int a3), (4, .int a4), (5, .int a5), (6, .int a6)]) hx hb dX11_who_98 hl (by decide) rfl (fun ls hl => ?_)
                refine lv_aload_n hx hb dX11_who_100 rfl (lv_at hl 5 rfl) ?_
                refine lv_iload_n hx hb dX11_who_101 rfl (lv_at hl 7 rfl) ?_
                refine lv_iload_n hx hb dX11_who_102 rfl (lv_at hl 8 rfl) ?_
                refine lv_iconst (v := 1) hx hb dX11_who_103 (by decide) ?_
                refine lv_iload hx hb dX11_who_104 (lv_at hl 9 rfl) ?_
                refine lv_ishl hx hb dX11_who_106 ?_
                refine lv_iconst (v := (-1)) hx hb dX11_who_107 (by decide) ?_
                refine lv_ixor hx hb dX11_who_108 ?_
                refine lv_iand hx hb dX11_who_109 ?_
                refine lv_iload hx hb dX11_who_110 (lv_at hl 2 rfl) ?_
                refine af_v hW (rn_V X hW (As := [.int a2, .int (a3 &&& ((1 <<< (a4 &&& 31)) ^^^ ((-1)))), .int r78]) (rest := []) (okS hW sc0_0) rfl rfl (kX11_tallyBalls h) mbX11_tallyBalls tw530 tw532 tp11 rfl hl.1 (Nat.le_of_ble_eq_true rfl) ⟨(Nat.le_of_ble_eq_true rfl), (Nat.le_of_ble_eq_true rfl)⟩ dX11_who_112) (fun I112 J112 H locs h hW => ?_)
                refine lv_lconst (v := 0) hx hb dX11_who_115 (by decide) ?_
                refine lv_lstore (lv' := [(12, .long 0), (11, .int r95), (10, .int r89), (9, .int r78), (8, .ref (wa E 40 r10)), (7, .ref (wa E 43 r2)), (0, .ref (wa E 0 0)), (1, .int a1), (2, .int a2), (3, .int a3), (4, .int a4), (5, .int a5), (6, .int a6)]) hx hb dX11_who_116 hl (by decide) rfl (fun ls hl => ?_)
                refine lv_lconst (v := 0) hx hb dX11_who_118 (by decide) ?_
                refine lv_lstore (lv' := [(14, .long 0), (12, .long 0), (11, .int r95), (10, .int r89), (9, .int r78), (8, .ref (wa E 40 r10)), (7, .ref (wa E 43 r2)), (0, .ref (wa E 0 0)), (1, .int a1), (2, .int a2), (3, .int a3), (4, .int a4), (5, .int a5), (6, .int a6)]) hx hb dX11_who_119 hl (by decide) rfl (fun ls hl => ?_)
                refine lv_iconst (v := 0) hx hb dX11_who_121 (by decide) ?_
                refine lv_istore (lv' := [(16, .int 0), (14, .long 0), (12, .long 0), (11, .int r95), (10, .int r89), (9, .int r78), (8, .ref (wa E 40 r10)), (7, .ref (wa E 43 r2)), (0, .ref (wa E 0 0)), (1, .int a1), (2, .int a2), (3, .int a3), (4, .int a4), (5, .int a5), (6, .int a6)]) hx hb dX11_who_122 hl (by decide) rfl (fun ls hl => ?_)
                obtain ⟨n124, h⟩ := h
                exact bX11_who_124 X n124 a5 a6 r2 r89 r95 0 0 0 _ _ _ _ _ c2 h hW (lv_sub hl [8, 13, 14, 7, 4, 3, 2, 1, 0] rfl)
              · have h := h.2 c69
                refine lv_bipush (v := (-102)) hx hb dX11_who_72 (by decide) ?_
                exact e_i X hW h dX11_who_74
      · have h := h.2 c30
        refine lv_bipush (v := (-101)) hx hb dX11_who_33 (by decide) ?_
        exact e_i X hW h dX11_who_35
def wX11_heard_b105 (g : GS) (Q : Int32 → MI → MJ → Prop) (v7 : Int32) (v10 : Int32) (t0 : Int32) (I : MI) (J : MJ) : Prop :=
  wX11_lowest g (Int32.toInt64 (v10 * t0)) (Int32.toInt64 ((v10 * t0) + ((10 - v10) * (10 - t0)))) v7 I J (fun r138 I138 J138 => Q (Int64.toInt32 r138) I138 J138)
set_option maxHeartbeats 4000000 in
set_option maxRecDepth 100000 in
theorem bX11_heard_105 {p : Program} {l : Launch} {e : Env} {s : State} {m : MethodId} {args : Array Value} {below : List Frame} {meth : Method} {c : Code} {E : WE} {Q : Int32 → MI → MJ → Prop} (X : Cx E cX11_heard 14 RX11 ((Option.some FieldType.int)) p s m args c meth) : ∀ (v7 : Int32) (v10 : Int32) (t0 : Int32) (I : MI) (J : MJ) (H : Heap) (locs : List Loc) (ls : Array Slot), wX11_heard_b105 (wg E) Q v7 v10 t0 I J → Wd E I J s H locs → lv_has ls 14 [(7, .int v7), (10, .int v10)] → W p l e (rmO 4 89) s m args below meth c H locs 0 0 (MQ below (QI E Q) args s 0 0 (AA E)) (F0 m 105 ls [.int t0]) := by
  have hx := X.1.1
  have hb := X.1.2.1
  intro v7 v10 t0 I J H locs ls h hW hl
  refine lv_istore (lv' := [(11, .int t0), (7, .int v7), (10, .int v10)]) hx hb dX11_heard_105 hl (by decide) rfl (fun ls hl => ?_)
  refine lv_iload hx hb dX11_heard_107 (lv_at hl 2 rfl) ?_
  refine lv_iload hx hb dX11_heard_109 (lv_at hl 0 rfl) ?_
  refine lv_imul hx hb dX11_heard_111 ?_
  refine lv_istore (lv' := [(12, .int (v10 * t0)), (11, .int t0), (7, .int v7), (10, .int v10)]) hx hb dX11_heard_112 hl (by decide) rfl (fun ls hl => ?_)
  refine lv_bipush (v := 10) hx hb dX11_heard_114 (by decide) ?_
  refine lv_iload hx hb dX11_heard_116 (lv_at hl 3 rfl) ?_
  refine lv_isub hx hb dX11_heard_118 ?_
  refine lv_bipush (v := 10) hx hb dX11_heard_119 (by decide) ?_
  refine lv_iload hx hb dX11_heard_121 (lv_at hl 1 rfl) ?_
  refine lv_isub hx hb dX11_heard_123 ?_
  refine lv_imul hx hb dX11_heard_124 ?_
  refine lv_istore (lv' := [(13, .int ((10 - v10) * (10 - t0))), (12, .int (v10 * t0)), (11, .int t0), (7, .int v7), (10, .int v10)]) hx hb dX11_heard_125 hl (by decide) rfl (fun ls hl => ?_)
  refine lv_iload hx hb dX11_heard_127 (lv_at hl 1 rfl) ?_
  refine lv_i2l hx hb dX11_heard_129 rfl ?_
  refine lv_iload hx hb dX11_heard_130 (lv_at hl 1 rfl) ?_
  refine lv_iload hx hb dX11_heard_132 (lv_at hl 0 rfl) ?_
  refine lv_iadd hx hb dX11_heard_134 ?_
  refine lv_i2l hx hb dX11_heard_135 rfl ?_
  refine lv_iload hx hb dX11_heard_136 (lv_at hl 3 rfl) ?_
  refine af_l hW (rn_S X hW (As := [.long (Int32.toInt64 (v10 * t0)), .long (Int32.toInt64 ((v10 * t0) + ((10 - v10) * (10 - t0)))), .int v7]) (rest := []) (kX11_lowest h) mbX11_lowest tw551 tw552 rfl hl.1 (Nat.le_of_ble_eq_true rfl) ⟨(Nat.le_of_ble_eq_true rfl), (Nat.le_of_ble_eq_true rfl)⟩ dX11_heard_138) (fun r138 I138 J138 H locs h hW => ?_)
  refine lv_l2i hx hb dX11_heard_141 rfl ?_
  exact e_i X hW h dX11_heard_142
def wX11_heard (g : GS) (a1 : Int32) (a2 : Int32) (a3 : Int32) (a4 : Int32) (a5 : Int32) (a6 : Int32) (a7 : Int32) (I : MI) (J : MJ) (Q : Int32 → MI → MJ → Prop) : Prop :=
  wX11_ruleAt g a1 I J (fun o2 I2 J2 => (o2 = none → wX11_personAt g a4 I2 J2 (fun o10 I10 J10 => (o10 = none → Q ((-101)) I10 J10) ∧ (∀ r10, o10 = some r10 → Q ((-101)) I10 J10))) ∧ (∀ r2, o2 = some r2 → wX11_personAt g a4 I2 J2 (fun o10 I10 J10 => (o10 = none → Q ((-101)) I10 J10) ∧ (∀ r10, o10 = some r10 → wX11_isCandidate g a2 I10 J10 (fun r27 I27 J27 => ((¬ r27 = 0 → wX11_areComers g a3 I27 J27 (fun r38 I38 J38 => ((r38 = 0 → Q ((-102)) I38 J38) ∧ (¬ r38 = 0 → wX11_isOneOf g a3 a4 I38 J38 (fun r47 I47 J47 => ((r47 = 0 → Q ((-102)) I47 J47) ∧ (¬ r47 = 0 → wX11_within g a5 0 10 I47 J47 (fun r58 I58 J58 => ((r58 = 0 → Q ((-102)) I58 J58) ∧ (¬ r58 = 0 → wX11_isPart g a7 I58 J58 (fun r66 I66 J66 => ((¬ r66 = 0 → wX11_isWatched g r2 a3 I66 J66 (fun r82 I82 J82 => wX11_blackOf g r10 a2 r82 I82 J82 (fun r85 I85 J85 => ((a6 = 0 → wX11_heard_b105 g Q a7 r85 (10 - a5) I85 J85) ∧ (¬ a6 = 0 → wX11_heard_b105 g Q a7 r85 a5 I85 J85))))) ∧ (r66 = 0 → Q ((-102)) I66 J66))))))))))))) ∧ (r27 = 0 → Q ((-101)) I27 J27)))))))
theorem mbX11_heard : MB yX11_heard cX11_heard 14 ((Option.some FieldType.int)) 7 := ⟨tw637, tw1, ⟨by decide, by decide⟩, by decide +kernel, by decide +kernel⟩
set_option maxHeartbeats 4000000 in
set_option maxRecDepth 100000 in
theorem kX11_heard {l : Launch} {E : WE} {a1 : Int32} {a2 : Int32} {a3 : Int32} {a4 : Int32} {a5 : Int32} {a6 : Int32} {a7 : Int32} {I : MI} {J : MJ} {Q : Int32 → MI → MJ → Prop} (h : wX11_heard (wg E) a1 a2 a3 a4 a5 a6 a7 I J Q) : Met l yX11_heard (wsM yX11_heard cX11_heard 14 ((Option.some FieldType.int))) (rmO 4 89) (va_Pc [.ref (wa E 0 0), .int a1, .int a2, .int a3, .int a4, .int a5, .int a6, .int a7] (Wp E I J)) (QI E Q) 0 0 (AA E) := by
  refine m_entry mbX11_heard (Nat.le_of_ble_eq_true rfl) ?_
  intro p e s m args below meth c X ls hW hl
  have X : Cx E cX11_heard 14 RX11 ((Option.some FieldType.int)) p s m args c meth := X
  have hx := X.1.1
  have hb := X.1.2.1
  have hl : lv_has ls 14 [(0, .ref (wa E 0 0)), (1, .int a1), (2, .int a2), (3, .int a3), (4, .int a4), (5, .int a5), (6, .int a6), (7, .int a7)] := hl
  refine lv_aload_n hx hb dX11_heard_0 rfl (lv_at hl 0 rfl) ?_
  refine lv_iload_n hx hb dX11_heard_1 rfl (lv_at hl 1 rfl) ?_
  refine af_r hW (rn_V X hW (As := [.int a1]) (rest := []) (okS hW sc0_0) rfl rfl (kX11_ruleAt h) mbX11_ruleAt tw258 tw260 tp1 rfl hl.1 (Nat.le_of_ble_eq_true rfl) ⟨(Nat.le_of_ble_eq_true rfl), (Nat.le_of_ble_eq_true rfl)⟩ dX11_heard_2) (fun I2 J2 H locs h hW => ?_) (fun r2 I2 J2 H locs c2 h hW => ?_)
  · have h := h.1 rfl
    refine lv_astoreN (lv' := [(8, .null), (0, .ref (wa E 0 0)), (1, .int a1), (2, .int a2), (3, .int a3), (4, .int a4), (5, .int a5), (6, .int a6), (7, .int a7)]) hx hb dX11_heard_5 hl (by decide) rfl (fun ls hl => ?_)
    refine lv_aload_n hx hb dX11_heard_7 rfl (lv_at hl 1 rfl) ?_
    refine lv_iload hx hb dX11_heard_8 (lv_at hl 5 rfl) ?_
    refine af_r hW (rn_V X hW (As := [.int a4]) (rest := []) (okS hW sc0_0) rfl rfl (kX11_personAt h) mbX11_personAt tw271 tw273 tp2 rfl hl.1 (Nat.le_of_ble_eq_true rfl) ⟨(Nat.le_of_ble_eq_true rfl), (Nat.le_of_ble_eq_true rfl)⟩ dX11_heard_10) (fun I10 J10 H locs h hW => ?_) (fun r10 I10 J10 H locs c10 h hW => ?_)
    · have h := h.1 rfl
      refine lv_astoreN (lv' := [(9, .null), (8, .null), (0, .ref (wa E 0 0)), (1, .int a1), (2, .int a2), (3, .int a3), (4, .int a4), (5, .int a5), (6, .int a6), (7, .int a7)]) hx hb dX11_heard_13 hl (by decide) rfl (fun ls hl => ?_)
      refine lv_aloadN hx hb dX11_heard_15 (lv_at hl 1 rfl) ?_
      refine lv_ifnullN (tgt := 33) hx hb dX11_heard_17 (by decide) ?_
      refine lv_bipush (v := (-101)) hx hb dX11_heard_33 (by decide) ?_
      exact e_i X hW h dX11_heard_35
    · have h := h.2 r10 rfl
      refine lv_astore (lv' := [(9, .ref (wa E 40 r10)), (8, .null), (0, .ref (wa E 0 0)), (1, .int a1), (2, .int a2), (3, .int a3), (4, .int a4), (5, .int a5), (6, .int a6), (7, .int a7)]) hx hb dX11_heard_13 hl (by decide) rfl (fun ls hl => ?_)
      refine lv_aloadN hx hb dX11_heard_15 (lv_at hl 1 rfl) ?_
      refine lv_ifnullN (tgt := 33) hx hb dX11_heard_17 (by decide) ?_
      refine lv_bipush (v := (-101)) hx hb dX11_heard_33 (by decide) ?_
      exact e_i X hW h dX11_heard_35
  · have h := h.2 r2 rfl
    refine lv_astore (lv' := [(8, .ref (wa E 43 r2)), (0, .ref (wa E 0 0)), (1, .int a1), (2, .int a2), (3, .int a3), (4, .int a4), (5, .int a5), (6, .int a6), (7, .int a7)]) hx hb dX11_heard_5 hl (by decide) rfl (fun ls hl => ?_)
    refine lv_aload_n hx hb dX11_heard_7 rfl (lv_at hl 1 rfl) ?_
    refine lv_iload hx hb dX11_heard_8 (lv_at hl 5 rfl) ?_
    refine af_r hW (rn_V X hW (As := [.int a4]) (rest := []) (okS hW sc0_0) rfl rfl (kX11_personAt h) mbX11_personAt tw271 tw273 tp2 rfl hl.1 (Nat.le_of_ble_eq_true rfl) ⟨(Nat.le_of_ble_eq_true rfl), (Nat.le_of_ble_eq_true rfl)⟩ dX11_heard_10) (fun I10 J10 H locs h hW => ?_) (fun r10 I10 J10 H locs c10 h hW => ?_)
    · have h := h.1 rfl
      refine lv_astoreN (lv' := [(9, .null), (8, .ref (wa E 43 r2)), (0, .ref (wa E 0 0)), (1, .int a1), (2, .int a2), (3, .int a3), (4, .int a4), (5, .int a5), (6, .int a6), (7, .int a7)]) hx hb dX11_heard_13 hl (by decide) rfl (fun ls hl => ?_)
      refine lv_aload hx hb dX11_heard_15 (lv_at hl 1 rfl) ?_
      refine lv_ifnull hx hb dX11_heard_17 ?_
      refine lv_aloadN hx hb dX11_heard_20 (lv_at hl 0 rfl) ?_
      refine lv_ifnullN (tgt := 33) hx hb dX11_heard_22 (by decide) ?_
      refine lv_bipush (v := (-101)) hx hb dX11_heard_33 (by decide) ?_
      exact e_i X hW h dX11_heard_35
    · have h := h.2 r10 rfl
      refine lv_astore (lv' := [(9, .ref (wa E 40 r10)), (8, .ref (wa E 43 r2)), (0, .ref (wa E 0 0)), (1, .int a1), (2, .int a2), (3, .int a3), (4, .int a4), (5, .int a5), (6, .int a6), (7, .int a7)]) hx hb dX11_heard_13 hl (by decide) rfl (fun ls hl => ?_)
      refine lv_aload hx hb dX11_heard_15 (lv_at hl 1 rfl) ?_
      refine lv_ifnull hx hb dX11_heard_17 ?_
      refine lv_aload hx hb dX11_heard_20 (lv_at hl 0 rfl) ?_
      refine lv_ifnull hx hb dX11_heard_22 ?_
      refine lv_aload_n hx hb dX11_heard_25 rfl (lv_at hl 2 rfl) ?_
      refine lv_iload_n hx hb dX11_heard_26 rfl (lv_at hl 4 rfl) ?_
      refine af_i hW (rn_V X hW (As := [.int a2]) (rest := []) (okS hW sc0_0) rfl rfl (kX11_isCandidate h) mbX11_isCandidate tw417 tw419 tp4 rfl hl.1 (Nat.le_of_ble_eq_true rfl) ⟨(Nat.le_of_ble_eq_true rfl), (Nat.le_of_ble_eq_true rfl)⟩ dX11_heard_27) (fun r27 I27 J27 H locs h hW => ?_)
      refine lv_if_ne (tgt := 36) hx hb dX11_heard_30 (by decide) (fun c30 => ?_) (fun c30 => ?_)
      · have h := h.1 c30
        refine lv_aload_n hx hb dX11_heard_36 rfl (lv_at hl 2 rfl) ?_
        refine lv_iload_n hx hb dX11_heard_37 rfl (lv_at hl 5 rfl) ?_
        refine af_i hW (rn_V X hW (As := [.int a3]) (rest := []) (okS hW sc0_0) rfl rfl (kX11_areComers h) mbX11_areComers tw469 tw471 tp8 rfl hl.1 (Nat.le_of_ble_eq_true rfl) ⟨(Nat.le_of_ble_eq_true rfl), (Nat.le_of_ble_eq_true rfl)⟩ dX11_heard_38) (fun r38 I38 J38 H locs h hW => ?_)
        refine lv_if_eq (tgt := 72) hx hb dX11_heard_41 (by decide) (fun c41 => ?_) (fun c41 => ?_)
        · have h := h.1 c41
          refine lv_bipush (v := (-102)) hx hb dX11_heard_72 (by decide) ?_
          exact e_i X hW h dX11_heard_74
        · have h := h.2 c41
          refine lv_iload_n hx hb dX11_heard_44 rfl (lv_at hl 5 rfl) ?_
          refine lv_iload hx hb dX11_heard_45 (lv_at hl 6 rfl) ?_
          refine af_i hW (rn_S X hW (As := [.int a3, .int a4]) (rest := []) (kX11_isOneOf h) mbX11_isOneOf tw477 tw478 rfl hl.1 (Nat.le_of_ble_eq_true rfl) ⟨(Nat.le_of_ble_eq_true rfl), (Nat.le_of_ble_eq_true rfl)⟩ dX11_heard_47) (fun r47 I47 J47 H locs h hW => ?_)
          refine lv_if_eq (tgt := 72) hx hb dX11_heard_50 (by decide) (fun c50 => ?_) (fun c50 => ?_)
          · have h := h.1 c50
            refine lv_bipush (v := (-102)) hx hb dX11_heard_72 (by decide) ?_
            exact e_i X hW h dX11_heard_74
          · have h := h.2 c50
            refine lv_iload hx hb dX11_heard_53 (lv_at hl 7 rfl) ?_
            refine lv_iconst (v := 0) hx hb dX11_heard_55 (by decide) ?_
            refine lv_bipush (v := 10) hx hb dX11_heard_56 (by decide) ?_
            refine af_i hW (rn_S X hW (As := [.int a5, .int 0, .int 10]) (rest := []) (kX11_within h) mbX11_within tw262 tw207 rfl hl.1 (Nat.le_of_ble_eq_true rfl) ⟨(Nat.le_of_ble_eq_true rfl), (Nat.le_of_ble_eq_true rfl)⟩ dX11_heard_58) (fun r58 I58 J58 H locs h hW => ?_)
            refine lv_if_eq (tgt := 72) hx hb dX11_heard_61 (by decide) (fun c61 => ?_) (fun c61 => ?_)
            · have h := h.1 c61
              refine lv_bipush (v := (-102)) hx hb dX11_heard_72 (by decide) ?_
              exact e_i X hW h dX11_heard_74
            · have h := h.2 c61
              refine lv_iload hx hb dX11_heard_64 (lv_at hl 9 rfl) ?_
              refine af_i hW (rn_S X hW (As := [.int a7]) (rest := []) (kX11_isPart h) mbX11_isPart tw527 tw528 rfl hl.1 (Nat.le_of_ble_eq_true rfl) ⟨(Nat.le_of_ble_eq_true rfl), (Nat.le_of_ble_eq_true rfl)⟩ dX11_heard_66) (fun r66 I66 J66 H locs h hW => ?_)
              refine lv_if_ne (tgt := 75) hx hb dX11_heard_69 (by decide) (fun c69 => ?_) (fun c69 => ?_)
              · have h := h.1 c69
                refine lv_aload_n hx hb dX11_heard_75 rfl (lv_at hl 2 rfl) ?_
                refine lv_aload hx hb dX11_heard_76 (lv_at hl 0 rfl) ?_
                refine lv_iload_n hx hb dX11_heard_78 rfl (lv_at hl 4 rfl) ?_
                refine lv_aload hx hb dX11_heard_79 (lv_at hl 1 rfl) ?_
                refine lv_iload_n hx hb dX11_heard_81 rfl (lv_at hl 5 rfl) ?_
                refine af_i hW (rn_S X hW (As := [.ref (wa E 43 r2), .int a3]) (rest := [.int a2, .ref (wa E 40 r10), .ref (wa E 0 0)]) (kX11_isWatched c2 h) mbX11_isWatched tw480 tw481 rfl hl.1 (Nat.le_of_ble_eq_true rfl) ⟨(Nat.le_of_ble_eq_true rfl), (Nat.le_of_ble_eq_true rfl)⟩ dX11_heard_82) (fun r82 I82 J82 H locs h hW => ?_)
                refine af_i hW (rn_V X hW (As := [.ref (wa E 40 r10), .int a2, .int r82]) (rest := []) (okS hW sc0_0) rfl rfl (kX11_blackOf c10 h) mbX11_blackOf tw489 tw491 tp10 rfl hl.1 (Nat.le_of_ble_eq_true rfl) ⟨(Nat.le_of_ble_eq_true rfl), (Nat.le_of_ble_eq_true rfl)⟩ dX11_heard_85) (fun r85 I85 J85 H locs h hW => ?_)
                refine lv_istore (lv' := [(10, .int r85), (9, .ref (wa E 40 r10)), (8, .ref (wa E 43 r2)), (0, .ref (wa E 0 0)), (1, .int a1), (2, .int a2), (3, .int a3), (4, .int a4), (5, .int a5), (6, .int a6), (7, .int a7)]) hx hb dX11_heard_88 hl (by decide) rfl (fun ls hl => ?_)
                refine lv_iload hx hb dX11_heard_90 (lv_at hl 9 rfl) ?_
                refine lv_if_eq (tgt := 100) hx hb dX11_heard_92 (by decide) (fun c92 => ?_) (fun c92 => ?_)
                · have h := h.1 c92
                  refine lv_bipush (v := 10) hx hb dX11_heard_100 (by decide) ?_
                  refine lv_iload hx hb dX11_heard_102 (lv_at hl 8 rfl) ?_
                  refine lv_isub hx hb dX11_heard_104 ?_
                  exact bX11_heard_105 X a7 r85 (10 - a5) _ _ _ _ _  h hW (lv_sub hl [10, 0] rfl)
                · have h := h.2 c92
                  refine lv_iload hx hb dX11_heard_95 (lv_at hl 8 rfl) ?_
                  refine lv_goto (tgt := 105) hx hb dX11_heard_97 (by decide) ?_
                  exact bX11_heard_105 X a7 r85 a5 _ _ _ _ _  h hW (lv_sub hl [10, 0] rfl)
              · have h := h.2 c69
                refine lv_bipush (v := (-102)) hx hb dX11_heard_72 (by decide) ?_
                exact e_i X hW h dX11_heard_74
      · have h := h.2 c30
        refine lv_bipush (v := (-101)) hx hb dX11_heard_33 (by decide) ?_
        exact e_i X hW h dX11_heard_35
def wX11_sway_b120 (g : GS) (ko55 : Int32 → Int32 → Nat → Int64 → Int32 → Int64 → Int32 → MI → MJ → Prop) (Q : Int32 → MI → MJ → Prop) (v2 : Int32) (v3 : Int32) (v4 : Nat) (v5 : Int64) (v7 : Int32) (v8 : Int64) (v10 : Int32) (I : MI) (J : MJ) : Prop :=
  ko55 v2 v3 v4 v5 v7 v8 (v10 + 1) I J
set_option maxHeartbeats 4000000 in
set_option maxRecDepth 100000 in
theorem bX11_sway_120 {p : Program} {l : Launch} {e : Env} {s : State} {m : MethodId} {args : Array Value} {below : List Frame} {meth : Method} {c : Code} {E : WE} {Q : Int32 → MI → MJ → Prop} {ko55 : Int32 → Int32 → Nat → Int64 → Int32 → Int64 → Int32 → MI → MJ → Prop} (X : Cx E cX11_sway 15 RX11 ((Option.some FieldType.int)) p s m args c meth)
    (hk55 : ∀ (v2 : Int32) (v3 : Int32) (v4 : Nat) (v5 : Int64) (v7 : Int32) (v8 : Int64) (v10 : Int32) (I : MI) (J : MJ) (H : Heap) (locs : List Loc) (ls : Array Slot), v4 < (wg E).2.2 → ko55 v2 v3 v4 v5 v7 v8 v10 I J → Wd E I J s H locs → lv_has ls 15 [(0, .ref (wa E 0 0)), (2, .int v2), (3, .int v3), (4, .ref (wa E 43 v4)), (5, .long v5), (7, .int v7), (8, .long v8), (10, .int v10)] → W p l e (rmO 6 142) s m args below meth c H locs 0 0 (MQ below (QI E Q) args s 0 0 (AA E)) (F0 m 55 ls [])) : ∀ (v2 : Int32) (v3 : Int32) (v4 : Nat) (v5 : Int64) (v7 : Int32) (v8 : Int64) (v10 : Int32) (I : MI) (J : MJ) (H : Heap) (locs : List Loc) (ls : Array Slot), v4 < (wg E).2.2 → wX11_sway_b120 (wg E) ko55 Q v2 v3 v4 v5 v7 v8 v10 I J → Wd E I J s H locs → lv_has ls 15 [(0, .ref (wa E 0 0)), (2, .int v2), (3, .int v3), (4, .ref (wa E 43 v4)), (5, .long v5), (7, .int v7), (8, .long v8), (10, .int v10)] → W p l e (rmO 6 142) s m args below meth c H locs 0 0 (MQ below (QI E Q) args s 0 0 (AA E)) (F0 m 120 ls []) := by
  have hx := X.1.1
  have hb := X.1.2.1
  intro v2 v3 v4 v5 v7 v8 v10 I J H locs ls hp_v4 h hW hl
  refine lv_iinc (v := v10 + 1) (lv' := [(10, .int (v10 + 1)), (0, .ref (wa E 0 0)), (2, .int v2), (3, .int v3), (4, .ref (wa E 43 v4)), (5, .long v5), (7, .int v7), (8, .long v8)]) hx hb dX11_sway_120 hl (k := 7) rfl rfl (by decide) rfl (fun ls hl => ?_)
  refine lv_goto (tgt := 55) hx hb dX11_sway_123 (by decide) ?_
  exact hk55 v2 v3 v4 v5 v7 v8 (v10 + 1) _ _ _ _ _ hp_v4 h hW (lv_sub hl [1, 2, 3, 4, 5, 6, 7, 0] rfl)
def wX11_sway_b55 (g : GS) (Q : Int32 → MI → MJ → Prop) : Nat → Int32 → Int32 → Nat → Int64 → Int32 → Int64 → Int32 → MI → MJ → Prop
  | 0, _, _, _, _, _, _, _, _, _ => False
  | n + 1, v2, v3, v4, v5, v7, v8, v10, I, J => (((I 0 0 10) ≤ v10 → Q v7 I J) ∧ (¬ (I 0 0 10) ≤ v10 → wX11_isOneOf g v3 v10 I J (fun r67 I67 J67 => ((r67 = 0 → wX11_sway_b120 g (fun v2 v3 v4 v5 v7 v8 v10 I J => wX11_sway_b55 g Q n v2 v3 v4 v5 v7 v8 v10 I J) Q v2 v3 v4 v5 v7 v8 v10 I67 J67) ∧ (¬ r67 = 0 → wX11_inWays g v4 v2 (v3 &&& ((1 <<< (v10 &&& 31)) ^^^ ((-1)))) I67 J67 (fun r88 I88 J88 => (((lg_cmp (if 0 < (v5 - (100 * r88)) then (v5 - (100 * r88)) else -(v5 - (100 * r88))) v8) ≤ 0 → wX11_sway_b120 g (fun v2 v3 v4 v5 v7 v8 v10 I J => wX11_sway_b55 g Q n v2 v3 v4 v5 v7 v8 v10 I J) Q v2 v3 v4 v5 v7 v8 v10 I88 J88) ∧ (¬ (lg_cmp (if 0 < (v5 - (100 * r88)) then (v5 - (100 * r88)) else -(v5 - (100 * r88))) v8) ≤ 0 → wX11_sway_b120 g (fun v2 v3 v4 v5 v7 v8 v10 I J => wX11_sway_b55 g Q n v2 v3 v4 v5 v7 v8 v10 I J) Q v2 v3 v4 v5 v10 (if 0 < (v5 - (100 * r88)) then (v5 - (100 * r88)) else -(v5 - (100 * r88))) v10 I88 J88))))))))
set_option maxHeartbeats 4000000 in
set_option maxRecDepth 100000 in
theorem bX11_sway_55 {p : Program} {l : Launch} {e : Env} {s : State} {m : MethodId} {args : Array Value} {below : List Frame} {meth : Method} {c : Code} {E : WE} {Q : Int32 → MI → MJ → Prop} (X : Cx E cX11_sway 15 RX11 ((Option.some FieldType.int)) p s m args c meth) (n : Nat) : ∀ (v2 : Int32) (v3 : Int32) (v4 : Nat) (v5 : Int64) (v7 : Int32) (v8 : Int64) (v10 : Int32) (I : MI) (J : MJ) (H : Heap) (locs : List Loc) (ls : Array Slot), v4 < (wg E).2.2 → wX11_sway_b55 (wg E) Q n v2 v3 v4 v5 v7 v8 v10 I J → Wd E I J s H locs → lv_has ls 15 [(0, .ref (wa E 0 0)), (2, .int v2), (3, .int v3), (4, .ref (wa E 43 v4)), (5, .long v5), (7, .int v7), (8, .long v8), (10, .int v10)] → W p l e (rmO 6 142) s m args below meth c H locs 0 0 (MQ below (QI E Q) args s 0 0 (AA E)) (F0 m 55 ls []) := by
  have hx := X.1.1
  have hb := X.1.2.1
  induction n with
  | zero => intro v2 v3 v4 v5 v7 v8 v10 I J H locs ls hp_v4 h hW hl; exact h.elim
  | succ n ih =>
    intro v2 v3 v4 v5 v7 v8 v10 I J H locs ls hp_v4 h hW hl
    refine lv_iload hx hb dX11_sway_55 (lv_at hl 7 rfl) ?_
    refine lv_aload_n hx hb dX11_sway_57 rfl (lv_at hl 0 rfl) ?_
    refine r_get X hW 10 (okS hW sc0_0) rfl rfl inX11 (Nat.le_of_ble_eq_true rfl) tw142 rfl dX11_sway_58 ?_
    refine lv_icmp_ge (tgt := 126) hx hb dX11_sway_61 (by decide) (fun c61 => ?_) (fun c61 => ?_)
    · have h := h.1 c61
      refine lv_iload hx hb dX11_sway_126 (lv_at hl 5 rfl) ?_
      exact e_i X hW h dX11_sway_128
    · have h := h.2 c61
      refine lv_iload_n hx hb dX11_sway_64 rfl (lv_at hl 2 rfl) ?_
      refine lv_iload hx hb dX11_sway_65 (lv_at hl 7 rfl) ?_
      refine af_i hW (rn_S X hW (As := [.int v3, .int v10]) (rest := []) (kX11_isOneOf h) mbX11_isOneOf tw477 tw478 rfl hl.1 (Nat.le_of_ble_eq_true rfl) ⟨(Nat.le_of_ble_eq_true rfl), (Nat.le_of_ble_eq_true rfl)⟩ dX11_sway_67) (fun r67 I67 J67 H locs h hW => ?_)
      refine lv_if_eq (tgt := 120) hx hb dX11_sway_70 (by decide) (fun c70 => ?_) (fun c70 => ?_)
      · have h := h.1 c70
        exact bX11_sway_120 X ih v2 v3 v4 v5 v7 v8 v10 _ _ _ _ _ hp_v4 h hW (lv_sub hl [0, 1, 2, 3, 4, 5, 6, 7] rfl)
      · have h := h.2 c70
        refine lv_ldc2 hx hb X.1.2.2.2.1 (X.1.2.2.2.2 _ tw642) dX11_sway_73 ?_
        refine lv_aload_n hx hb dX11_sway_76 rfl (lv_at hl 0 rfl) ?_
        refine lv_aload hx hb dX11_sway_77 (lv_at hl 3 rfl) ?_
        refine lv_iload_n hx hb dX11_sway_79 rfl (lv_at hl 1 rfl) ?_
        refine lv_iload_n hx hb dX11_sway_80 rfl (lv_at hl 2 rfl) ?_
        refine lv_iconst (v := 1) hx hb dX11_sway_81 (by decide) ?_
        refine lv_iload hx hb dX11_sway_82 (lv_at hl 7 rfl) ?_
        refine lv_ishl hx hb dX11_sway_84 ?_
        refine lv_iconst (v := (-1)) hx hb dX11_sway_85 (by decide) ?_
        refine lv_ixor hx hb dX11_sway_86 ?_
        refine lv_iand hx hb dX11_sway_87 ?_
        refine af_l hW (rn_V X hW (As := [.ref (wa E 43 v4), .int v2, .int (v3 &&& ((1 <<< (v10 &&& 31)) ^^^ ((-1))))]) (rest := [.long 100]) (okS hW sc0_0) rfl rfl (kX11_inWays hp_v4 h) mbX11_inWays tw564 tw566 tp12 rfl hl.1 (Nat.le_of_ble_eq_true rfl) ⟨(Nat.le_of_ble_eq_true rfl), (Nat.le_of_ble_eq_true rfl)⟩ dX11_sway_88) (fun r88 I88 J88 H locs h hW => ?_)
        refine lv_lmul hx hb dX11_sway_91 ?_
        refine lv_lstore (lv' := [(11, .long (100 * r88)), (0, .ref (wa E 0 0)), (2, .int v2), (3, .int v3), (4, .ref (wa E 43 v4)), (5, .long v5), (7, .int v7), (8, .long v8), (10, .int v10)]) hx hb dX11_sway_92 hl (by decide) rfl (fun ls hl => ?_)
        refine lv_lload hx hb dX11_sway_94 (lv_at hl 5 rfl) ?_
        refine lv_lload hx hb dX11_sway_96 (lv_at hl 0 rfl) ?_
        refine lv_lsub hx hb dX11_sway_98 ?_
        refine va_mabs_long hx hb (X.1.2.2.1.trans hl.1.symm) X.1.2.2.2.1 (X.1.2.2.2.2 _ tw643) (X.1.2.2.2.2 _ tw644) (X.1.2.2.2.2 _ tw16) (X.1.2.2.2.2 _ tw645) (Nat.le_of_ble_eq_true rfl) (Nat.le_of_ble_eq_true rfl) (Nat.zero_le _) (Nat.zero_le _) dX11_sway_99 ?_
        refine lv_lstore (lv' := [(13, .long (if 0 < (v5 - (100 * r88)) then (v5 - (100 * r88)) else -(v5 - (100 * r88)))), (11, .long (100 * r88)), (0, .ref (wa E 0 0)), (2, .int v2), (3, .int v3), (4, .ref (wa E 43 v4)), (5, .long v5), (7, .int v7), (8, .long v8), (10, .int v10)]) hx hb dX11_sway_102 hl (by decide) rfl (fun ls hl => ?_)
        refine lv_lload hx hb dX11_sway_104 (lv_at hl 0 rfl) ?_
        refine lv_lload hx hb dX11_sway_106 (lv_at hl 8 rfl) ?_
        refine W.lcmp hx hb dX11_sway_108 ?_
        refine lv_if_le (tgt := 120) hx hb dX11_sway_109 (by decide) (fun c109 => ?_) (fun c109 => ?_)
        · have h := h.1 c109
          exact bX11_sway_120 X ih v2 v3 v4 v5 v7 v8 v10 _ _ _ _ _ hp_v4 h hW (lv_sub hl [2, 3, 4, 5, 6, 7, 8, 9] rfl)
        · have h := h.2 c109
          refine lv_iload hx hb dX11_sway_112 (lv_at hl 9 rfl) ?_
          refine lv_istore (lv' := [(7, .int v10), (13, .long (if 0 < (v5 - (100 * r88)) then (v5 - (100 * r88)) else -(v5 - (100 * r88)))), (11, .long (100 * r88)), (0, .ref (wa E 0 0)), (2, .int v2), (3, .int v3), (4, .ref (wa E 43 v4)), (5, .long v5), (8, .long v8), (10, .int v10)]) hx hb dX11_sway_114 hl (by decide) rfl (fun ls hl => ?_)
          refine lv_lload hx hb dX11_sway_116 (lv_at hl 1 rfl) ?_
          refine lv_lstore (lv' := [(8, .long (if 0 < (v5 - (100 * r88)) then (v5 - (100 * r88)) else -(v5 - (100 * r88)))), (7, .int v10), (13, .long (if 0 < (v5 - (100 * r88)) then (v5 - (100 * r88)) else -(v5 - (100 * r88)))), (11, .long (100 * r88)), (0, .ref (wa E 0 0)), (2, .int v2), (3, .int v3), (4, .ref (wa E 43 v4)), (5, .long v5), (10, .int v10)]) hx hb dX11_sway_118 hl (by decide) rfl (fun ls hl => ?_)
          exact bX11_sway_120 X ih v2 v3 v4 v5 v10 (if 0 < (v5 - (100 * r88)) then (v5 - (100 * r88)) else -(v5 - (100 * r88))) v10 _ _ _ _ _ hp_v4 h hW (lv_sub hl [4, 5, 6, 7, 8, 1, 0, 9] rfl)
def wX11_sway (g : GS) (a1 : Int32) (a2 : Int32) (a3 : Int32) (I : MI) (J : MJ) (Q : Int32 → MI → MJ → Prop) : Prop :=
  wX11_ruleAt g a1 I J (fun o2 I2 J2 => (o2 = none → Q ((-101)) I2 J2) ∧ (∀ r2, o2 = some r2 → wX11_isCandidate g a2 I2 J2 (fun r14 I14 J14 => ((¬ r14 = 0 → wX11_areComers g a3 I14 J14 (fun r25 I25 J25 => ((¬ r25 = 0 → wX11_inWays g r2 a2 a3 I25 J25 (fun r39 I39 J39 => ∃ n55, wX11_sway_b55 g Q n55 a2 a3 r2 r39 ((-1)) ((-1)) 0 I39 J39)) ∧ (r25 = 0 → Q ((-102)) I25 J25)))) ∧ (r14 = 0 → Q ((-101)) I14 J14)))))
theorem mbX11_sway : MB yX11_sway cX11_sway 15 ((Option.some FieldType.int)) 3 := ⟨tw641, tw1, ⟨by decide, by decide⟩, by decide +kernel, by decide +kernel⟩
set_option maxHeartbeats 4000000 in
set_option maxRecDepth 100000 in
theorem kX11_sway {l : Launch} {E : WE} {a1 : Int32} {a2 : Int32} {a3 : Int32} {I : MI} {J : MJ} {Q : Int32 → MI → MJ → Prop} (h : wX11_sway (wg E) a1 a2 a3 I J Q) : Met l yX11_sway (wsM yX11_sway cX11_sway 15 ((Option.some FieldType.int))) (rmO 6 142) (va_Pc [.ref (wa E 0 0), .int a1, .int a2, .int a3] (Wp E I J)) (QI E Q) 0 0 (AA E) := by
  refine m_entry mbX11_sway (Nat.le_of_ble_eq_true rfl) ?_
  intro p e s m args below meth c X ls hW hl
  have X : Cx E cX11_sway 15 RX11 ((Option.some FieldType.int)) p s m args c meth := X
  have hx := X.1.1
  have hb := X.1.2.1
  have hl : lv_has ls 15 [(0, .ref (wa E 0 0)), (1, .int a1), (2, .int a2), (3, .int a3)] := hl
  refine lv_aload_n hx hb dX11_sway_0 rfl (lv_at hl 0 rfl) ?_
  refine lv_iload_n hx hb dX11_sway_1 rfl (lv_at hl 1 rfl) ?_
  refine af_r hW (rn_V X hW (As := [.int a1]) (rest := []) (okS hW sc0_0) rfl rfl (kX11_ruleAt h) mbX11_ruleAt tw258 tw260 tp1 rfl hl.1 (Nat.le_of_ble_eq_true rfl) ⟨(Nat.le_of_ble_eq_true rfl), (Nat.le_of_ble_eq_true rfl)⟩ dX11_sway_2) (fun I2 J2 H locs h hW => ?_) (fun r2 I2 J2 H locs c2 h hW => ?_)
  · have h := h.1 rfl
    refine lv_astoreN (lv' := [(4, .null), (0, .ref (wa E 0 0)), (1, .int a1), (2, .int a2), (3, .int a3)]) hx hb dX11_sway_5 hl (by decide) rfl (fun ls hl => ?_)
    refine lv_aloadN hx hb dX11_sway_7 (lv_at hl 0 rfl) ?_
    refine lv_ifnullN (tgt := 20) hx hb dX11_sway_9 (by decide) ?_
    refine lv_bipush (v := (-101)) hx hb dX11_sway_20 (by decide) ?_
    exact e_i X hW h dX11_sway_22
  · have h := h.2 r2 rfl
    refine lv_astore (lv' := [(4, .ref (wa E 43 r2)), (0, .ref (wa E 0 0)), (1, .int a1), (2, .int a2), (3, .int a3)]) hx hb dX11_sway_5 hl (by decide) rfl (fun ls hl => ?_)
    refine lv_aload hx hb dX11_sway_7 (lv_at hl 0 rfl) ?_
    refine lv_ifnull hx hb dX11_sway_9 ?_
    refine lv_aload_n hx hb dX11_sway_12 rfl (lv_at hl 1 rfl) ?_
    refine lv_iload_n hx hb dX11_sway_13 rfl (lv_at hl 3 rfl) ?_
    refine af_i hW (rn_V X hW (As := [.int a2]) (rest := []) (okS hW sc0_0) rfl rfl (kX11_isCandidate h) mbX11_isCandidate tw417 tw419 tp4 rfl hl.1 (Nat.le_of_ble_eq_true rfl) ⟨(Nat.le_of_ble_eq_true rfl), (Nat.le_of_ble_eq_true rfl)⟩ dX11_sway_14) (fun r14 I14 J14 H locs h hW => ?_)
    refine lv_if_ne (tgt := 23) hx hb dX11_sway_17 (by decide) (fun c17 => ?_) (fun c17 => ?_)
    · have h := h.1 c17
      refine lv_aload_n hx hb dX11_sway_23 rfl (lv_at hl 1 rfl) ?_
      refine lv_iload_n hx hb dX11_sway_24 rfl (lv_at hl 4 rfl) ?_
      refine af_i hW (rn_V X hW (As := [.int a3]) (rest := []) (okS hW sc0_0) rfl rfl (kX11_areComers h) mbX11_areComers tw469 tw471 tp8 rfl hl.1 (Nat.le_of_ble_eq_true rfl) ⟨(Nat.le_of_ble_eq_true rfl), (Nat.le_of_ble_eq_true rfl)⟩ dX11_sway_25) (fun r25 I25 J25 H locs h hW => ?_)
      refine lv_if_ne (tgt := 34) hx hb dX11_sway_28 (by decide) (fun c28 => ?_) (fun c28 => ?_)
      · have h := h.1 c28
        refine lv_aload_n hx hb dX11_sway_34 rfl (lv_at hl 1 rfl) ?_
        refine lv_aload hx hb dX11_sway_35 (lv_at hl 0 rfl) ?_
        refine lv_iload_n hx hb dX11_sway_37 rfl (lv_at hl 3 rfl) ?_
        refine lv_iload_n hx hb dX11_sway_38 rfl (lv_at hl 4 rfl) ?_
        refine af_l hW (rn_V X hW (As := [.ref (wa E 43 r2), .int a2, .int a3]) (rest := []) (okS hW sc0_0) rfl rfl (kX11_inWays c2 h) mbX11_inWays tw564 tw566 tp12 rfl hl.1 (Nat.le_of_ble_eq_true rfl) ⟨(Nat.le_of_ble_eq_true rfl), (Nat.le_of_ble_eq_true rfl)⟩ dX11_sway_39) (fun r39 I39 J39 H locs h hW => ?_)
        refine lv_lstore (lv' := [(5, .long r39), (4, .ref (wa E 43 r2)), (0, .ref (wa E 0 0)), (1, .int a1), (2, .int a2), (3, .int a3)]) hx hb dX11_sway_42 hl (by decide) rfl (fun ls hl => ?_)
        refine lv_iconst (v := (-1)) hx hb dX11_sway_44 (by decide) ?_
        refine lv_istore (lv' := [(7, .int ((-1))), (5, .long r39), (4, .ref (wa E 43 r2)), (0, .ref (wa E 0 0)), (1, .int a1), (2, .int a2), (3, .int a3)]) hx hb dX11_sway_45 hl (by decide) rfl (fun ls hl => ?_)
        refine lv_ldc2 hx hb X.1.2.2.2.1 (X.1.2.2.2.2 _ tw557) dX11_sway_47 ?_
        refine lv_lstore (lv' := [(8, .long ((-1))), (7, .int ((-1))), (5, .long r39), (4, .ref (wa E 43 r2)), (0, .ref (wa E 0 0)), (1, .int a1), (2, .int a2), (3, .int a3)]) hx hb dX11_sway_50 hl (by decide) rfl (fun ls hl => ?_)
        refine lv_iconst (v := 0) hx hb dX11_sway_52 (by decide) ?_
        refine lv_istore (lv' := [(10, .int 0), (8, .long ((-1))), (7, .int ((-1))), (5, .long r39), (4, .ref (wa E 43 r2)), (0, .ref (wa E 0 0)), (1, .int a1), (2, .int a2), (3, .int a3)]) hx hb dX11_sway_53 hl (by decide) rfl (fun ls hl => ?_)
        obtain ⟨n55, h⟩ := h
        exact bX11_sway_55 X n55 a2 a3 r2 r39 ((-1)) ((-1)) 0 _ _ _ _ _ c2 h hW (lv_sub hl [5, 7, 8, 4, 3, 2, 1, 0] rfl)
      · have h := h.2 c28
        refine lv_bipush (v := (-102)) hx hb dX11_sway_31 (by decide) ?_
        exact e_i X hW h dX11_sway_33
    · have h := h.2 c17
      refine lv_bipush (v := (-101)) hx hb dX11_sway_20 (by decide) ?_
      exact e_i X hW h dX11_sway_22
def wX11_withdraws (g : GS) (a0 : Int64) (a2 : Int32) (a3 : Int32) (I : MI) (J : MJ) (Q : Int32 → MI → MJ → Prop) : Prop :=
  wX11_squaredTens g a2 I J (fun r8 I8 J8 => ((0 ≤ (lg_cmp (a0 * 10) ((Int32.toInt64 a3) * r8)) → Q 0 I8 J8) ∧ (¬ 0 ≤ (lg_cmp (a0 * 10) ((Int32.toInt64 a3) * r8)) → Q 1 I8 J8)))
theorem mbX11_withdraws : MB yX11_withdraws cX11_withdraws 4 ((Option.some FieldType.boolean)) 3 := ⟨tw652, tw1, ⟨by decide, by decide⟩, by decide +kernel, by decide +kernel⟩
set_option maxHeartbeats 4000000 in
set_option maxRecDepth 100000 in
theorem kX11_withdraws {l : Launch} {E : WE} {a0 : Int64} {a2 : Int32} {a3 : Int32} {I : MI} {J : MJ} {Q : Int32 → MI → MJ → Prop} (h : wX11_withdraws (wg E) a0 a2 a3 I J Q) : Met l yX11_withdraws (wsM yX11_withdraws cX11_withdraws 4 ((Option.some FieldType.boolean))) (rmO 2 47) (va_Pc [.long a0, .int a2, .int a3] (Wp E I J)) (QI E Q) 0 0 (AA E) := by
  refine m_entry mbX11_withdraws (Nat.le_of_ble_eq_true rfl) ?_
  intro p e s m args below meth c X ls hW hl
  have X : Cx E cX11_withdraws 4 RX11 ((Option.some FieldType.boolean)) p s m args c meth := X
  have hx := X.1.1
  have hb := X.1.2.1
  have hl : lv_has ls 4 [(0, .long a0), (2, .int a2), (3, .int a3)] := hl
  refine lv_lload_n hx hb dX11_withdraws_0 rfl (lv_at hl 0 rfl) ?_
  refine lv_ldc2 hx hb X.1.2.2.2.1 (X.1.2.2.2.2 _ tw579) dX11_withdraws_1 ?_
  refine lv_lmul hx hb dX11_withdraws_4 ?_
  refine lv_iload_n hx hb dX11_withdraws_5 rfl (lv_at hl 2 rfl) ?_
  refine lv_i2l hx hb dX11_withdraws_6 rfl ?_
  refine lv_iload_n hx hb dX11_withdraws_7 rfl (lv_at hl 1 rfl) ?_
  refine af_l hW (rn_S X hW (As := [.int a2]) (rest := [.long (Int32.toInt64 a3), .long (a0 * 10)]) (kX11_squaredTens h) mbX11_squaredTens tw576 tw577 rfl hl.1 (Nat.le_of_ble_eq_true rfl) ⟨(Nat.le_of_ble_eq_true rfl), (Nat.le_of_ble_eq_true rfl)⟩ dX11_withdraws_8) (fun r8 I8 J8 H locs h hW => ?_)
  refine lv_lmul hx hb dX11_withdraws_11 ?_
  refine W.lcmp hx hb dX11_withdraws_12 ?_
  refine lv_if_ge (tgt := 20) hx hb dX11_withdraws_13 (by decide) (fun c13 => ?_) (fun c13 => ?_)
  · have h := h.1 c13
    refine lv_iconst (v := 0) hx hb dX11_withdraws_20 (by decide) ?_
    exact e_z X hW rfl h dX11_withdraws_21
  · have h := h.2 c13
    refine lv_iconst (v := 1) hx hb dX11_withdraws_16 (by decide) ?_
    refine lv_goto (tgt := 21) hx hb dX11_withdraws_17 (by decide) ?_
    exact e_z X hW rfl h dX11_withdraws_21
def wX11_word_b77 (g : GS) (ko42 : Int32 → Int32 → Nat → Int32 → Int32 → MI → MJ → Prop) (Q : Int32 → MI → MJ → Prop) (v2 : Int32) (v3 : Int32) (v4 : Nat) (v5 : Int32) (v6 : Int32) (I : MI) (J : MJ) : Prop :=
  ko42 v2 v3 v4 v5 (v6 + 1) I J
set_option maxHeartbeats 4000000 in
set_option maxRecDepth 100000 in
theorem bX11_word_77 {p : Program} {l : Launch} {e : Env} {s : State} {m : MethodId} {args : Array Value} {below : List Frame} {meth : Method} {c : Code} {E : WE} {Q : Int32 → MI → MJ → Prop} {ko42 : Int32 → Int32 → Nat → Int32 → Int32 → MI → MJ → Prop} (X : Cx E cX11_word 7 RX11 ((Option.some FieldType.int)) p s m args c meth)
    (hk42 : ∀ (v2 : Int32) (v3 : Int32) (v4 : Nat) (v5 : Int32) (v6 : Int32) (I : MI) (J : MJ) (H : Heap) (locs : List Loc) (ls : Array Slot), v4 < (wg E).2.2 → ko42 v2 v3 v4 v5 v6 I J → Wd E I J s H locs → lv_has ls 7 [(0, .ref (wa E 0 0)), (2, .int v2), (3, .int v3), (4, .ref (wa E 43 v4)), (5, .int v5), (6, .int v6)] → W p l e (rmO 6 142) s m args below meth c H locs 0 0 (MQ below (QI E Q) args s 0 0 (AA E)) (F0 m 42 ls [])) : ∀ (v2 : Int32) (v3 : Int32) (v4 : Nat) (v5 : Int32) (v6 : Int32) (I : MI) (J : MJ) (H : Heap) (locs : List Loc) (ls : Array Slot), v4 < (wg E).2.2 → wX11_word_b77 (wg E) ko42 Q v2 v3 v4 v5 v6 I J → Wd E I J s H locs → lv_has ls 7 [(0, .ref (wa E 0 0)), (2, .int v2), (3, .int v3), (4, .ref (wa E 43 v4)), (5, .int v5), (6, .int v6)] → W p l e (rmO 6 142) s m args below meth c H locs 0 0 (MQ below (QI E Q) args s 0 0 (AA E)) (F0 m 77 ls []) := by
  have hx := X.1.1
  have hb := X.1.2.1
  intro v2 v3 v4 v5 v6 I J H locs ls hp_v4 h hW hl
  refine lv_iinc (v := v6 + 1) (lv' := [(6, .int (v6 + 1)), (0, .ref (wa E 0 0)), (2, .int v2), (3, .int v3), (4, .ref (wa E 43 v4)), (5, .int v5)]) hx hb dX11_word_77 hl (k := 5) rfl rfl (by decide) rfl (fun ls hl => ?_)
  refine lv_goto (tgt := 42) hx hb dX11_word_80 (by decide) ?_
  exact hk42 v2 v3 v4 v5 (v6 + 1) _ _ _ _ _ hp_v4 h hW (lv_sub hl [1, 2, 3, 4, 5, 0] rfl)
def wX11_word_b42 (g : GS) (Q : Int32 → MI → MJ → Prop) : Nat → Int32 → Int32 → Nat → Int32 → Int32 → MI → MJ → Prop
  | 0, _, _, _, _, _, _, _ => False
  | n + 1, v2, v3, v4, v5, v6, I, J => (((I 0 0 11) ≤ v6 → Q v5 I J) ∧ (¬ (I 0 0 11) ≤ v6 → wX11_inWays g v4 v6 v2 I J (fun r57 I57 J57 => wX11_withdraws g r57 v2 v3 I57 J57 (fun r62 I62 J62 => ((r62 = 0 → wX11_word_b77 g (fun v2 v3 v4 v5 v6 I J => wX11_word_b42 g Q n v2 v3 v4 v5 v6 I J) Q v2 v3 v4 v5 v6 I62 J62) ∧ (¬ r62 = 0 → wX11_word_b77 g (fun v2 v3 v4 v5 v6 I J => wX11_word_b42 g Q n v2 v3 v4 v5 v6 I J) Q v2 v3 v4 (v5 ||| (1 <<< (v6 &&& 31))) v6 I62 J62))))))
set_option maxHeartbeats 4000000 in
set_option maxRecDepth 100000 in
theorem bX11_word_42 {p : Program} {l : Launch} {e : Env} {s : State} {m : MethodId} {args : Array Value} {below : List Frame} {meth : Method} {c : Code} {E : WE} {Q : Int32 → MI → MJ → Prop} (X : Cx E cX11_word 7 RX11 ((Option.some FieldType.int)) p s m args c meth) (n : Nat) : ∀ (v2 : Int32) (v3 : Int32) (v4 : Nat) (v5 : Int32) (v6 : Int32) (I : MI) (J : MJ) (H : Heap) (locs : List Loc) (ls : Array Slot), v4 < (wg E).2.2 → wX11_word_b42 (wg E) Q n v2 v3 v4 v5 v6 I J → Wd E I J s H locs → lv_has ls 7 [(0, .ref (wa E 0 0)), (2, .int v2), (3, .int v3), (4, .ref (wa E 43 v4)), (5, .int v5), (6, .int v6)] → W p l e (rmO 6 142) s m args below meth c H locs 0 0 (MQ below (QI E Q) args s 0 0 (AA E)) (F0 m 42 ls []) := by
  have hx := X.1.1
  have hb := X.1.2.1
  induction n with
  | zero => intro v2 v3 v4 v5 v6 I J H locs ls hp_v4 h hW hl; exact h.elim
  | succ n ih =>
    intro v2 v3 v4 v5 v6 I J H locs ls hp_v4 h hW hl
    refine lv_iload hx hb dX11_word_42 (lv_at hl 5 rfl) ?_
    refine lv_aload_n hx hb dX11_word_44 rfl (lv_at hl 0 rfl) ?_
    refine r_get X hW 11 (okS hW sc0_0) rfl rfl inX11 (Nat.le_of_ble_eq_true rfl) tw143 rfl dX11_word_45 ?_
    refine lv_icmp_ge (tgt := 83) hx hb dX11_word_48 (by decide) (fun c48 => ?_) (fun c48 => ?_)
    · have h := h.1 c48
      refine lv_iload hx hb dX11_word_83 (lv_at hl 4 rfl) ?_
      exact e_i X hW h dX11_word_85
    · have h := h.2 c48
      refine lv_aload_n hx hb dX11_word_51 rfl (lv_at hl 0 rfl) ?_
      refine lv_aload hx hb dX11_word_52 (lv_at hl 3 rfl) ?_
      refine lv_iload hx hb dX11_word_54 (lv_at hl 5 rfl) ?_
      refine lv_iload_n hx hb dX11_word_56 rfl (lv_at hl 1 rfl) ?_
      refine af_l hW (rn_V X hW (As := [.ref (wa E 43 v4), .int v6, .int v2]) (rest := []) (okS hW sc0_0) rfl rfl (kX11_inWays hp_v4 h) mbX11_inWays tw564 tw566 tp12 rfl hl.1 (Nat.le_of_ble_eq_true rfl) ⟨(Nat.le_of_ble_eq_true rfl), (Nat.le_of_ble_eq_true rfl)⟩ dX11_word_57) (fun r57 I57 J57 H locs h hW => ?_)
      refine lv_iload_n hx hb dX11_word_60 rfl (lv_at hl 1 rfl) ?_
      refine lv_iload_n hx hb dX11_word_61 rfl (lv_at hl 2 rfl) ?_
      refine af_i hW (rn_S X hW (As := [.long r57, .int v2, .int v3]) (rest := []) (kX11_withdraws h) mbX11_withdraws tw650 tw651 rfl hl.1 (Nat.le_of_ble_eq_true rfl) ⟨(Nat.le_of_ble_eq_true rfl), (Nat.le_of_ble_eq_true rfl)⟩ dX11_word_62) (fun r62 I62 J62 H locs h hW => ?_)
      refine lv_if_eq (tgt := 77) hx hb dX11_word_65 (by decide) (fun c65 => ?_) (fun c65 => ?_)
      · have h := h.1 c65
        exact bX11_word_77 X ih v2 v3 v4 v5 v6 _ _ _ _ _ hp_v4 h hW (lv_sub hl [0, 1, 2, 3, 4, 5] rfl)
      · have h := h.2 c65
        refine lv_iload hx hb dX11_word_68 (lv_at hl 4 rfl) ?_
        refine lv_iconst (v := 1) hx hb dX11_word_70 (by decide) ?_
        refine lv_iload hx hb dX11_word_71 (lv_at hl 5 rfl) ?_
        refine lv_ishl hx hb dX11_word_73 ?_
        refine lv_ior hx hb dX11_word_74 ?_
        refine lv_istore (lv' := [(5, .int (v5 ||| (1 <<< (v6 &&& 31)))), (0, .ref (wa E 0 0)), (2, .int v2), (3, .int v3), (4, .ref (wa E 43 v4)), (6, .int v6)]) hx hb dX11_word_75 hl (by decide) rfl (fun ls hl => ?_)
        exact bX11_word_77 X ih v2 v3 v4 (v5 ||| (1 <<< (v6 &&& 31))) v6 _ _ _ _ _ hp_v4 h hW (lv_sub hl [1, 2, 3, 4, 0, 5] rfl)
def wX11_word (g : GS) (a1 : Int32) (a2 : Int32) (a3 : Int32) (I : MI) (J : MJ) (Q : Int32 → MI → MJ → Prop) : Prop :=
  wX11_ruleAt g a1 I J (fun o2 I2 J2 => (o2 = none → Q ((-101)) I2 J2) ∧ (∀ r2, o2 = some r2 → wX11_areComers g a2 I2 J2 (fun r17 I17 J17 => ((r17 = 0 → Q ((-102)) I17 J17) ∧ (¬ r17 = 0 → wX11_within g a3 0 10 I17 J17 (fun r27 I27 J27 => ((¬ r27 = 0 → ∃ n42, wX11_word_b42 g Q n42 a2 a3 r2 0 0 I27 J27) ∧ (r27 = 0 → Q ((-102)) I27 J27))))))))
theorem mbX11_word : MB yX11_word cX11_word 7 ((Option.some FieldType.int)) 3 := ⟨tw649, tw1, ⟨by decide, by decide⟩, by decide +kernel, by decide +kernel⟩
set_option maxHeartbeats 4000000 in
set_option maxRecDepth 100000 in
theorem kX11_word {l : Launch} {E : WE} {a1 : Int32} {a2 : Int32} {a3 : Int32} {I : MI} {J : MJ} {Q : Int32 → MI → MJ → Prop} (h : wX11_word (wg E) a1 a2 a3 I J Q) : Met l yX11_word (wsM yX11_word cX11_word 7 ((Option.some FieldType.int))) (rmO 6 142) (va_Pc [.ref (wa E 0 0), .int a1, .int a2, .int a3] (Wp E I J)) (QI E Q) 0 0 (AA E) := by
  refine m_entry mbX11_word (Nat.le_of_ble_eq_true rfl) ?_
  intro p e s m args below meth c X ls hW hl
  have X : Cx E cX11_word 7 RX11 ((Option.some FieldType.int)) p s m args c meth := X
  have hx := X.1.1
  have hb := X.1.2.1
  have hl : lv_has ls 7 [(0, .ref (wa E 0 0)), (1, .int a1), (2, .int a2), (3, .int a3)] := hl
  refine lv_aload_n hx hb dX11_word_0 rfl (lv_at hl 0 rfl) ?_
  refine lv_iload_n hx hb dX11_word_1 rfl (lv_at hl 1 rfl) ?_
  refine af_r hW (rn_V X hW (As := [.int a1]) (rest := []) (okS hW sc0_0) rfl rfl (kX11_ruleAt h) mbX11_ruleAt tw258 tw260 tp1 rfl hl.1 (Nat.le_of_ble_eq_true rfl) ⟨(Nat.le_of_ble_eq_true rfl), (Nat.le_of_ble_eq_true rfl)⟩ dX11_word_2) (fun I2 J2 H locs h hW => ?_) (fun r2 I2 J2 H locs c2 h hW => ?_)
  · have h := h.1 rfl
    refine lv_astoreN (lv' := [(4, .null), (0, .ref (wa E 0 0)), (1, .int a1), (2, .int a2), (3, .int a3)]) hx hb dX11_word_5 hl (by decide) rfl (fun ls hl => ?_)
    refine lv_aloadN hx hb dX11_word_7 (lv_at hl 0 rfl) ?_
    refine lv_ifnonnullN hx hb dX11_word_9 ?_
    refine lv_bipush (v := (-101)) hx hb dX11_word_12 (by decide) ?_
    exact e_i X hW h dX11_word_14
  · have h := h.2 r2 rfl
    refine lv_astore (lv' := [(4, .ref (wa E 43 r2)), (0, .ref (wa E 0 0)), (1, .int a1), (2, .int a2), (3, .int a3)]) hx hb dX11_word_5 hl (by decide) rfl (fun ls hl => ?_)
    refine lv_aload hx hb dX11_word_7 (lv_at hl 0 rfl) ?_
    refine lv_ifnonnull (tgt := 15) hx hb dX11_word_9 (by decide) ?_
    refine lv_aload_n hx hb dX11_word_15 rfl (lv_at hl 1 rfl) ?_
    refine lv_iload_n hx hb dX11_word_16 rfl (lv_at hl 3 rfl) ?_
    refine af_i hW (rn_V X hW (As := [.int a2]) (rest := []) (okS hW sc0_0) rfl rfl (kX11_areComers h) mbX11_areComers tw469 tw471 tp8 rfl hl.1 (Nat.le_of_ble_eq_true rfl) ⟨(Nat.le_of_ble_eq_true rfl), (Nat.le_of_ble_eq_true rfl)⟩ dX11_word_17) (fun r17 I17 J17 H locs h hW => ?_)
    refine lv_if_eq (tgt := 33) hx hb dX11_word_20 (by decide) (fun c20 => ?_) (fun c20 => ?_)
    · have h := h.1 c20
      refine lv_bipush (v := (-102)) hx hb dX11_word_33 (by decide) ?_
      exact e_i X hW h dX11_word_35
    · have h := h.2 c20
      refine lv_iload_n hx hb dX11_word_23 rfl (lv_at hl 4 rfl) ?_
      refine lv_iconst (v := 0) hx hb dX11_word_24 (by decide) ?_
      refine lv_bipush (v := 10) hx hb dX11_word_25 (by decide) ?_
      refine af_i hW (rn_S X hW (As := [.int a3, .int 0, .int 10]) (rest := []) (kX11_within h) mbX11_within tw262 tw207 rfl hl.1 (Nat.le_of_ble_eq_true rfl) ⟨(Nat.le_of_ble_eq_true rfl), (Nat.le_of_ble_eq_true rfl)⟩ dX11_word_27) (fun r27 I27 J27 H locs h hW => ?_)
      refine lv_if_ne (tgt := 36) hx hb dX11_word_30 (by decide) (fun c30 => ?_) (fun c30 => ?_)
      · have h := h.1 c30
        refine lv_iconst (v := 0) hx hb dX11_word_36 (by decide) ?_
        refine lv_istore (lv' := [(5, .int 0), (4, .ref (wa E 43 r2)), (0, .ref (wa E 0 0)), (1, .int a1), (2, .int a2), (3, .int a3)]) hx hb dX11_word_37 hl (by decide) rfl (fun ls hl => ?_)
        refine lv_iconst (v := 0) hx hb dX11_word_39 (by decide) ?_
        refine lv_istore (lv' := [(6, .int 0), (5, .int 0), (4, .ref (wa E 43 r2)), (0, .ref (wa E 0 0)), (1, .int a1), (2, .int a2), (3, .int a3)]) hx hb dX11_word_40 hl (by decide) rfl (fun ls hl => ?_)
        obtain ⟨n42, h⟩ := h
        exact bX11_word_42 X n42 a2 a3 r2 0 0 _ _ _ _ _ c2 h hW (lv_sub hl [3, 5, 6, 2, 1, 0] rfl)
      · have h := h.2 c30
        refine lv_bipush (v := (-102)) hx hb dX11_word_33 (by decide) ?_
        exact e_i X hW h dX11_word_35
def wX11_seen_b94 (g : GS) (ko52 : Int32 → Int32 → Int32 → Nat → Int64 → Int32 → MI → MJ → Prop) (Q : Int64 → MI → MJ → Prop) (v2 : Int32) (v3 : Int32) (v4 : Int32) (v5 : Nat) (v6 : Int64) (v8 : Int32) (I : MI) (J : MJ) : Prop :=
  ko52 v2 v3 v4 v5 v6 (v8 + 1) I J
set_option maxHeartbeats 4000000 in
set_option maxRecDepth 100000 in
theorem bX11_seen_94 {p : Program} {l : Launch} {e : Env} {s : State} {m : MethodId} {args : Array Value} {below : List Frame} {meth : Method} {c : Code} {E : WE} {Q : Int64 → MI → MJ → Prop} {ko52 : Int32 → Int32 → Int32 → Nat → Int64 → Int32 → MI → MJ → Prop} (X : Cx E cX11_seen 11 RX11 ((Option.some FieldType.long)) p s m args c meth)
    (hk52 : ∀ (v2 : Int32) (v3 : Int32) (v4 : Int32) (v5 : Nat) (v6 : Int64) (v8 : Int32) (I : MI) (J : MJ) (H : Heap) (locs : List Loc) (ls : Array Slot), v5 < (wg E).2.2 → ko52 v2 v3 v4 v5 v6 v8 I J → Wd E I J s H locs → lv_has ls 11 [(0, .ref (wa E 0 0)), (2, .int v2), (3, .int v3), (4, .int v4), (5, .ref (wa E 43 v5)), (6, .long v6), (8, .int v8)] → W p l e (rmO 6 142) s m args below meth c H locs 0 0 (MQ below (QL E Q) args s 0 0 (AA E)) (F0 m 52 ls [])) : ∀ (v2 : Int32) (v3 : Int32) (v4 : Int32) (v5 : Nat) (v6 : Int64) (v8 : Int32) (I : MI) (J : MJ) (H : Heap) (locs : List Loc) (ls : Array Slot), v5 < (wg E).2.2 → wX11_seen_b94 (wg E) ko52 Q v2 v3 v4 v5 v6 v8 I J → Wd E I J s H locs → lv_has ls 11 [(0, .ref (wa E 0 0)), (2, .int v2), (3, .int v3), (4, .int v4), (5, .ref (wa E 43 v5)), (6, .long v6), (8, .int v8)] → W p l e (rmO 6 142) s m args below meth c H locs 0 0 (MQ below (QL E Q) args s 0 0 (AA E)) (F0 m 94 ls []) := by
  have hx := X.1.1
  have hb := X.1.2.1
  intro v2 v3 v4 v5 v6 v8 I J H locs ls hp_v5 h hW hl
  refine lv_iinc (v := v8 + 1) (lv' := [(8, .int (v8 + 1)), (0, .ref (wa E 0 0)), (2, .int v2), (3, .int v3), (4, .int v4), (5, .ref (wa E 43 v5)), (6, .long v6)]) hx hb dX11_seen_94 hl (k := 6) rfl rfl (by decide) rfl (fun ls hl => ?_)
  refine lv_goto (tgt := 52) hx hb dX11_seen_97 (by decide) ?_
  exact hk52 v2 v3 v4 v5 v6 (v8 + 1) _ _ _ _ _ hp_v5 h hW (lv_sub hl [1, 2, 3, 4, 5, 6, 0] rfl)
def wX11_seen_b52 (g : GS) (Q : Int64 → MI → MJ → Prop) : Nat → Int32 → Int32 → Int32 → Nat → Int64 → Int32 → MI → MJ → Prop
  | 0, _, _, _, _, _, _, _, _ => False
  | n + 1, v2, v3, v4, v5, v6, v8, I, J => (((I 0 0 11) ≤ v8 → wX11_squaredTens g v2 I J (fun r103 I103 J103 => wX11_lowest g v6 r103 v4 I103 J103 (fun r108 I108 J108 => Q r108 I108 J108))) ∧ (¬ (I 0 0 11) ≤ v8 → wX11_inWays g v5 v8 v2 I J (fun r67 I67 J67 => wX11_withdraws g r67 v2 v3 I67 J67 (fun r76 I76 J76 => ((¬ r76 = 0 → wX11_seen_b94 g (fun v2 v3 v4 v5 v6 v8 I J => wX11_seen_b52 g Q n v2 v3 v4 v5 v6 v8 I J) Q v2 v3 v4 v5 v6 v8 I76 J76) ∧ (r76 = 0 → wX11_squaredTens g v2 I76 J76 (fun r85 I85 J85 => wX11_seen_b94 g (fun v2 v3 v4 v5 v6 v8 I J => wX11_seen_b52 g Q n v2 v3 v4 v5 v6 v8 I J) Q v2 v3 v4 v5 (v6 + (r85 - r67)) v8 I85 J85)))))))
set_option maxHeartbeats 4000000 in
set_option maxRecDepth 100000 in
theorem bX11_seen_52 {p : Program} {l : Launch} {e : Env} {s : State} {m : MethodId} {args : Array Value} {below : List Frame} {meth : Method} {c : Code} {E : WE} {Q : Int64 → MI → MJ → Prop} (X : Cx E cX11_seen 11 RX11 ((Option.some FieldType.long)) p s m args c meth) (n : Nat) : ∀ (v2 : Int32) (v3 : Int32) (v4 : Int32) (v5 : Nat) (v6 : Int64) (v8 : Int32) (I : MI) (J : MJ) (H : Heap) (locs : List Loc) (ls : Array Slot), v5 < (wg E).2.2 → wX11_seen_b52 (wg E) Q n v2 v3 v4 v5 v6 v8 I J → Wd E I J s H locs → lv_has ls 11 [(0, .ref (wa E 0 0)), (2, .int v2), (3, .int v3), (4, .int v4), (5, .ref (wa E 43 v5)), (6, .long v6), (8, .int v8)] → W p l e (rmO 6 142) s m args below meth c H locs 0 0 (MQ below (QL E Q) args s 0 0 (AA E)) (F0 m 52 ls []) := by
  have hx := X.1.1
  have hb := X.1.2.1
  induction n with
  | zero => intro v2 v3 v4 v5 v6 v8 I J H locs ls hp_v5 h hW hl; exact h.elim
  | succ n ih =>
    intro v2 v3 v4 v5 v6 v8 I J H locs ls hp_v5 h hW hl
    refine lv_iload hx hb dX11_seen_52 (lv_at hl 6 rfl) ?_
    refine lv_aload_n hx hb dX11_seen_54 rfl (lv_at hl 0 rfl) ?_
    refine r_get X hW 11 (okS hW sc0_0) rfl rfl inX11 (Nat.le_of_ble_eq_true rfl) tw143 rfl dX11_seen_55 ?_
    refine lv_icmp_ge (tgt := 100) hx hb dX11_seen_58 (by decide) (fun c58 => ?_) (fun c58 => ?_)
    · have h := h.1 c58
      refine lv_lload hx hb dX11_seen_100 (lv_at hl 5 rfl) ?_
      refine lv_iload_n hx hb dX11_seen_102 rfl (lv_at hl 1 rfl) ?_
      refine af_l hW (rn_S X hW (As := [.int v2]) (rest := [.long v6]) (kX11_squaredTens h) mbX11_squaredTens tw576 tw577 rfl hl.1 (Nat.le_of_ble_eq_true rfl) ⟨(Nat.le_of_ble_eq_true rfl), (Nat.le_of_ble_eq_true rfl)⟩ dX11_seen_103) (fun r103 I103 J103 H locs h hW => ?_)
      refine lv_iload hx hb dX11_seen_106 (lv_at hl 3 rfl) ?_
      refine af_l hW (rn_S X hW (As := [.long v6, .long r103, .int v4]) (rest := []) (kX11_lowest h) mbX11_lowest tw551 tw552 rfl hl.1 (Nat.le_of_ble_eq_true rfl) ⟨(Nat.le_of_ble_eq_true rfl), (Nat.le_of_ble_eq_true rfl)⟩ dX11_seen_108) (fun r108 I108 J108 H locs h hW => ?_)
      exact e_l X hW h dX11_seen_111
    · have h := h.2 c58
      refine lv_aload_n hx hb dX11_seen_61 rfl (lv_at hl 0 rfl) ?_
      refine lv_aload hx hb dX11_seen_62 (lv_at hl 4 rfl) ?_
      refine lv_iload hx hb dX11_seen_64 (lv_at hl 6 rfl) ?_
      refine lv_iload_n hx hb dX11_seen_66 rfl (lv_at hl 1 rfl) ?_
      refine af_l hW (rn_V X hW (As := [.ref (wa E 43 v5), .int v8, .int v2]) (rest := []) (okS hW sc0_0) rfl rfl (kX11_inWays hp_v5 h) mbX11_inWays tw564 tw566 tp12 rfl hl.1 (Nat.le_of_ble_eq_true rfl) ⟨(Nat.le_of_ble_eq_true rfl), (Nat.le_of_ble_eq_true rfl)⟩ dX11_seen_67) (fun r67 I67 J67 H locs h hW => ?_)
      refine lv_lstore (lv' := [(9, .long r67), (0, .ref (wa E 0 0)), (2, .int v2), (3, .int v3), (4, .int v4), (5, .ref (wa E 43 v5)), (6, .long v6), (8, .int v8)]) hx hb dX11_seen_70 hl (by decide) rfl (fun ls hl => ?_)
      refine lv_lload hx hb dX11_seen_72 (lv_at hl 0 rfl) ?_
      refine lv_iload_n hx hb dX11_seen_74 rfl (lv_at hl 2 rfl) ?_
      refine lv_iload_n hx hb dX11_seen_75 rfl (lv_at hl 3 rfl) ?_
      refine af_i hW (rn_S X hW (As := [.long r67, .int v2, .int v3]) (rest := []) (kX11_withdraws h) mbX11_withdraws tw650 tw651 rfl hl.1 (Nat.le_of_ble_eq_true rfl) ⟨(Nat.le_of_ble_eq_true rfl), (Nat.le_of_ble_eq_true rfl)⟩ dX11_seen_76) (fun r76 I76 J76 H locs h hW => ?_)
      refine lv_if_ne (tgt := 94) hx hb dX11_seen_79 (by decide) (fun c79 => ?_) (fun c79 => ?_)
      · have h := h.1 c79
        exact bX11_seen_94 X ih v2 v3 v4 v5 v6 v8 _ _ _ _ _ hp_v5 h hW (lv_sub hl [1, 2, 3, 4, 5, 6, 7] rfl)
      · have h := h.2 c79
        refine lv_lload hx hb dX11_seen_82 (lv_at hl 6 rfl) ?_
        refine lv_iload_n hx hb dX11_seen_84 rfl (lv_at hl 2 rfl) ?_
        refine af_l hW (rn_S X hW (As := [.int v2]) (rest := [.long v6]) (kX11_squaredTens h) mbX11_squaredTens tw576 tw577 rfl hl.1 (Nat.le_of_ble_eq_true rfl) ⟨(Nat.le_of_ble_eq_true rfl), (Nat.le_of_ble_eq_true rfl)⟩ dX11_seen_85) (fun r85 I85 J85 H locs h hW => ?_)
        refine lv_lload hx hb dX11_seen_88 (lv_at hl 0 rfl) ?_
        refine lv_lsub hx hb dX11_seen_90 ?_
        refine lv_ladd hx hb dX11_seen_91 ?_
        refine lv_lstore (lv' := [(6, .long (v6 + (r85 - r67))), (9, .long r67), (0, .ref (wa E 0 0)), (2, .int v2), (3, .int v3), (4, .int v4), (5, .ref (wa E 43 v5)), (8, .int v8)]) hx hb dX11_seen_92 hl (by decide) rfl (fun ls hl => ?_)
        exact bX11_seen_94 X ih v2 v3 v4 v5 (v6 + (r85 - r67)) v8 _ _ _ _ _ hp_v5 h hW (lv_sub hl [2, 3, 4, 5, 6, 0, 7] rfl)
def wX11_seen (g : GS) (a1 : Int32) (a2 : Int32) (a3 : Int32) (a4 : Int32) (I : MI) (J : MJ) (Q : Int64 → MI → MJ → Prop) : Prop :=
  wX11_ruleAt g a1 I J (fun o2 I2 J2 => (o2 = none → Q ((-101)) I2 J2) ∧ (∀ r2, o2 = some r2 → wX11_areComers g a2 I2 J2 (fun r18 I18 J18 => ((r18 = 0 → Q ((-102)) I18 J18) ∧ (¬ r18 = 0 → wX11_within g a3 0 10 I18 J18 (fun r28 I28 J28 => ((r28 = 0 → Q ((-102)) I28 J28) ∧ (¬ r28 = 0 → wX11_isPart g a4 I28 J28 (fun r36 I36 J36 => ((¬ r36 = 0 → ∃ n52, wX11_seen_b52 g Q n52 a2 a3 a4 r2 0 0 I36 J36) ∧ (r36 = 0 → Q ((-102)) I36 J36)))))))))))
theorem mbX11_seen : MB yX11_seen cX11_seen 11 ((Option.some FieldType.long)) 4 := ⟨tw656, tw1, ⟨by decide, by decide⟩, by decide +kernel, by decide +kernel⟩
set_option maxHeartbeats 4000000 in
set_option maxRecDepth 100000 in
theorem kX11_seen {l : Launch} {E : WE} {a1 : Int32} {a2 : Int32} {a3 : Int32} {a4 : Int32} {I : MI} {J : MJ} {Q : Int64 → MI → MJ → Prop} (h : wX11_seen (wg E) a1 a2 a3 a4 I J Q) : Met l yX11_seen (wsM yX11_seen cX11_seen 11 ((Option.some FieldType.long))) (rmO 6 142) (va_Pc [.ref (wa E 0 0), .int a1, .int a2, .int a3, .int a4] (Wp E I J)) (QL E Q) 0 0 (AA E) := by
  refine m_entry mbX11_seen (Nat.le_of_ble_eq_true rfl) ?_
  intro p e s m args below meth c X ls hW hl
  have X : Cx E cX11_seen 11 RX11 ((Option.some FieldType.long)) p s m args c meth := X
  have hx := X.1.1
  have hb := X.1.2.1
  have hl : lv_has ls 11 [(0, .ref (wa E 0 0)), (1, .int a1), (2, .int a2), (3, .int a3), (4, .int a4)] := hl
  refine lv_aload_n hx hb dX11_seen_0 rfl (lv_at hl 0 rfl) ?_
  refine lv_iload_n hx hb dX11_seen_1 rfl (lv_at hl 1 rfl) ?_
  refine af_r hW (rn_V X hW (As := [.int a1]) (rest := []) (okS hW sc0_0) rfl rfl (kX11_ruleAt h) mbX11_ruleAt tw258 tw260 tp1 rfl hl.1 (Nat.le_of_ble_eq_true rfl) ⟨(Nat.le_of_ble_eq_true rfl), (Nat.le_of_ble_eq_true rfl)⟩ dX11_seen_2) (fun I2 J2 H locs h hW => ?_) (fun r2 I2 J2 H locs c2 h hW => ?_)
  · have h := h.1 rfl
    refine lv_astoreN (lv' := [(5, .null), (0, .ref (wa E 0 0)), (1, .int a1), (2, .int a2), (3, .int a3), (4, .int a4)]) hx hb dX11_seen_5 hl (by decide) rfl (fun ls hl => ?_)
    refine lv_aloadN hx hb dX11_seen_7 (lv_at hl 0 rfl) ?_
    refine lv_ifnonnullN hx hb dX11_seen_9 ?_
    refine lv_ldc2 hx hb X.1.2.2.2.1 (X.1.2.2.2.2 _ tw562) dX11_seen_12 ?_
    exact e_l X hW h dX11_seen_15
  · have h := h.2 r2 rfl
    refine lv_astore (lv' := [(5, .ref (wa E 43 r2)), (0, .ref (wa E 0 0)), (1, .int a1), (2, .int a2), (3, .int a3), (4, .int a4)]) hx hb dX11_seen_5 hl (by decide) rfl (fun ls hl => ?_)
    refine lv_aload hx hb dX11_seen_7 (lv_at hl 0 rfl) ?_
    refine lv_ifnonnull (tgt := 16) hx hb dX11_seen_9 (by decide) ?_
    refine lv_aload_n hx hb dX11_seen_16 rfl (lv_at hl 1 rfl) ?_
    refine lv_iload_n hx hb dX11_seen_17 rfl (lv_at hl 3 rfl) ?_
    refine af_i hW (rn_V X hW (As := [.int a2]) (rest := []) (okS hW sc0_0) rfl rfl (kX11_areComers h) mbX11_areComers tw469 tw471 tp8 rfl hl.1 (Nat.le_of_ble_eq_true rfl) ⟨(Nat.le_of_ble_eq_true rfl), (Nat.le_of_ble_eq_true rfl)⟩ dX11_seen_18) (fun r18 I18 J18 H locs h hW => ?_)
    refine lv_if_eq (tgt := 42) hx hb dX11_seen_21 (by decide) (fun c21 => ?_) (fun c21 => ?_)
    · have h := h.1 c21
      refine lv_ldc2 hx hb X.1.2.2.2.1 (X.1.2.2.2.2 _ tw563) dX11_seen_42 ?_
      exact e_l X hW h dX11_seen_45
    · have h := h.2 c21
      refine lv_iload_n hx hb dX11_seen_24 rfl (lv_at hl 4 rfl) ?_
      refine lv_iconst (v := 0) hx hb dX11_seen_25 (by decide) ?_
      refine lv_bipush (v := 10) hx hb dX11_seen_26 (by decide) ?_
      refine af_i hW (rn_S X hW (As := [.int a3, .int 0, .int 10]) (rest := []) (kX11_within h) mbX11_within tw262 tw207 rfl hl.1 (Nat.le_of_ble_eq_true rfl) ⟨(Nat.le_of_ble_eq_true rfl), (Nat.le_of_ble_eq_true rfl)⟩ dX11_seen_28) (fun r28 I28 J28 H locs h hW => ?_)
      refine lv_if_eq (tgt := 42) hx hb dX11_seen_31 (by decide) (fun c31 => ?_) (fun c31 => ?_)
      · have h := h.1 c31
        refine lv_ldc2 hx hb X.1.2.2.2.1 (X.1.2.2.2.2 _ tw563) dX11_seen_42 ?_
        exact e_l X hW h dX11_seen_45
      · have h := h.2 c31
        refine lv_iload hx hb dX11_seen_34 (lv_at hl 5 rfl) ?_
        refine af_i hW (rn_S X hW (As := [.int a4]) (rest := []) (kX11_isPart h) mbX11_isPart tw527 tw528 rfl hl.1 (Nat.le_of_ble_eq_true rfl) ⟨(Nat.le_of_ble_eq_true rfl), (Nat.le_of_ble_eq_true rfl)⟩ dX11_seen_36) (fun r36 I36 J36 H locs h hW => ?_)
        refine lv_if_ne (tgt := 46) hx hb dX11_seen_39 (by decide) (fun c39 => ?_) (fun c39 => ?_)
        · have h := h.1 c39
          refine lv_lconst (v := 0) hx hb dX11_seen_46 (by decide) ?_
          refine lv_lstore (lv' := [(6, .long 0), (5, .ref (wa E 43 r2)), (0, .ref (wa E 0 0)), (1, .int a1), (2, .int a2), (3, .int a3), (4, .int a4)]) hx hb dX11_seen_47 hl (by decide) rfl (fun ls hl => ?_)
          refine lv_iconst (v := 0) hx hb dX11_seen_49 (by decide) ?_
          refine lv_istore (lv' := [(8, .int 0), (6, .long 0), (5, .ref (wa E 43 r2)), (0, .ref (wa E 0 0)), (1, .int a1), (2, .int a2), (3, .int a3), (4, .int a4)]) hx hb dX11_seen_50 hl (by decide) rfl (fun ls hl => ?_)
          obtain ⟨n52, h⟩ := h
          exact bX11_seen_52 X n52 a2 a3 a4 r2 0 0 _ _ _ _ _ c2 h hW (lv_sub hl [3, 5, 6, 7, 2, 1, 0] rfl)
        · have h := h.2 c39
          refine lv_ldc2 hx hb X.1.2.2.2.1 (X.1.2.2.2.2 _ tw563) dX11_seen_42 ?_
          exact e_l X hW h dX11_seen_45
