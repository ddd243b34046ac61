def wX12_seen_b97 (g : GS) (ko59 : Int32 → Int32 → Int32 → Int32 → Int64 → Int64 → Int32 → MI → MJ → Prop) (Q : Int64 → MI → MJ → Prop) (v1 : Int32) (v2 : Int32) (v3 : Int32) (v4 : Int32) (v5 : Int64) (v9 : Int32) (t0 : Int64) (t1 : Int64) (I : MI) (J : MJ) : Prop :=
  ko59 v1 v2 v3 v4 v5 (t1 + t0) (v9 + 1) I J
set_option maxHeartbeats 4000000 in
set_option maxRecDepth 100000 in
theorem bX12_seen_97 {p : Program} {l : Launch} {e : Env} {s : State} {m : MethodId} {args : Array Value} {below : List Frame} {meth : Method} {c : Code} {E : WE} {Q : Int64 → MI → MJ → Prop} {ko59 : Int32 → Int32 → Int32 → Int32 → Int64 → Int64 → Int32 → MI → MJ → Prop} (X : Cx E cX12_seen 10 RX12 ((Option.some FieldType.long)) p s m args c meth)
    (hk59 : ∀ (v1 : Int32) (v2 : Int32) (v3 : Int32) (v4 : Int32) (v5 : Int64) (v7 : Int64) (v9 : Int32) (I : MI) (J : MJ) (H : Heap) (locs : List Loc) (ls : Array Slot), ko59 v1 v2 v3 v4 v5 v7 v9 I J → Wd E I J s H locs → lv_has ls 10 [(0, .ref (wa E 17 0)), (1, .int v1), (2, .int v2), (3, .int v3), (4, .int v4), (5, .long v5), (7, .long v7), (9, .int v9)] → W p l e (rmO 5 130) s m args below meth c H locs 0 0 (MQ below (QL E Q) args s 0 0 (AA E)) (F0 m 59 ls [])) : ∀ (v1 : Int32) (v2 : Int32) (v3 : Int32) (v4 : Int32) (v5 : Int64) (v9 : Int32) (t0 : Int64) (t1 : Int64) (I : MI) (J : MJ) (H : Heap) (locs : List Loc) (ls : Array Slot), wX12_seen_b97 (wg E) ko59 Q v1 v2 v3 v4 v5 v9 t0 t1 I J → Wd E I J s H locs → lv_has ls 10 [(0, .ref (wa E 17 0)), (1, .int v1), (2, .int v2), (3, .int v3), (4, .int v4), (5, .long v5), (9, .int v9)] → W p l e (rmO 5 130) s m args below meth c H locs 0 0 (MQ below (QL E Q) args s 0 0 (AA E)) (F0 m 97 ls [.long t0, .long t1]) := by
  have hx := X.1.1
  have hb := X.1.2.1
  intro v1 v2 v3 v4 v5 v9 t0 t1 I J H locs ls h hW hl
  refine lv_ladd hx hb dX12_seen_97 ?_
  refine lv_lstore (lv' := [(7, .long (t1 + t0)), (0, .ref (wa E 17 0)), (1, .int v1), (2, .int v2), (3, .int v3), (4, .int v4), (5, .long v5), (9, .int v9)]) hx hb dX12_seen_98 hl (by decide) rfl (fun ls hl => ?_)
  refine lv_iinc (v := v9 + 1) (lv' := [(9, .int (v9 + 1)), (7, .long (t1 + t0)), (0, .ref (wa E 17 0)), (1, .int v1), (2, .int v2), (3, .int v3), (4, .int v4), (5, .long v5)]) hx hb dX12_seen_100 hl (k := 7) rfl rfl (by decide) rfl (fun ls hl => ?_)
  refine lv_goto (tgt := 59) hx hb dX12_seen_103 (by decide) ?_
  exact hk59 v1 v2 v3 v4 v5 (t1 + t0) (v9 + 1) _ _ _ _ _  h hW (lv_sub hl [2, 3, 4, 5, 6, 7, 1, 0] rfl)
def wX12_seen_b59 (g : GS) (Q : Int64 → MI → MJ → Prop) : Nat → Int32 → Int32 → Int32 → Int32 → Int64 → Int64 → Int32 → MI → MJ → Prop
  | 0, _, _, _, _, _, _, _, _, _ => False
  | n + 1, v1, v2, v3, v4, v5, v7, v9, I, J => (((I 17 0 4) ≤ v9 → wX12_lowest g v7 v5 v4 I J (fun r112 I112 J112 => Q r112 I112 J112)) ∧ (¬ (I 17 0 4) ≤ v9 → wX12_withdraws g v1 v9 v2 v3 I J (fun r76 I76 J76 => ((r76 = 0 → wX12_inBy g v1 v9 v2 I76 J76 (fun r93 I93 J93 => wX12_seen_b97 g (fun v1 v2 v3 v4 v5 v7 v9 I J => wX12_seen_b59 g Q n v1 v2 v3 v4 v5 v7 v9 I J) Q v1 v2 v3 v4 v5 v9 (v5 - r93) v7 I93 J93)) ∧ (¬ r76 = 0 → wX12_seen_b97 g (fun v1 v2 v3 v4 v5 v7 v9 I J => wX12_seen_b59 g Q n v1 v2 v3 v4 v5 v7 v9 I J) Q v1 v2 v3 v4 v5 v9 0 v7 I76 J76)))))
set_option maxHeartbeats 4000000 in
set_option maxRecDepth 100000 in
theorem bX12_seen_59 {p : Program} {l : Launch} {e : Env} {s : State} {m : MethodId} {args : Array Value} {below : List Frame} {meth : Method} {c : Code} {E : WE} {Q : Int64 → MI → MJ → Prop} (X : Cx E cX12_seen 10 RX12 ((Option.some FieldType.long)) p s m args c meth) (n : Nat) : ∀ (v1 : Int32) (v2 : Int32) (v3 : Int32) (v4 : Int32) (v5 : Int64) (v7 : Int64) (v9 : Int32) (I : MI) (J : MJ) (H : Heap) (locs : List Loc) (ls : Array Slot), wX12_seen_b59 (wg E) Q n v1 v2 v3 v4 v5 v7 v9 I J → Wd E I J s H locs → lv_has ls 10 [(0, .ref (wa E 17 0)), (1, .int v1), (2, .int v2), (3, .int v3), (4, .int v4), (5, .long v5), (7, .long v7), (9, .int v9)] → W p l e (rmO 5 130) s m args below meth c H locs 0 0 (MQ below (QL E Q) args s 0 0 (AA E)) (F0 m 59 ls []) := by
  have hx := X.1.1
  have hb := X.1.2.1
  induction n with
  | zero => intro v1 v2 v3 v4 v5 v7 v9 I J H locs ls h hW hl; exact h.elim
  | succ n ih =>
    intro v1 v2 v3 v4 v5 v7 v9 I J H locs ls h hW hl
    refine lv_iload hx hb dX12_seen_59 (lv_at hl 7 rfl) ?_
    refine lv_aload_n hx hb dX12_seen_61 rfl (lv_at hl 0 rfl) ?_
    refine r_get X hW 4 (okS hW sc17_0) rfl rfl inX12 (Nat.le_of_ble_eq_true rfl) tw838 rfl dX12_seen_62 ?_
    refine lv_icmp_ge (tgt := 106) hx hb dX12_seen_65 (by decide) (fun c65 => ?_) (fun c65 => ?_)
    · have h := h.1 c65
      refine lv_lload hx hb dX12_seen_106 (lv_at hl 6 rfl) ?_
      refine lv_lload hx hb dX12_seen_108 (lv_at hl 5 rfl) ?_
      refine lv_iload hx hb dX12_seen_110 (lv_at hl 4 rfl) ?_
      refine af_l hW (rn_S X hW (As := [.long v7, .long v5, .int v4]) (rest := []) (kX12_lowest h) mbX12_lowest tw1084 tw1085 rfl hl.1 (Nat.le_of_ble_eq_true rfl) ⟨(Nat.le_of_ble_eq_true rfl), (Nat.le_of_ble_eq_true rfl)⟩ dX12_seen_112) (fun r112 I112 J112 H locs h hW => ?_)
      exact e_l X hW h dX12_seen_115
    · have h := h.2 c65
      refine lv_lload hx hb dX12_seen_68 (lv_at hl 6 rfl) ?_
      refine lv_aload_n hx hb dX12_seen_70 rfl (lv_at hl 0 rfl) ?_
      refine lv_iload_n hx hb dX12_seen_71 rfl (lv_at hl 1 rfl) ?_
      refine lv_iload hx hb dX12_seen_72 (lv_at hl 7 rfl) ?_
      refine lv_iload_n hx hb dX12_seen_74 rfl (lv_at hl 2 rfl) ?_
      refine lv_iload_n hx hb dX12_seen_75 rfl (lv_at hl 3 rfl) ?_
      refine af_i hW (rn_V X hW (As := [.int v1, .int v9, .int v2, .int v3]) (rest := [.long v7]) (okS hW sc17_0) rfl rfl (kX12_withdraws h) mbX12_withdraws tw1147 tw1149 tp46 rfl hl.1 (Nat.le_of_ble_eq_true rfl) ⟨(Nat.le_of_ble_eq_true rfl), (Nat.le_of_ble_eq_true rfl)⟩ dX12_seen_76) (fun r76 I76 J76 H locs h hW => ?_)
      refine lv_if_eq (tgt := 86) hx hb dX12_seen_79 (by decide) (fun c79 => ?_) (fun c79 => ?_)
      · have h := h.1 c79
        refine lv_lload hx hb dX12_seen_86 (lv_at hl 5 rfl) ?_
        refine lv_aload_n hx hb dX12_seen_88 rfl (lv_at hl 0 rfl) ?_
        refine lv_iload_n hx hb dX12_seen_89 rfl (lv_at hl 1 rfl) ?_
        refine lv_iload hx hb dX12_seen_90 (lv_at hl 7 rfl) ?_
        refine lv_iload_n hx hb dX12_seen_92 rfl (lv_at hl 2 rfl) ?_
        refine af_l hW (rn_V X hW (As := [.int v1, .int v9, .int v2]) (rest := [.long v5, .long v7]) (okS hW sc17_0) rfl rfl (kX12_inBy h) mbX12_inBy tw1093 tw1095 tp40 rfl hl.1 (Nat.le_of_ble_eq_true rfl) ⟨(Nat.le_of_ble_eq_true rfl), (Nat.le_of_ble_eq_true rfl)⟩ dX12_seen_93) (fun r93 I93 J93 H locs h hW => ?_)
        refine lv_lsub hx hb dX12_seen_96 ?_
        exact bX12_seen_97 X ih v1 v2 v3 v4 v5 v9 (v5 - r93) v7 _ _ _ _ _  h hW (lv_sub hl [0, 1, 2, 3, 4, 5, 7] rfl)
      · have h := h.2 c79
        refine lv_lconst (v := 0) hx hb dX12_seen_82 (by decide) ?_
        refine lv_goto (tgt := 97) hx hb dX12_seen_83 (by decide) ?_
        exact bX12_seen_97 X ih v1 v2 v3 v4 v5 v9 0 v7 _ _ _ _ _  h hW (lv_sub hl [0, 1, 2, 3, 4, 5, 7] rfl)
def wX12_seen (g : GS) (a1 : Int32) (a2 : Int32) (a3 : Int32) (a4 : Int32) (I : MI) (J : MJ) (Q : Int64 → MI → MJ → Prop) : Prop :=
  wX12_isRule g a1 I J (fun r2 I2 J2 => ((¬ r2 = 0 → wX12_areComers g a2 I2 J2 (fun r14 I14 J14 => ((r14 = 0 → Q ((-102)) I14 J14) ∧ (¬ r14 = 0 → wX12_within g a3 0 10 I14 J14 (fun r24 I24 J24 => ((r24 = 0 → Q ((-102)) I24 J24) ∧ (¬ r24 = 0 → wX12_isPart g a4 I24 J24 (fun r32 I32 J32 => ((¬ r32 = 0 → wX12_ones g a2 I32 J32 (fun r44 I44 J44 => wX12_tens g (2 * r44) I44 J44 (fun r48 I48 J48 => ∃ n59, wX12_seen_b59 g Q n59 a1 a2 a3 a4 r48 0 0 I48 J48))) ∧ (r32 = 0 → Q ((-102)) I32 J32)))))))))) ∧ (r2 = 0 → Q ((-101)) I2 J2)))
theorem mbX12_seen : MB yX12_seen cX12_seen 10 ((Option.some FieldType.long)) 4 := ⟨tw1154, tw7, ⟨by decide, by decide⟩, by decide +kernel, by decide +kernel⟩
set_option maxHeartbeats 4000000 in
set_option maxRecDepth 100000 in
theorem kX12_seen {l : Launch} {E : WE} {a1 : Int32} {a2 : Int32} {a3 : Int32} {a4 : Int32} {I : MI} {J : MJ} {Q : Int64 → MI → MJ → Prop} (h : wX12_seen (wg E) a1 a2 a3 a4 I J Q) : Met l yX12_seen (wsM yX12_seen cX12_seen 10 ((Option.some FieldType.long))) (rmO 5 130) (va_Pc [.ref (wa E 17 0), .int a1, .int a2, .int a3, .int a4] (Wp E I J)) (QL E Q) 0 0 (AA E) := by
  refine m_entry mbX12_seen (Nat.le_of_ble_eq_true rfl) ?_
  intro p e s m args below meth c X ls hW hl
  have X : Cx E cX12_seen 10 RX12 ((Option.some FieldType.long)) p s m args c meth := X
  have hx := X.1.1
  have hb := X.1.2.1
  have hl : lv_has ls 10 [(0, .ref (wa E 17 0)), (1, .int a1), (2, .int a2), (3, .int a3), (4, .int a4)] := hl
  refine lv_aload_n hx hb dX12_seen_0 rfl (lv_at hl 0 rfl) ?_
  refine lv_iload_n hx hb dX12_seen_1 rfl (lv_at hl 1 rfl) ?_
  refine af_i hW (rn_V X hW (As := [.int a1]) (rest := []) (okS hW sc17_0) rfl rfl (kX12_isRule h) mbX12_isRule tw987 tw989 tp28 rfl hl.1 (Nat.le_of_ble_eq_true rfl) ⟨(Nat.le_of_ble_eq_true rfl), (Nat.le_of_ble_eq_true rfl)⟩ dX12_seen_2) (fun r2 I2 J2 H locs h hW => ?_)
  refine lv_if_ne (tgt := 12) hx hb dX12_seen_5 (by decide) (fun c5 => ?_) (fun c5 => ?_)
  · have h := h.1 c5
    refine lv_aload_n hx hb dX12_seen_12 rfl (lv_at hl 0 rfl) ?_
    refine lv_iload_n hx hb dX12_seen_13 rfl (lv_at hl 2 rfl) ?_
    refine af_i hW (rn_V X hW (As := [.int a2]) (rest := []) (okS hW sc17_0) rfl rfl (kX12_areComers h) mbX12_areComers tw1051 tw1053 tp36 rfl hl.1 (Nat.le_of_ble_eq_true rfl) ⟨(Nat.le_of_ble_eq_true rfl), (Nat.le_of_ble_eq_true rfl)⟩ dX12_seen_14) (fun r14 I14 J14 H locs h hW => ?_)
    refine lv_if_eq (tgt := 38) hx hb dX12_seen_17 (by decide) (fun c17 => ?_) (fun c17 => ?_)
    · have h := h.1 c17
      refine lv_ldc2 hx hb X.1.2.2.2.1 (X.1.2.2.2.2 _ tw1092) dX12_seen_38 ?_
      exact e_l X hW h dX12_seen_41
    · have h := h.2 c17
      refine lv_iload_n hx hb dX12_seen_20 rfl (lv_at hl 3 rfl) ?_
      refine lv_iconst (v := 0) hx hb dX12_seen_21 (by decide) ?_
      refine lv_bipush (v := 10) hx hb dX12_seen_22 (by decide) ?_
      refine af_i hW (rn_S X hW (As := [.int a3, .int 0, .int 10]) (rest := []) (kX12_within h) mbX12_within tw969 tw970 rfl hl.1 (Nat.le_of_ble_eq_true rfl) ⟨(Nat.le_of_ble_eq_true rfl), (Nat.le_of_ble_eq_true rfl)⟩ dX12_seen_24) (fun r24 I24 J24 H locs h hW => ?_)
      refine lv_if_eq (tgt := 38) hx hb dX12_seen_27 (by decide) (fun c27 => ?_) (fun c27 => ?_)
      · have h := h.1 c27
        refine lv_ldc2 hx hb X.1.2.2.2.1 (X.1.2.2.2.2 _ tw1092) dX12_seen_38 ?_
        exact e_l X hW h dX12_seen_41
      · have h := h.2 c27
        refine lv_iload hx hb dX12_seen_30 (lv_at hl 4 rfl) ?_
        refine af_i hW (rn_S X hW (As := [.int a4]) (rest := []) (kX12_isPart h) mbX12_isPart tw1073 tw1074 rfl hl.1 (Nat.le_of_ble_eq_true rfl) ⟨(Nat.le_of_ble_eq_true rfl), (Nat.le_of_ble_eq_true rfl)⟩ dX12_seen_32) (fun r32 I32 J32 H locs h hW => ?_)
        refine lv_if_ne (tgt := 42) hx hb dX12_seen_35 (by decide) (fun c35 => ?_) (fun c35 => ?_)
        · have h := h.1 c35
          refine lv_iconst (v := 2) hx hb dX12_seen_42 (by decide) ?_
          refine lv_iload_n hx hb dX12_seen_43 rfl (lv_at hl 2 rfl) ?_
          refine af_i hW (rn_S X hW (As := [.int a2]) (rest := [.int 2]) (kX12_ones h) mbX12_ones tw1058 tw1059 rfl hl.1 (Nat.le_of_ble_eq_true rfl) ⟨(Nat.le_of_ble_eq_true rfl), (Nat.le_of_ble_eq_true rfl)⟩ dX12_seen_44) (fun r44 I44 J44 H locs h hW => ?_)
          refine lv_imul hx hb dX12_seen_47 ?_
          refine af_l hW (rn_S X hW (As := [.int (2 * r44)]) (rest := []) (kX12_tens h) mbX12_tens tw1080 tw1081 rfl hl.1 (Nat.le_of_ble_eq_true rfl) ⟨(Nat.le_of_ble_eq_true rfl), (Nat.le_of_ble_eq_true rfl)⟩ dX12_seen_48) (fun r48 I48 J48 H locs h hW => ?_)
          refine lv_lstore (lv' := [(5, .long r48), (0, .ref (wa E 17 0)), (1, .int a1), (2, .int a2), (3, .int a3), (4, .int a4)]) hx hb dX12_seen_51 hl (by decide) rfl (fun ls hl => ?_)
          refine lv_lconst (v := 0) hx hb dX12_seen_53 (by decide) ?_
          refine lv_lstore (lv' := [(7, .long 0), (5, .long r48), (0, .ref (wa E 17 0)), (1, .int a1), (2, .int a2), (3, .int a3), (4, .int a4)]) hx hb dX12_seen_54 hl (by decide) rfl (fun ls hl => ?_)
          refine lv_iconst (v := 0) hx hb dX12_seen_56 (by decide) ?_
          refine lv_istore (lv' := [(9, .int 0), (7, .long 0), (5, .long r48), (0, .ref (wa E 17 0)), (1, .int a1), (2, .int a2), (3, .int a3), (4, .int a4)]) hx hb dX12_seen_57 hl (by decide) rfl (fun ls hl => ?_)
          obtain ⟨n59, h⟩ := h
          exact bX12_seen_59 X n59 a1 a2 a3 a4 r48 0 0 _ _ _ _ _  h hW (lv_sub hl [3, 4, 5, 6, 7, 2, 1, 0] rfl)
        · have h := h.2 c35
          refine lv_ldc2 hx hb X.1.2.2.2.1 (X.1.2.2.2.2 _ tw1092) dX12_seen_38 ?_
          exact e_l X hW h dX12_seen_41
  · have h := h.2 c5
    refine lv_ldc2 hx hb X.1.2.2.2.1 (X.1.2.2.2.2 _ tw1091) dX12_seen_8 ?_
    exact e_l X hW h dX12_seen_11
def wX12_draw (g : GS) (a1 : Int32) (I : MI) (J : MJ) (Q : Int32 → MI → MJ → Prop) : Prop :=
  ¬ (Int32.toInt64 a1) = 0 ∧ (Q (Int64.toInt32 ((((u3 J 17 0 (vp_updL (J 17 0) 28 (((1103515245 * (J 17 0 28)) + 12345) &&& 2147483647))) 17 0 28) / 65536) - (((u3 J 17 0 (vp_updL (J 17 0) 28 (((1103515245 * (J 17 0 28)) + 12345) &&& 2147483647))) 17 0 28) / 65536) / (Int32.toInt64 a1) * (Int32.toInt64 a1))) I (u3 J 17 0 (vp_updL (J 17 0) 28 (((1103515245 * (J 17 0 28)) + 12345) &&& 2147483647))))
theorem mbX12_draw : MB yX12_draw cX12_draw 2 ((Option.some FieldType.int)) 1 := ⟨tw1166, tw7, ⟨by decide, by decide⟩, by decide +kernel, by decide +kernel⟩
set_option maxHeartbeats 4000000 in
set_option maxRecDepth 100000 in
theorem kX12_draw {l : Launch} {E : WE} {a1 : Int32} {I : MI} {J : MJ} {Q : Int32 → MI → MJ → Prop} (h : wX12_draw (wg E) a1 I J Q) : Met l yX12_draw (wsM yX12_draw cX12_draw 2 ((Option.some FieldType.int))) (rmO 0 0) (va_Pc [.ref (wa E 17 0), .int a1] (Wp E I J)) (QI E Q) 0 0 (AA E) := by
  refine m_entry mbX12_draw (Nat.le_of_ble_eq_true rfl) ?_
  intro p e s m args below meth c X ls hW hl
  have X : Cx E cX12_draw 2 RX12 ((Option.some FieldType.int)) p s m args c meth := X
  have hx := X.1.1
  have hb := X.1.2.1
  have hl : lv_has ls 2 [(0, .ref (wa E 17 0)), (1, .int a1)] := hl
  refine lv_aload_n hx hb dX12_draw_0 rfl (lv_at hl 0 rfl) ?_
  refine lv_ldc2 hx hb X.1.2.2.2.1 (X.1.2.2.2.2 _ tw1167) dX12_draw_1 ?_
  refine lv_aload_n hx hb dX12_draw_4 rfl (lv_at hl 0 rfl) ?_
  refine r_get X hW 28 (okS hW sc17_0) rfl rfl inX12 (Nat.le_of_ble_eq_true rfl) tw862 rfl dX12_draw_5 ?_
  refine lv_lmul hx hb dX12_draw_8 ?_
  refine lv_ldc2 hx hb X.1.2.2.2.1 (X.1.2.2.2.2 _ tw1168) dX12_draw_9 ?_
  refine lv_ladd hx hb dX12_draw_12 ?_
  refine lv_ldc2 hx hb X.1.2.2.2.1 (X.1.2.2.2.2 _ tw1169) dX12_draw_13 ?_
  refine lv_land hx hb dX12_draw_16 ?_
  refine r_putL X hW 28 (okS hW sc17_0) rfl rfl inX12 tyX12 tyX12_ok nmX12 (Nat.le_of_ble_eq_true rfl) tw862 rfl rfl rfl rfl (Nat.le_of_ble_eq_true rfl) rfl dX12_draw_17 (fun H locs hW => ?_)
  refine lv_aload_n hx hb dX12_draw_20 rfl (lv_at hl 0 rfl) ?_
  refine r_get X hW 28 (okS hW sc17_0) rfl rfl inX12 (Nat.le_of_ble_eq_true rfl) tw862 rfl dX12_draw_21 ?_
  refine lv_ldc2 hx hb X.1.2.2.2.1 (X.1.2.2.2.2 _ tw1170) dX12_draw_24 ?_
  refine lv_ldiv hx hb dX12_draw_27 (by decide) ?_
  refine lv_iload_n hx hb dX12_draw_28 rfl (lv_at hl 1 rfl) ?_
  refine lv_i2l hx hb dX12_draw_29 rfl ?_
  refine lv_lrem hx hb dX12_draw_30 h.1 ?_
  have h := h.2
  refine lv_l2i hx hb dX12_draw_31 rfl ?_
  exact e_i X hW h dX12_draw_32
def wX12_goRound_b55 (g : GS) (ko6 : Int32 → Int32 → Int32 → Int32 → Int32 → MI → MJ → Prop) (Q : Int32 → MI → MJ → Prop) (v1 : Int32) (v2 : Int32) (v3 : Int32) (v4 : Int32) (v5 : Int32) (I : MI) (J : MJ) : Prop :=
  ko6 v1 v2 v3 v4 (v5 + 1) I J
set_option maxHeartbeats 4000000 in
set_option maxRecDepth 100000 in
theorem bX12_goRound_55 {p : Program} {l : Launch} {e : Env} {s : State} {m : MethodId} {args : Array Value} {below : List Frame} {meth : Method} {c : Code} {E : WE} {Q : Int32 → MI → MJ → Prop} {ko6 : Int32 → Int32 → Int32 → Int32 → Int32 → MI → MJ → Prop} (X : Cx E cX12_goRound 6 RX12 ((Option.some FieldType.int)) p s m args c meth)
    (hk6 : ∀ (v1 : Int32) (v2 : Int32) (v3 : Int32) (v4 : Int32) (v5 : Int32) (I : MI) (J : MJ) (H : Heap) (locs : List Loc) (ls : Array Slot), ko6 v1 v2 v3 v4 v5 I J → Wd E I J s H locs → lv_has ls 6 [(0, .ref (wa E 17 0)), (1, .int v1), (2, .int v2), (3, .int v3), (4, .int v4), (5, .int v5)] → W p l e (rmO 1 25) s m args below meth c H locs 0 0 (MQ below (QI E Q) args s 0 0 (AA E)) (F0 m 6 ls [])) : ∀ (v1 : Int32) (v2 : Int32) (v3 : Int32) (v4 : Int32) (v5 : Int32) (I : MI) (J : MJ) (H : Heap) (locs : List Loc) (ls : Array Slot), wX12_goRound_b55 (wg E) ko6 Q v1 v2 v3 v4 v5 I J → Wd E I J s H locs → lv_has ls 6 [(0, .ref (wa E 17 0)), (1, .int v1), (2, .int v2), (3, .int v3), (4, .int v4), (5, .int v5)] → W p l e (rmO 1 25) s m args below meth c H locs 0 0 (MQ below (QI E Q) args s 0 0 (AA E)) (F0 m 55 ls []) := by
  have hx := X.1.1
  have hb := X.1.2.1
  intro v1 v2 v3 v4 v5 I J H locs ls h hW hl
  refine lv_iinc (v := v5 + 1) (lv' := [(5, .int (v5 + 1)), (0, .ref (wa E 17 0)), (1, .int v1), (2, .int v2), (3, .int v3), (4, .int v4)]) hx hb dX12_goRound_55 hl (k := 5) rfl rfl (by decide) rfl (fun ls hl => ?_)
  refine lv_goto (tgt := 6) hx hb dX12_goRound_58 (by decide) ?_
  exact hk6 v1 v2 v3 v4 (v5 + 1) _ _ _ _ _  h hW (lv_sub hl [1, 2, 3, 4, 5, 0] rfl)
def wX12_goRound_b52 (g : GS) (ko6 : Int32 → Int32 → Int32 → Int32 → Int32 → MI → MJ → Prop) (Q : Int32 → MI → MJ → Prop) (v1 : Int32) (v2 : Int32) (v3 : Int32) (v5 : Int32) (t0 : Int32) (t1 : Int32) (I : MI) (J : MJ) : Prop :=
  wX12_goRound_b55 g ko6 Q v1 v2 v3 (t1 + t0) v5 I J
set_option maxHeartbeats 4000000 in
set_option maxRecDepth 100000 in
theorem bX12_goRound_52 {p : Program} {l : Launch} {e : Env} {s : State} {m : MethodId} {args : Array Value} {below : List Frame} {meth : Method} {c : Code} {E : WE} {Q : Int32 → MI → MJ → Prop} {ko6 : Int32 → Int32 → Int32 → Int32 → Int32 → MI → MJ → Prop} (X : Cx E cX12_goRound 6 RX12 ((Option.some FieldType.int)) p s m args c meth)
    (hk6 : ∀ (v1 : Int32) (v2 : Int32) (v3 : Int32) (v4 : Int32) (v5 : Int32) (I : MI) (J : MJ) (H : Heap) (locs : List Loc) (ls : Array Slot), ko6 v1 v2 v3 v4 v5 I J → Wd E I J s H locs → lv_has ls 6 [(0, .ref (wa E 17 0)), (1, .int v1), (2, .int v2), (3, .int v3), (4, .int v4), (5, .int v5)] → W p l e (rmO 1 25) s m args below meth c H locs 0 0 (MQ below (QI E Q) args s 0 0 (AA E)) (F0 m 6 ls [])) : ∀ (v1 : Int32) (v2 : Int32) (v3 : Int32) (v5 : Int32) (t0 : Int32) (t1 : Int32) (I : MI) (J : MJ) (H : Heap) (locs : List Loc) (ls : Array Slot), wX12_goRound_b52 (wg E) ko6 Q v1 v2 v3 v5 t0 t1 I J → Wd E I J s H locs → lv_has ls 6 [(0, .ref (wa E 17 0)), (1, .int v1), (2, .int v2), (3, .int v3), (5, .int v5)] → W p l e (rmO 1 25) s m args below meth c H locs 0 0 (MQ below (QI E Q) args s 0 0 (AA E)) (F0 m 52 ls [.int t0, .int t1]) := by
  have hx := X.1.1
  have hb := X.1.2.1
  intro v1 v2 v3 v5 t0 t1 I J H locs ls h hW hl
  refine lv_iadd hx hb dX12_goRound_52 ?_
  refine lv_istore (lv' := [(4, .int (t1 + t0)), (0, .ref (wa E 17 0)), (1, .int v1), (2, .int v2), (3, .int v3), (5, .int v5)]) hx hb dX12_goRound_53 hl (by decide) rfl (fun ls hl => ?_)
  exact bX12_goRound_55 X hk6 v1 v2 v3 (t1 + t0) v5 _ _ _ _ _  h hW (lv_sub hl [1, 2, 3, 4, 0, 5] rfl)
def wX12_goRound_b6 (g : GS) (Q : Int32 → MI → MJ → Prop) : Nat → Int32 → Int32 → Int32 → Int32 → Int32 → MI → MJ → Prop
  | 0, _, _, _, _, _, _, _ => False
  | n + 1, v1, v2, v3, v4, v5, I, J => (((I 17 0 0) ≤ v5 → Q v4 I J) ∧ (¬ (I 17 0 0) ≤ v5 → wX12_has g v3 v5 I J (fun r18 I18 J18 => ((r18 = 0 → wX12_goRound_b55 g (fun v1 v2 v3 v4 v5 I J => wX12_goRound_b6 g Q n v1 v2 v3 v4 v5 I J) Q v1 v2 v3 v4 v5 I18 J18) ∧ (¬ r18 = 0 → wX12_draw g 10 I18 J18 (fun r29 I29 J29 => wX12_ones g v3 I29 J29 (fun r36 I36 J36 => wX12_blackBy g v1 v2 r36 v5 I36 J36 (fun r41 I41 J41 => ((r41 ≤ r29 → wX12_goRound_b52 g (fun v1 v2 v3 v4 v5 I J => wX12_goRound_b6 g Q n v1 v2 v3 v4 v5 I J) Q v1 v2 v3 v5 0 v4 I41 J41) ∧ (¬ r41 ≤ r29 → wX12_goRound_b52 g (fun v1 v2 v3 v4 v5 I J => wX12_goRound_b6 g Q n v1 v2 v3 v4 v5 I J) Q v1 v2 v3 v5 1 v4 I41 J41))))))))))
set_option maxHeartbeats 4000000 in
set_option maxRecDepth 100000 in
theorem bX12_goRound_6 {p : Program} {l : Launch} {e : Env} {s : State} {m : MethodId} {args : Array Value} {below : List Frame} {meth : Method} {c : Code} {E : WE} {Q : Int32 → MI → MJ → Prop} (X : Cx E cX12_goRound 6 RX12 ((Option.some FieldType.int)) p s m args c meth) (n : Nat) : ∀ (v1 : Int32) (v2 : Int32) (v3 : Int32) (v4 : Int32) (v5 : Int32) (I : MI) (J : MJ) (H : Heap) (locs : List Loc) (ls : Array Slot), wX12_goRound_b6 (wg E) Q n v1 v2 v3 v4 v5 I J → Wd E I J s H locs → lv_has ls 6 [(0, .ref (wa E 17 0)), (1, .int v1), (2, .int v2), (3, .int v3), (4, .int v4), (5, .int v5)] → W p l e (rmO 1 25) s m args below meth c H locs 0 0 (MQ below (QI E Q) args s 0 0 (AA E)) (F0 m 6 ls []) := by
  have hx := X.1.1
  have hb := X.1.2.1
  induction n with
  | zero => intro v1 v2 v3 v4 v5 I J H locs ls h hW hl; exact h.elim
  | succ n ih =>
    intro v1 v2 v3 v4 v5 I J H locs ls h hW hl
    refine lv_iload hx hb dX12_goRound_6 (lv_at hl 5 rfl) ?_
    refine lv_aload_n hx hb dX12_goRound_8 rfl (lv_at hl 0 rfl) ?_
    refine r_get X hW 0 (okS hW sc17_0) rfl rfl inX12 (Nat.le_of_ble_eq_true rfl) tw834 rfl dX12_goRound_9 ?_
    refine lv_icmp_ge (tgt := 61) hx hb dX12_goRound_12 (by decide) (fun c12 => ?_) (fun c12 => ?_)
    · have h := h.1 c12
      refine lv_iload hx hb dX12_goRound_61 (lv_at hl 4 rfl) ?_
      exact e_i X hW h dX12_goRound_63
    · have h := h.2 c12
      refine lv_iload_n hx hb dX12_goRound_15 rfl (lv_at hl 3 rfl) ?_
      refine lv_iload hx hb dX12_goRound_16 (lv_at hl 5 rfl) ?_
      refine af_i hW (rn_S X hW (As := [.int v3, .int v5]) (rest := []) (kX12_has h) mbX12_has tw1055 tw1056 rfl hl.1 (Nat.le_of_ble_eq_true rfl) ⟨(Nat.le_of_ble_eq_true rfl), (Nat.le_of_ble_eq_true rfl)⟩ dX12_goRound_18) (fun r18 I18 J18 H locs h hW => ?_)
      refine lv_if_eq (tgt := 55) hx hb dX12_goRound_21 (by decide) (fun c21 => ?_) (fun c21 => ?_)
      · have h := h.1 c21
        exact bX12_goRound_55 X ih v1 v2 v3 v4 v5 _ _ _ _ _  h hW (lv_sub hl [0, 1, 2, 3, 4, 5] rfl)
      · have h := h.2 c21
        refine lv_iload hx hb dX12_goRound_24 (lv_at hl 4 rfl) ?_
        refine lv_aload_n hx hb dX12_goRound_26 rfl (lv_at hl 0 rfl) ?_
        refine lv_bipush (v := 10) hx hb dX12_goRound_27 (by decide) ?_
        refine af_i hW (rn_V X hW (As := [.int 10]) (rest := [.int v4]) (okS hW sc17_0) rfl rfl (kX12_draw h) mbX12_draw tw1163 tw1165 tp48 rfl hl.1 (Nat.le_of_ble_eq_true rfl) ⟨(Nat.le_of_ble_eq_true rfl), (Nat.le_of_ble_eq_true rfl)⟩ dX12_goRound_29) (fun r29 I29 J29 H locs h hW => ?_)
        refine lv_aload_n hx hb dX12_goRound_32 rfl (lv_at hl 0 rfl) ?_
        refine lv_iload_n hx hb dX12_goRound_33 rfl (lv_at hl 1 rfl) ?_
        refine lv_iload_n hx hb dX12_goRound_34 rfl (lv_at hl 2 rfl) ?_
        refine lv_iload_n hx hb dX12_goRound_35 rfl (lv_at hl 3 rfl) ?_
        refine af_i hW (rn_S X hW (As := [.int v3]) (rest := [.int v2, .int v1, .ref (wa E 17 0), .int r29, .int v4]) (kX12_ones h) mbX12_ones tw1058 tw1059 rfl hl.1 (Nat.le_of_ble_eq_true rfl) ⟨(Nat.le_of_ble_eq_true rfl), (Nat.le_of_ble_eq_true rfl)⟩ dX12_goRound_36) (fun r36 I36 J36 H locs h hW => ?_)
        refine lv_iload hx hb dX12_goRound_39 (lv_at hl 5 rfl) ?_
        refine af_i hW (rn_V X hW (As := [.int v1, .int v2, .int r36, .int v5]) (rest := [.int r29, .int v4]) (okS hW sc17_0) rfl rfl (kX12_blackBy h) mbX12_blackBy tw1061 tw1063 tp37 rfl hl.1 (Nat.le_of_ble_eq_true rfl) ⟨(Nat.le_of_ble_eq_true rfl), (Nat.le_of_ble_eq_true rfl)⟩ dX12_goRound_41) (fun r41 I41 J41 H locs h hW => ?_)
        refine lv_icmp_ge (tgt := 51) hx hb dX12_goRound_44 (by decide) (fun c44 => ?_) (fun c44 => ?_)
        · have h := h.1 c44
          refine lv_iconst (v := 0) hx hb dX12_goRound_51 (by decide) ?_
          exact bX12_goRound_52 X ih v1 v2 v3 v5 0 v4 _ _ _ _ _  h hW (lv_sub hl [0, 1, 2, 3, 5] rfl)
        · have h := h.2 c44
          refine lv_iconst (v := 1) hx hb dX12_goRound_47 (by decide) ?_
          refine lv_goto (tgt := 52) hx hb dX12_goRound_48 (by decide) ?_
          exact bX12_goRound_52 X ih v1 v2 v3 v5 1 v4 _ _ _ _ _  h hW (lv_sub hl [0, 1, 2, 3, 5] rfl)
def wX12_goRound (g : GS) (a1 : Int32) (a2 : Int32) (a3 : Int32) (I : MI) (J : MJ) (Q : Int32 → MI → MJ → Prop) : Prop :=
  ∃ n6, wX12_goRound_b6 g Q n6 a1 a2 a3 0 0 I J
theorem mbX12_goRound : MB yX12_goRound cX12_goRound 6 ((Option.some FieldType.int)) 3 := ⟨tw1162, tw7, ⟨by decide, by decide⟩, by decide +kernel, by decide +kernel⟩
set_option maxHeartbeats 4000000 in
set_option maxRecDepth 100000 in
theorem kX12_goRound {l : Launch} {E : WE} {a1 : Int32} {a2 : Int32} {a3 : Int32} {I : MI} {J : MJ} {Q : Int32 → MI → MJ → Prop} (h : wX12_goRound (wg E) a1 a2 a3 I J Q) : Met l yX12_goRound (wsM yX12_goRound cX12_goRound 6 ((Option.some FieldType.int))) (rmO 1 25) (va_Pc [.ref (wa E 17 0), .int a1, .int a2, .int a3] (Wp E I J)) (QI E Q) 0 0 (AA E) := by
  refine m_entry mbX12_goRound (Nat.le_of_ble_eq_true rfl) ?_
  intro p e s m args below meth c X ls hW hl
  have X : Cx E cX12_goRound 6 RX12 ((Option.some FieldType.int)) p s m args c meth := X
  have hx := X.1.1
  have hb := X.1.2.1
  have hl : lv_has ls 6 [(0, .ref (wa E 17 0)), (1, .int a1), (2, .int a2), (3, .int a3)] := hl
  refine lv_iconst (v := 0) hx hb dX12_goRound_0 (by decide) ?_
  refine lv_istore (lv' := [(4, .int 0), (0, .ref (wa E 17 0)), (1, .int a1), (2, .int a2), (3, .int a3)]) hx hb dX12_goRound_1 hl (by decide) rfl (fun ls hl => ?_)
  refine lv_iconst (v := 0) hx hb dX12_goRound_3 (by decide) ?_
  refine lv_istore (lv' := [(5, .int 0), (4, .int 0), (0, .ref (wa E 17 0)), (1, .int a1), (2, .int a2), (3, .int a3)]) hx hb dX12_goRound_4 hl (by decide) rfl (fun ls hl => ?_)
  obtain ⟨n6, h⟩ := h
  exact bX12_goRound_6 X n6 a1 a2 a3 0 0 _ _ _ _ _  h hW (lv_sub hl [2, 3, 4, 5, 1, 0] rfl)
def wX12_evening_b138 (g : GS) (Q : Int32 → MI → MJ → Prop) (v5 : Int32) (v7 : Int32) (v8 : Int32) (I : MI) (J : MJ) : Prop :=
  ((¬ v5 = 0 → ((¬ v5 = 1 → Q (Int64.toInt32 (J 17 0 28)) I J) ∧ (v5 = 1 → ((v8 = 0 → Q 0 I J) ∧ (¬ v8 = 0 → Q 1 I J))))) ∧ (v5 = 0 → Q v7 I J))
set_option maxHeartbeats 4000000 in
set_option maxRecDepth 100000 in
theorem bX12_evening_138 {p : Program} {l : Launch} {e : Env} {s : State} {m : MethodId} {args : Array Value} {below : List Frame} {meth : Method} {c : Code} {E : WE} {Q : Int32 → MI → MJ → Prop} (X : Cx E cX12_evening 9 RX12 ((Option.some FieldType.int)) p s m args c meth) : ∀ (v5 : Int32) (v7 : Int32) (v8 : Int32) (I : MI) (J : MJ) (H : Heap) (locs : List Loc) (ls : Array Slot), wX12_evening_b138 (wg E) Q v5 v7 v8 I J → Wd E I J s H locs → lv_has ls 9 [(0, .ref (wa E 17 0)), (5, .int v5), (7, .int v7), (8, .int v8)] → W p l e (rmO 3 65) s m args below meth c H locs 0 0 (MQ below (QI E Q) args s 0 0 (AA E)) (F0 m 138 ls []) := by
  have hx := X.1.1
  have hb := X.1.2.1
  intro v5 v7 v8 I J H locs ls h hW hl
  refine lv_iload hx hb dX12_evening_138 (lv_at hl 1 rfl) ?_
  refine lv_if_ne (tgt := 148) hx hb dX12_evening_140 (by decide) (fun c140 => ?_) (fun c140 => ?_)
  · have h := h.1 c140
    refine lv_iload hx hb dX12_evening_148 (lv_at hl 1 rfl) ?_
    refine lv_iconst (v := 1) hx hb dX12_evening_150 (by decide) ?_
    refine lv_icmp_ne (tgt := 167) hx hb dX12_evening_151 (by decide) (fun c151 => ?_) (fun c151 => ?_)
    · have h := h.1 c151
      refine lv_aload_n hx hb dX12_evening_167 rfl (lv_at hl 0 rfl) ?_
      refine r_get X hW 28 (okS hW sc17_0) rfl rfl inX12 (Nat.le_of_ble_eq_true rfl) tw862 rfl dX12_evening_168 ?_
      refine lv_l2i hx hb dX12_evening_171 rfl ?_
      exact e_i X hW h dX12_evening_172
    · have h := h.2 c151
      refine lv_iload hx hb dX12_evening_154 (lv_at hl 3 rfl) ?_
      refine lv_if_eq (tgt := 163) hx hb dX12_evening_156 (by decide) (fun c156 => ?_) (fun c156 => ?_)
      · have h := h.1 c156
        refine lv_iconst (v := 0) hx hb dX12_evening_163 (by decide) ?_
        refine lv_goto (tgt := 172) hx hb dX12_evening_164 (by decide) ?_
        exact e_i X hW h dX12_evening_172
      · have h := h.2 c156
        refine lv_iconst (v := 1) hx hb dX12_evening_159 (by decide) ?_
        refine lv_goto (tgt := 172) hx hb dX12_evening_160 (by decide) ?_
        exact e_i X hW h dX12_evening_172
  · have h := h.2 c140
    refine lv_iload hx hb dX12_evening_143 (lv_at hl 2 rfl) ?_
    refine lv_goto (tgt := 172) hx hb dX12_evening_145 (by decide) ?_
    exact e_i X hW h dX12_evening_172
def wX12_evening_b136 (g : GS) (Q : Int32 → MI → MJ → Prop) (v5 : Int32) (v7 : Int32) (t0 : Int32) (I : MI) (J : MJ) : Prop :=
  wX12_evening_b138 g Q v5 v7 t0 I J
set_option maxHeartbeats 4000000 in
set_option maxRecDepth 100000 in
theorem bX12_evening_136 {p : Program} {l : Launch} {e : Env} {s : State} {m : MethodId} {args : Array Value} {below : List Frame} {meth : Method} {c : Code} {E : WE} {Q : Int32 → MI → MJ → Prop} (X : Cx E cX12_evening 9 RX12 ((Option.some FieldType.int)) p s m args c meth) : ∀ (v5 : Int32) (v7 : Int32) (t0 : Int32) (I : MI) (J : MJ) (H : Heap) (locs : List Loc) (ls : Array Slot), wX12_evening_b136 (wg E) Q v5 v7 t0 I J → Wd E I J s H locs → lv_has ls 9 [(0, .ref (wa E 17 0)), (5, .int v5), (7, .int v7)] → W p l e (rmO 3 65) s m args below meth c H locs 0 0 (MQ below (QI E Q) args s 0 0 (AA E)) (F0 m 136 ls [.int t0]) := by
  have hx := X.1.1
  have hb := X.1.2.1
  intro v5 v7 t0 I J H locs ls h hW hl
  refine lv_istore (lv' := [(8, .int t0), (0, .ref (wa E 17 0)), (5, .int v5), (7, .int v7)]) hx hb dX12_evening_136 hl (by decide) rfl (fun ls hl => ?_)
  exact bX12_evening_138 X v5 v7 t0 _ _ _ _ _  h hW (lv_sub hl [1, 2, 3, 0] rfl)
def wX12_evening_b94 (g : GS) (Q : Int32 → MI → MJ → Prop) (v1 : Int32) (v2 : Int32) (v3 : Int32) (v5 : Int32) (v6 : Int32) (v7 : Int32) (t0 : Int32) (I : MI) (J : MJ) : Prop :=
  ((¬ t0 = 0 → wX12_evening_b138 g Q v5 v7 t0 I J) ∧ (t0 = 0 → vp_in v1 6 ∧ ((((I 26 0 (Int32.toNatClampNeg v1)) = 0 → wX12_evening_b138 g Q v5 v7 t0 I J) ∧ (¬ (I 26 0 (Int32.toNatClampNeg v1)) = 0 → wX12_goRound g v1 v2 v3 I J (fun r114 I114 J114 => wX12_shuts g v1 r114 v6 I114 J114 (fun r125 I125 J125 => ((¬ r125 = 0 → wX12_evening_b136 g Q v5 r114 0 I125 J125) ∧ (r125 = 0 → wX12_evening_b136 g Q v5 r114 1 I125 J125)))))))))
set_option maxHeartbeats 4000000 in
set_option maxRecDepth 100000 in
theorem bX12_evening_94 {p : Program} {l : Launch} {e : Env} {s : State} {m : MethodId} {args : Array Value} {below : List Frame} {meth : Method} {c : Code} {E : WE} {Q : Int32 → MI → MJ → Prop} (X : Cx E cX12_evening 9 RX12 ((Option.some FieldType.int)) p s m args c meth) : ∀ (v1 : Int32) (v2 : Int32) (v3 : Int32) (v5 : Int32) (v6 : Int32) (v7 : Int32) (t0 : Int32) (I : MI) (J : MJ) (H : Heap) (locs : List Loc) (ls : Array Slot), wX12_evening_b94 (wg E) Q v1 v2 v3 v5 v6 v7 t0 I J → Wd E I J s H locs → lv_has ls 9 [(0, .ref (wa E 17 0)), (1, .int v1), (2, .int v2), (3, .int v3), (5, .int v5), (6, .int v6), (7, .int v7)] → W p l e (rmO 3 65) s m args below meth c H locs 0 0 (MQ below (QI E Q) args s 0 0 (AA E)) (F0 m 94 ls [.int t0]) := by
  have hx := X.1.1
  have hb := X.1.2.1
  intro v1 v2 v3 v5 v6 v7 t0 I J H locs ls h hW hl
  refine lv_istore (lv' := [(8, .int t0), (0, .ref (wa E 17 0)), (1, .int v1), (2, .int v2), (3, .int v3), (5, .int v5), (6, .int v6), (7, .int v7)]) hx hb dX12_evening_94 hl (by decide) rfl (fun ls hl => ?_)
  refine lv_iload hx hb dX12_evening_96 (lv_at hl 0 rfl) ?_
  refine lv_if_ne (tgt := 138) hx hb dX12_evening_98 (by decide) (fun c98 => ?_) (fun c98 => ?_)
  · have h := h.1 c98
    exact bX12_evening_138 X v5 v7 t0 _ _ _ _ _  h hW (lv_sub hl [1, 5, 7, 0] rfl)
  · have h := h.2 c98
    refine lv_aload_n hx hb dX12_evening_101 rfl (lv_at hl 1 rfl) ?_
    refine r_get X hW 11 (okS hW sc17_0) rfl rfl inX12 (Nat.le_of_ble_eq_true rfl) tw845 rfl dX12_evening_102 ?_
    refine lv_iload_n hx hb dX12_evening_105 rfl (lv_at hl 2 rfl) ?_
    refine r_zald X hW (okS hW sc26_0) rfl h.1 dX12_evening_106 ?_
    have h := h.2
    refine lv_if_eq (tgt := 138) hx hb dX12_evening_107 (by decide) (fun c107 => ?_) (fun c107 => ?_)
    · have h := h.1 c107
      exact bX12_evening_138 X v5 v7 t0 _ _ _ _ _  h hW (lv_sub hl [1, 5, 7, 0] rfl)
    · have h := h.2 c107
      refine lv_aload_n hx hb dX12_evening_110 rfl (lv_at hl 1 rfl) ?_
      refine lv_iload_n hx hb dX12_evening_111 rfl (lv_at hl 2 rfl) ?_
      refine lv_iload_n hx hb dX12_evening_112 rfl (lv_at hl 3 rfl) ?_
      refine lv_iload_n hx hb dX12_evening_113 rfl (lv_at hl 4 rfl) ?_
      refine af_i hW (rn_V X hW (As := [.int v1, .int v2, .int v3]) (rest := []) (okS hW sc17_0) rfl rfl (kX12_goRound h) mbX12_goRound tw1159 tw1161 tp47 rfl hl.1 (Nat.le_of_ble_eq_true rfl) ⟨(Nat.le_of_ble_eq_true rfl), (Nat.le_of_ble_eq_true rfl)⟩ dX12_evening_114) (fun r114 I114 J114 H locs h hW => ?_)
      refine lv_istore (lv' := [(7, .int r114), (8, .int t0), (0, .ref (wa E 17 0)), (1, .int v1), (2, .int v2), (3, .int v3), (5, .int v5), (6, .int v6)]) hx hb dX12_evening_117 hl (by decide) rfl (fun ls hl => ?_)
      refine lv_aload_n hx hb dX12_evening_119 rfl (lv_at hl 2 rfl) ?_
      refine lv_iload_n hx hb dX12_evening_120 rfl (lv_at hl 3 rfl) ?_
      refine lv_iload hx hb dX12_evening_121 (lv_at hl 0 rfl) ?_
      refine lv_iload hx hb dX12_evening_123 (lv_at hl 7 rfl) ?_
      refine af_i hW (rn_V X hW (As := [.int v1, .int r114, .int v6]) (rest := []) (okS hW sc17_0) rfl rfl (kX12_shuts h) mbX12_shuts tw1101 tw1103 tp42 rfl hl.1 (Nat.le_of_ble_eq_true rfl) ⟨(Nat.le_of_ble_eq_true rfl), (Nat.le_of_ble_eq_true rfl)⟩ dX12_evening_125) (fun r125 I125 J125 H locs h hW => ?_)
      refine lv_if_ne (tgt := 135) hx hb dX12_evening_128 (by decide) (fun c128 => ?_) (fun c128 => ?_)
      · have h := h.1 c128
        refine lv_iconst (v := 0) hx hb dX12_evening_135 (by decide) ?_
        exact bX12_evening_136 X v5 r114 0 _ _ _ _ _  h hW (lv_sub hl [2, 6, 0] rfl)
      · have h := h.2 c128
        refine lv_iconst (v := 1) hx hb dX12_evening_131 (by decide) ?_
        refine lv_goto (tgt := 136) hx hb dX12_evening_132 (by decide) ?_
        exact bX12_evening_136 X v5 r114 1 _ _ _ _ _  h hW (lv_sub hl [2, 6, 0] rfl)
def wX12_evening (g : GS) (a1 : Int32) (a2 : Int32) (a3 : Int32) (a4 : Int32) (a5 : Int32) (I : MI) (J : MJ) (Q : Int32 → MI → MJ → Prop) : Prop :=
  wX12_areThere g a1 a2 I J (fun r3 I3 J3 => ((¬ r3 = 0 → wX12_areComers g a3 I3 J3 (fun r14 I14 J14 => ((r14 = 0 → Q ((-102)) I14 J14) ∧ (¬ r14 = 0 → ((a4 < 0 → Q ((-102)) I14 J14) ∧ (¬ a4 < 0 → wX12_within g a5 0 2 I14 J14 (fun r29 I29 J29 => ((¬ r29 = 0 → wX12_ones g a3 I29 (u3 J29 17 0 (vp_updL (J29 17 0) 28 (Int32.toInt64 a4))) (fun r46 I46 J46 => vp_in a1 6 ∧ (((r46 < (I46 25 0 (Int32.toNatClampNeg a1)) → wX12_evening_b138 g Q a5 ((-1)) 0 I46 J46) ∧ (¬ r46 < (I46 25 0 (Int32.toNatClampNeg a1)) → wX12_goRound g a1 a2 a3 I46 J46 (fun r72 I72 J72 => wX12_shuts g a1 r72 r46 I72 J72 (fun r83 I83 J83 => ((¬ r83 = 0 → wX12_evening_b94 g Q a1 a2 a3 a5 r46 r72 0 I83 J83) ∧ (r83 = 0 → wX12_evening_b94 g Q a1 a2 a3 a5 r46 r72 1 I83 J83))))))))) ∧ (r29 = 0 → Q ((-102)) I29 J29))))))))) ∧ (r3 = 0 → Q ((-101)) I3 J3)))
theorem mbX12_evening : MB yX12_evening cX12_evening 9 ((Option.some FieldType.int)) 5 := ⟨tw1158, tw7, ⟨by decide, by decide⟩, by decide +kernel, by decide +kernel⟩
set_option maxHeartbeats 4000000 in
set_option maxRecDepth 100000 in
theorem kX12_evening {l : Launch} {E : WE} {a1 : Int32} {a2 : Int32} {a3 : Int32} {a4 : Int32} {a5 : Int32} {I : MI} {J : MJ} {Q : Int32 → MI → MJ → Prop} (h : wX12_evening (wg E) a1 a2 a3 a4 a5 I J Q) : Met l yX12_evening (wsM yX12_evening cX12_evening 9 ((Option.some FieldType.int))) (rmO 3 65) (va_Pc [.ref (wa E 17 0), .int a1, .int a2, .int a3, .int a4, .int a5] (Wp E I J)) (QI E Q) 0 0 (AA E) := by
  refine m_entry mbX12_evening (Nat.le_of_ble_eq_true rfl) ?_
  intro p e s m args below meth c X ls hW hl
  have X : Cx E cX12_evening 9 RX12 ((Option.some FieldType.int)) p s m args c meth := X
  have hx := X.1.1
  have hb := X.1.2.1
  have hl : lv_has ls 9 [(0, .ref (wa E 17 0)), (1, .int a1), (2, .int a2), (3, .int a3), (4, .int a4), (5, .int a5)] := hl
  refine lv_aload_n hx hb dX12_evening_0 rfl (lv_at hl 0 rfl) ?_
  refine lv_iload_n hx hb dX12_evening_1 rfl (lv_at hl 1 rfl) ?_
  refine lv_iload_n hx hb dX12_evening_2 rfl (lv_at hl 2 rfl) ?_
  refine af_i hW (rn_V X hW (As := [.int a1, .int a2]) (rest := []) (okS hW sc17_0) rfl rfl (kX12_areThere h) mbX12_areThere tw1069 tw1071 tp38 rfl hl.1 (Nat.le_of_ble_eq_true rfl) ⟨(Nat.le_of_ble_eq_true rfl), (Nat.le_of_ble_eq_true rfl)⟩ dX12_evening_3) (fun r3 I3 J3 H locs h hW => ?_)
  refine lv_if_ne (tgt := 12) hx hb dX12_evening_6 (by decide) (fun c6 => ?_) (fun c6 => ?_)
  · have h := h.1 c6
    refine lv_aload_n hx hb dX12_evening_12 rfl (lv_at hl 0 rfl) ?_
    refine lv_iload_n hx hb dX12_evening_13 rfl (lv_at hl 3 rfl) ?_
    refine af_i hW (rn_V X hW (As := [.int a3]) (rest := []) (okS hW sc17_0) rfl rfl (kX12_areComers h) mbX12_areComers tw1051 tw1053 tp36 rfl hl.1 (Nat.le_of_ble_eq_true rfl) ⟨(Nat.le_of_ble_eq_true rfl), (Nat.le_of_ble_eq_true rfl)⟩ dX12_evening_14) (fun r14 I14 J14 H locs h hW => ?_)
    refine lv_if_eq (tgt := 35) hx hb dX12_evening_17 (by decide) (fun c17 => ?_) (fun c17 => ?_)
    · have h := h.1 c17
      refine lv_bipush (v := (-102)) hx hb dX12_evening_35 (by decide) ?_
      exact e_i X hW h dX12_evening_37
    · have h := h.2 c17
      refine lv_iload hx hb dX12_evening_20 (lv_at hl 4 rfl) ?_
      refine lv_if_lt (tgt := 35) hx hb dX12_evening_22 (by decide) (fun c22 => ?_) (fun c22 => ?_)
      · have h := h.1 c22
        refine lv_bipush (v := (-102)) hx hb dX12_evening_35 (by decide) ?_
        exact e_i X hW h dX12_evening_37
      · have h := h.2 c22
        refine lv_iload hx hb dX12_evening_25 (lv_at hl 5 rfl) ?_
        refine lv_iconst (v := 0) hx hb dX12_evening_27 (by decide) ?_
        refine lv_iconst (v := 2) hx hb dX12_evening_28 (by decide) ?_
        refine af_i hW (rn_S X hW (As := [.int a5, .int 0, .int 2]) (rest := []) (kX12_within h) mbX12_within tw969 tw970 rfl hl.1 (Nat.le_of_ble_eq_true rfl) ⟨(Nat.le_of_ble_eq_true rfl), (Nat.le_of_ble_eq_true rfl)⟩ dX12_evening_29) (fun r29 I29 J29 H locs h hW => ?_)
        refine lv_if_ne (tgt := 38) hx hb dX12_evening_32 (by decide) (fun c32 => ?_) (fun c32 => ?_)
        · have h := h.1 c32
          refine lv_aload_n hx hb dX12_evening_38 rfl (lv_at hl 0 rfl) ?_
          refine lv_iload hx hb dX12_evening_39 (lv_at hl 4 rfl) ?_
          refine lv_i2l hx hb dX12_evening_41 rfl ?_
          refine r_putL X hW 28 (okS hW sc17_0) rfl rfl inX12 tyX12 tyX12_ok nmX12 (Nat.le_of_ble_eq_true rfl) tw862 rfl rfl rfl rfl (Nat.le_of_ble_eq_true rfl) rfl dX12_evening_42 (fun H locs hW => ?_)
          refine lv_iload_n hx hb dX12_evening_45 rfl (lv_at hl 3 rfl) ?_
          refine af_i hW (rn_S X hW (As := [.int a3]) (rest := []) (kX12_ones h) mbX12_ones tw1058 tw1059 rfl hl.1 (Nat.le_of_ble_eq_true rfl) ⟨(Nat.le_of_ble_eq_true rfl), (Nat.le_of_ble_eq_true rfl)⟩ dX12_evening_46) (fun r46 I46 J46 H locs h hW => ?_)
          refine lv_istore (lv' := [(6, .int r46), (0, .ref (wa E 17 0)), (1, .int a1), (2, .int a2), (3, .int a3), (4, .int a4), (5, .int a5)]) hx hb dX12_evening_49 hl (by decide) rfl (fun ls hl => ?_)
          refine lv_iconst (v := (-1)) hx hb dX12_evening_51 (by decide) ?_
          refine lv_istore (lv' := [(7, .int ((-1))), (6, .int r46), (0, .ref (wa E 17 0)), (1, .int a1), (2, .int a2), (3, .int a3), (4, .int a4), (5, .int a5)]) hx hb dX12_evening_52 hl (by decide) rfl (fun ls hl => ?_)
          refine lv_iconst (v := 0) hx hb dX12_evening_54 (by decide) ?_
          refine lv_istore (lv' := [(8, .int 0), (7, .int ((-1))), (6, .int r46), (0, .ref (wa E 17 0)), (1, .int a1), (2, .int a2), (3, .int a3), (4, .int a4), (5, .int a5)]) hx hb dX12_evening_55 hl (by decide) rfl (fun ls hl => ?_)
          refine lv_iload hx hb dX12_evening_57 (lv_at hl 2 rfl) ?_
          refine lv_aload_n hx hb dX12_evening_59 rfl (lv_at hl 3 rfl) ?_
          refine r_get X hW 10 (okS hW sc17_0) rfl rfl inX12 (Nat.le_of_ble_eq_true rfl) tw844 rfl dX12_evening_60 ?_
          refine lv_iload_n hx hb dX12_evening_63 rfl (lv_at hl 4 rfl) ?_
          refine r_iald X hW (okS hW sc25_0) rfl h.1 dX12_evening_64 ?_
          have h := h.2
          refine lv_icmp_lt (tgt := 138) hx hb dX12_evening_65 (by decide) (fun c65 => ?_) (fun c65 => ?_)
          · have h := h.1 c65
            exact bX12_evening_138 X a5 ((-1)) 0 _ _ _ _ _  h hW (lv_sub hl [3, 8, 1, 0] rfl)
          · have h := h.2 c65
            refine lv_aload_n hx hb dX12_evening_68 rfl (lv_at hl 3 rfl) ?_
            refine lv_iload_n hx hb dX12_evening_69 rfl (lv_at hl 4 rfl) ?_
            refine lv_iload_n hx hb dX12_evening_70 rfl (lv_at hl 5 rfl) ?_
            refine lv_iload_n hx hb dX12_evening_71 rfl (lv_at hl 6 rfl) ?_
            refine af_i hW (rn_V X hW (As := [.int a1, .int a2, .int a3]) (rest := []) (okS hW sc17_0) rfl rfl (kX12_goRound h) mbX12_goRound tw1159 tw1161 tp47 rfl hl.1 (Nat.le_of_ble_eq_true rfl) ⟨(Nat.le_of_ble_eq_true rfl), (Nat.le_of_ble_eq_true rfl)⟩ dX12_evening_72) (fun r72 I72 J72 H locs h hW => ?_)
            refine lv_istore (lv' := [(7, .int r72), (8, .int 0), (6, .int r46), (0, .ref (wa E 17 0)), (1, .int a1), (2, .int a2), (3, .int a3), (4, .int a4), (5, .int a5)]) hx hb dX12_evening_75 hl (by decide) rfl (fun ls hl => ?_)
            refine lv_aload_n hx hb dX12_evening_77 rfl (lv_at hl 3 rfl) ?_
            refine lv_iload_n hx hb dX12_evening_78 rfl (lv_at hl 4 rfl) ?_
            refine lv_iload hx hb dX12_evening_79 (lv_at hl 0 rfl) ?_
            refine lv_iload hx hb dX12_evening_81 (lv_at hl 2 rfl) ?_
            refine af_i hW (rn_V X hW (As := [.int a1, .int r72, .int r46]) (rest := []) (okS hW sc17_0) rfl rfl (kX12_shuts h) mbX12_shuts tw1101 tw1103 tp42 rfl hl.1 (Nat.le_of_ble_eq_true rfl) ⟨(Nat.le_of_ble_eq_true rfl), (Nat.le_of_ble_eq_true rfl)⟩ dX12_evening_83) (fun r83 I83 J83 H locs h hW => ?_)
            refine lv_if_ne (tgt := 93) hx hb dX12_evening_86 (by decide) (fun c86 => ?_) (fun c86 => ?_)
            · have h := h.1 c86
              refine lv_iconst (v := 0) hx hb dX12_evening_93 (by decide) ?_
              exact bX12_evening_94 X a1 a2 a3 a5 r46 r72 0 _ _ _ _ _  h hW (lv_sub hl [3, 4, 5, 6, 8, 2, 0] rfl)
            · have h := h.2 c86
              refine lv_iconst (v := 1) hx hb dX12_evening_89 (by decide) ?_
              refine lv_goto (tgt := 94) hx hb dX12_evening_90 (by decide) ?_
              exact bX12_evening_94 X a1 a2 a3 a5 r46 r72 1 _ _ _ _ _  h hW (lv_sub hl [3, 4, 5, 6, 8, 2, 0] rfl)
        · have h := h.2 c32
          refine lv_bipush (v := (-102)) hx hb dX12_evening_35 (by decide) ?_
          exact e_i X hW h dX12_evening_37
  · have h := h.2 c6
    refine lv_bipush (v := (-101)) hx hb dX12_evening_9 (by decide) ?_
    exact e_i X hW h dX12_evening_11
def wX12_isInBy_b52 (g : GS) (ko7 : Int32 → Int32 → Int32 → Int32 → Int32 → Int32 → MI → MJ → Prop) (Q : Int32 → MI → MJ → Prop) (v1 : Int32) (v2 : Int32) (v3 : Int32) (v4 : Int32) (v7 : Int32) (t0 : Int32) (t1 : Int32) (I : MI) (J : MJ) : Prop :=
  ko7 v1 v2 v3 v4 (t1 + t0) (v7 + 1) I J
set_option maxHeartbeats 4000000 in
set_option maxRecDepth 100000 in
theorem bX12_isInBy_52 {p : Program} {l : Launch} {e : Env} {s : State} {m : MethodId} {args : Array Value} {below : List Frame} {meth : Method} {c : Code} {E : WE} {Q : Int32 → MI → MJ → Prop} {ko7 : Int32 → Int32 → Int32 → Int32 → Int32 → Int32 → MI → MJ → Prop} (X : Cx E cX12_isInBy 8 RX12 ((Option.some FieldType.boolean)) p s m args c meth)
    (hk7 : ∀ (v1 : Int32) (v2 : Int32) (v3 : Int32) (v4 : Int32) (v6 : Int32) (v7 : Int32) (I : MI) (J : MJ) (H : Heap) (locs : List Loc) (ls : Array Slot), ko7 v1 v2 v3 v4 v6 v7 I J → Wd E I J s H locs → lv_has ls 8 [(0, .ref (wa E 17 0)), (1, .int v1), (2, .int v2), (3, .int v3), (4, .int v4), (6, .int v6), (7, .int v7)] → W p l e (rmO 1 23) s m args below meth c H locs 0 0 (MQ below (QI E Q) args s 0 0 (AA E)) (F0 m 7 ls [])) : ∀ (v1 : Int32) (v2 : Int32) (v3 : Int32) (v4 : Int32) (v7 : Int32) (t0 : Int32) (t1 : Int32) (I : MI) (J : MJ) (H : Heap) (locs : List Loc) (ls : Array Slot), wX12_isInBy_b52 (wg E) ko7 Q v1 v2 v3 v4 v7 t0 t1 I J → Wd E I J s H locs → lv_has ls 8 [(0, .ref (wa E 17 0)), (1, .int v1), (2, .int v2), (3, .int v3), (4, .int v4), (7, .int v7)] → W p l e (rmO 1 23) s m args below meth c H locs 0 0 (MQ below (QI E Q) args s 0 0 (AA E)) (F0 m 52 ls [.int t0, .int t1]) := by
  have hx := X.1.1
  have hb := X.1.2.1
  intro v1 v2 v3 v4 v7 t0 t1 I J H locs ls h hW hl
  refine lv_iadd hx hb dX12_isInBy_52 ?_
  refine lv_istore (lv' := [(6, .int (t1 + t0)), (0, .ref (wa E 17 0)), (1, .int v1), (2, .int v2), (3, .int v3), (4, .int v4), (7, .int v7)]) hx hb dX12_isInBy_53 hl (by decide) rfl (fun ls hl => ?_)
  refine lv_iinc (v := v7 + 1) (lv' := [(7, .int (v7 + 1)), (6, .int (t1 + t0)), (0, .ref (wa E 17 0)), (1, .int v1), (2, .int v2), (3, .int v3), (4, .int v4)]) hx hb dX12_isInBy_55 hl (k := 6) rfl rfl (by decide) rfl (fun ls hl => ?_)
  refine lv_goto (tgt := 7) hx hb dX12_isInBy_58 (by decide) ?_
  exact hk7 v1 v2 v3 v4 (t1 + t0) (v7 + 1) _ _ _ _ _  h hW (lv_sub hl [2, 3, 4, 5, 6, 1, 0] rfl)
def wX12_isInBy_b51 (g : GS) (ko7 : Int32 → Int32 → Int32 → Int32 → Int32 → Int32 → MI → MJ → Prop) (Q : Int32 → MI → MJ → Prop) (v1 : Int32) (v2 : Int32) (v3 : Int32) (v4 : Int32) (v7 : Int32) (t0 : Int32) (I : MI) (J : MJ) : Prop :=
  wX12_isInBy_b52 g ko7 Q v1 v2 v3 v4 v7 0 t0 I J
set_option maxHeartbeats 4000000 in
set_option maxRecDepth 100000 in
theorem bX12_isInBy_51 {p : Program} {l : Launch} {e : Env} {s : State} {m : MethodId} {args : Array Value} {below : List Frame} {meth : Method} {c : Code} {E : WE} {Q : Int32 → MI → MJ → Prop} {ko7 : Int32 → Int32 → Int32 → Int32 → Int32 → Int32 → MI → MJ → Prop} (X : Cx E cX12_isInBy 8 RX12 ((Option.some FieldType.boolean)) p s m args c meth)
    (hk7 : ∀ (v1 : Int32) (v2 : Int32) (v3 : Int32) (v4 : Int32) (v6 : Int32) (v7 : Int32) (I : MI) (J : MJ) (H : Heap) (locs : List Loc) (ls : Array Slot), ko7 v1 v2 v3 v4 v6 v7 I J → Wd E I J s H locs → lv_has ls 8 [(0, .ref (wa E 17 0)), (1, .int v1), (2, .int v2), (3, .int v3), (4, .int v4), (6, .int v6), (7, .int v7)] → W p l e (rmO 1 23) s m args below meth c H locs 0 0 (MQ below (QI E Q) args s 0 0 (AA E)) (F0 m 7 ls [])) : ∀ (v1 : Int32) (v2 : Int32) (v3 : Int32) (v4 : Int32) (v7 : Int32) (t0 : Int32) (I : MI) (J : MJ) (H : Heap) (locs : List Loc) (ls : Array Slot), wX12_isInBy_b51 (wg E) ko7 Q v1 v2 v3 v4 v7 t0 I J → Wd E I J s H locs → lv_has ls 8 [(0, .ref (wa E 17 0)), (1, .int v1), (2, .int v2), (3, .int v3), (4, .int v4), (7, .int v7)] → W p l e (rmO 1 23) s m args below meth c H locs 0 0 (MQ below (QI E Q) args s 0 0 (AA E)) (F0 m 51 ls [.int t0]) := by
  have hx := X.1.1
  have hb := X.1.2.1
  intro v1 v2 v3 v4 v7 t0 I J H locs ls h hW hl
  refine lv_iconst (v := 0) hx hb dX12_isInBy_51 (by decide) ?_
  exact bX12_isInBy_52 X hk7 v1 v2 v3 v4 v7 0 t0 _ _ _ _ _  h hW (lv_sub hl [0, 1, 2, 3, 4, 5] rfl)
def wX12_isInBy_b7 (g : GS) (Q : Int32 → MI → MJ → Prop) : Nat → Int32 → Int32 → Int32 → Int32 → Int32 → Int32 → MI → MJ → Prop
  | 0, _, _, _, _, _, _, _, _ => False
  | n + 1, v1, v2, v3, v4, v6, v7, I, J => (((I 17 0 0) ≤ v7 → vp_in v1 6 ∧ ((((I 17 0 0) < (I 25 0 (Int32.toNatClampNeg v1)) → Q 0 I J) ∧ (¬ (I 17 0 0) < (I 25 0 (Int32.toNatClampNeg v1)) → wX12_shuts g v1 v6 (I 17 0 0) I J (fun r82 I82 J82 => ((¬ r82 = 0 → Q 0 I82 J82) ∧ (r82 = 0 → Q 1 I82 J82))))))) ∧ (¬ (I 17 0 0) ≤ v7 → ((v7 = v3 → wX12_isInBy_b51 g (fun v1 v2 v3 v4 v6 v7 I J => wX12_isInBy_b7 g Q n v1 v2 v3 v4 v6 v7 I J) Q v1 v2 v3 v4 v7 v6 I J) ∧ (¬ v7 = v3 → ((v7 = v4 → wX12_isInBy_b51 g (fun v1 v2 v3 v4 v6 v7 I J => wX12_isInBy_b7 g Q n v1 v2 v3 v4 v6 v7 I J) Q v1 v2 v3 v4 v7 v6 I J) ∧ (¬ v7 = v4 → vp_in ((6 * v7) + v2) 48 ∧ ((((I 22 0 (Int32.toNatClampNeg ((6 * v7) + v2))) < 5 → wX12_isInBy_b51 g (fun v1 v2 v3 v4 v6 v7 I J => wX12_isInBy_b7 g Q n v1 v2 v3 v4 v6 v7 I J) Q v1 v2 v3 v4 v7 v6 I J) ∧ (¬ (I 22 0 (Int32.toNatClampNeg ((6 * v7) + v2))) < 5 → wX12_isInBy_b52 g (fun v1 v2 v3 v4 v6 v7 I J => wX12_isInBy_b7 g Q n v1 v2 v3 v4 v6 v7 I J) Q v1 v2 v3 v4 v7 1 v6 I J)))))))))
set_option maxHeartbeats 4000000 in
set_option maxRecDepth 100000 in
theorem bX12_isInBy_7 {p : Program} {l : Launch} {e : Env} {s : State} {m : MethodId} {args : Array Value} {below : List Frame} {meth : Method} {c : Code} {E : WE} {Q : Int32 → MI → MJ → Prop} (X : Cx E cX12_isInBy 8 RX12 ((Option.some FieldType.boolean)) p s m args c meth) (n : Nat) : ∀ (v1 : Int32) (v2 : Int32) (v3 : Int32) (v4 : Int32) (v6 : Int32) (v7 : Int32) (I : MI) (J : MJ) (H : Heap) (locs : List Loc) (ls : Array Slot), wX12_isInBy_b7 (wg E) Q n v1 v2 v3 v4 v6 v7 I J → Wd E I J s H locs → lv_has ls 8 [(0, .ref (wa E 17 0)), (1, .int v1), (2, .int v2), (3, .int v3), (4, .int v4), (6, .int v6), (7, .int v7)] → W p l e (rmO 1 23) s m args below meth c H locs 0 0 (MQ below (QI E Q) args s 0 0 (AA E)) (F0 m 7 ls []) := by
  have hx := X.1.1
  have hb := X.1.2.1
  induction n with
  | zero => intro v1 v2 v3 v4 v6 v7 I J H locs ls h hW hl; exact h.elim
  | succ n ih =>
    intro v1 v2 v3 v4 v6 v7 I J H locs ls h hW hl
    refine lv_iload hx hb dX12_isInBy_7 (lv_at hl 6 rfl) ?_
    refine lv_aload_n hx hb dX12_isInBy_9 rfl (lv_at hl 0 rfl) ?_
    refine r_get X hW 0 (okS hW sc17_0) rfl rfl inX12 (Nat.le_of_ble_eq_true rfl) tw834 rfl dX12_isInBy_10 ?_
    refine lv_icmp_ge (tgt := 61) hx hb dX12_isInBy_13 (by decide) (fun c13 => ?_) (fun c13 => ?_)
    · have h := h.1 c13
      refine lv_aload_n hx hb dX12_isInBy_61 rfl (lv_at hl 0 rfl) ?_
      refine r_get X hW 0 (okS hW sc17_0) rfl rfl inX12 (Nat.le_of_ble_eq_true rfl) tw834 rfl dX12_isInBy_62 ?_
      refine lv_aload_n hx hb dX12_isInBy_65 rfl (lv_at hl 0 rfl) ?_
      refine r_get X hW 10 (okS hW sc17_0) rfl rfl inX12 (Nat.le_of_ble_eq_true rfl) tw844 rfl dX12_isInBy_66 ?_
      refine lv_iload_n hx hb dX12_isInBy_69 rfl (lv_at hl 1 rfl) ?_
      refine r_iald X hW (okS hW sc25_0) rfl h.1 dX12_isInBy_70 ?_
      have h := h.2
      refine lv_icmp_lt (tgt := 92) hx hb dX12_isInBy_71 (by decide) (fun c71 => ?_) (fun c71 => ?_)
      · have h := h.1 c71
        refine lv_iconst (v := 0) hx hb dX12_isInBy_92 (by decide) ?_
        exact e_z X hW rfl h dX12_isInBy_93
      · have h := h.2 c71
        refine lv_aload_n hx hb dX12_isInBy_74 rfl (lv_at hl 0 rfl) ?_
        refine lv_iload_n hx hb dX12_isInBy_75 rfl (lv_at hl 1 rfl) ?_
        refine lv_iload hx hb dX12_isInBy_76 (lv_at hl 5 rfl) ?_
        refine lv_aload_n hx hb dX12_isInBy_78 rfl (lv_at hl 0 rfl) ?_
        refine r_get X hW 0 (okS hW sc17_0) rfl rfl inX12 (Nat.le_of_ble_eq_true rfl) tw834 rfl dX12_isInBy_79 ?_
        refine af_i hW (rn_V X hW (As := [.int v1, .int v6, .int (I 17 0 0)]) (rest := []) (okS hW sc17_0) rfl rfl (kX12_shuts h) mbX12_shuts tw1101 tw1103 tp42 rfl hl.1 (Nat.le_of_ble_eq_true rfl) ⟨(Nat.le_of_ble_eq_true rfl), (Nat.le_of_ble_eq_true rfl)⟩ dX12_isInBy_82) (fun r82 I82 J82 H locs h hW => ?_)
        refine lv_if_ne (tgt := 92) hx hb dX12_isInBy_85 (by decide) (fun c85 => ?_) (fun c85 => ?_)
        · have h := h.1 c85
          refine lv_iconst (v := 0) hx hb dX12_isInBy_92 (by decide) ?_
          exact e_z X hW rfl h dX12_isInBy_93
        · have h := h.2 c85
          refine lv_iconst (v := 1) hx hb dX12_isInBy_88 (by decide) ?_
          refine lv_goto (tgt := 93) hx hb dX12_isInBy_89 (by decide) ?_
          exact e_z X hW rfl h dX12_isInBy_93
    · have h := h.2 c13
      refine lv_iload hx hb dX12_isInBy_16 (lv_at hl 5 rfl) ?_
      refine lv_iload hx hb dX12_isInBy_18 (lv_at hl 6 rfl) ?_
      refine lv_iload_n hx hb dX12_isInBy_20 rfl (lv_at hl 3 rfl) ?_
      refine lv_icmp_eq (tgt := 51) hx hb dX12_isInBy_21 (by decide) (fun c21 => ?_) (fun c21 => ?_)
      · have h := h.1 c21
        exact bX12_isInBy_51 X ih v1 v2 v3 v4 v7 v6 _ _ _ _ _  h hW (lv_sub hl [0, 1, 2, 3, 4, 6] rfl)
      · have h := h.2 c21
        refine lv_iload hx hb dX12_isInBy_24 (lv_at hl 6 rfl) ?_
        refine lv_iload hx hb dX12_isInBy_26 (lv_at hl 4 rfl) ?_
        refine lv_icmp_eq (tgt := 51) hx hb dX12_isInBy_28 (by decide) (fun c28 => ?_) (fun c28 => ?_)
        · have h := h.1 c28
          exact bX12_isInBy_51 X ih v1 v2 v3 v4 v7 v6 _ _ _ _ _  h hW (lv_sub hl [0, 1, 2, 3, 4, 6] rfl)
        · have h := h.2 c28
          refine lv_aload_n hx hb dX12_isInBy_31 rfl (lv_at hl 0 rfl) ?_
          refine r_get X hW 6 (okS hW sc17_0) rfl rfl inX12 (Nat.le_of_ble_eq_true rfl) tw840 rfl dX12_isInBy_32 ?_
          refine lv_bipush (v := 6) hx hb dX12_isInBy_35 (by decide) ?_
          refine lv_iload hx hb dX12_isInBy_37 (lv_at hl 6 rfl) ?_
          refine lv_imul hx hb dX12_isInBy_39 ?_
          refine lv_iload_n hx hb dX12_isInBy_40 rfl (lv_at hl 2 rfl) ?_
          refine lv_iadd hx hb dX12_isInBy_41 ?_
          refine r_iald X hW (okS hW sc22_0) rfl h.1 dX12_isInBy_42 ?_
          have h := h.2
          refine lv_iconst (v := 5) hx hb dX12_isInBy_43 (by decide) ?_
          refine lv_icmp_lt (tgt := 51) hx hb dX12_isInBy_44 (by decide) (fun c44 => ?_) (fun c44 => ?_)
          · have h := h.1 c44
            exact bX12_isInBy_51 X ih v1 v2 v3 v4 v7 v6 _ _ _ _ _  h hW (lv_sub hl [0, 1, 2, 3, 4, 6] rfl)
          · have h := h.2 c44
            refine lv_iconst (v := 1) hx hb dX12_isInBy_47 (by decide) ?_
            refine lv_goto (tgt := 52) hx hb dX12_isInBy_48 (by decide) ?_
            exact bX12_isInBy_52 X ih v1 v2 v3 v4 v7 1 v6 _ _ _ _ _  h hW (lv_sub hl [0, 1, 2, 3, 4, 6] rfl)
def wX12_isInBy (g : GS) (a1 : Int32) (a2 : Int32) (a3 : Int32) (a4 : Int32) (a5 : Int32) (I : MI) (J : MJ) (Q : Int32 → MI → MJ → Prop) : Prop :=
  ∃ n7, wX12_isInBy_b7 g Q n7 a1 a2 a3 a4 a5 0 I J
theorem mbX12_isInBy : MB yX12_isInBy cX12_isInBy 8 ((Option.some FieldType.boolean)) 5 := ⟨tw1182, tw7, ⟨by decide, by decide⟩, by decide +kernel, by decide +kernel⟩
set_option maxHeartbeats 4000000 in
set_option maxRecDepth 100000 in
theorem kX12_isInBy {l : Launch} {E : WE} {a1 : Int32} {a2 : Int32} {a3 : Int32} {a4 : Int32} {a5 : Int32} {I : MI} {J : MJ} {Q : Int32 → MI → MJ → Prop} (h : wX12_isInBy (wg E) a1 a2 a3 a4 a5 I J Q) : Met l yX12_isInBy (wsM yX12_isInBy cX12_isInBy 8 ((Option.some FieldType.boolean))) (rmO 1 23) (va_Pc [.ref (wa E 17 0), .int a1, .int a2, .int a3, .int a4, .int a5] (Wp E I J)) (QI E Q) 0 0 (AA E) := by
  refine m_entry mbX12_isInBy (Nat.le_of_ble_eq_true rfl) ?_
  intro p e s m args below meth c X ls hW hl
  have X : Cx E cX12_isInBy 8 RX12 ((Option.some FieldType.boolean)) p s m args c meth := X
  have hx := X.1.1
  have hb := X.1.2.1
  have hl : lv_has ls 8 [(0, .ref (wa E 17 0)), (1, .int a1), (2, .int a2), (3, .int a3), (4, .int a4), (5, .int a5)] := hl
  refine lv_iload hx hb dX12_isInBy_0 (lv_at hl 5 rfl) ?_
  refine lv_istore (lv' := [(6, .int a5), (0, .ref (wa E 17 0)), (1, .int a1), (2, .int a2), (3, .int a3), (4, .int a4), (5, .int a5)]) hx hb dX12_isInBy_2 hl (by decide) rfl (fun ls hl => ?_)
  refine lv_iconst (v := 0) hx hb dX12_isInBy_4 (by decide) ?_
  refine lv_istore (lv' := [(7, .int 0), (6, .int a5), (0, .ref (wa E 17 0)), (1, .int a1), (2, .int a2), (3, .int a3), (4, .int a4), (5, .int a5)]) hx hb dX12_isInBy_5 hl (by decide) rfl (fun ls hl => ?_)
  obtain ⟨n7, h⟩ := h
  exact bX12_isInBy_7 X n7 a1 a2 a3 a4 a5 0 _ _ _ _ _  h hW (lv_sub hl [2, 3, 4, 5, 6, 1, 0] rfl)
def wX12_gain_b71 (g : GS) (Q : Int32 → MI → MJ → Prop) (v2 : Int32) (v5 : Int32) (t0 : Int32) (I : MI) (J : MJ) : Prop :=
  ((v5 = 0 → Q (t0 + 0) I J) ∧ (¬ v5 = 0 → vp_in ((6 * v2) + (I 17 0 32)) 48 ∧ (Q (t0 + (5 - (I 22 0 (Int32.toNatClampNeg ((6 * v2) + (I 17 0 32)))))) I J)))
set_option maxHeartbeats 4000000 in
set_option maxRecDepth 100000 in
theorem bX12_gain_71 {p : Program} {l : Launch} {e : Env} {s : State} {m : MethodId} {args : Array Value} {below : List Frame} {meth : Method} {c : Code} {E : WE} {Q : Int32 → MI → MJ → Prop} (X : Cx E cX12_gain 6 RX12 ((Option.some FieldType.int)) p s m args c meth) : ∀ (v2 : Int32) (v5 : Int32) (t0 : Int32) (I : MI) (J : MJ) (H : Heap) (locs : List Loc) (ls : Array Slot), wX12_gain_b71 (wg E) Q v2 v5 t0 I J → Wd E I J s H locs → lv_has ls 6 [(0, .ref (wa E 17 0)), (2, .int v2), (5, .int v5)] → W p l e (rmO 2 50) s m args below meth c H locs 0 0 (MQ below (QI E Q) args s 0 0 (AA E)) (F0 m 71 ls [.int t0]) := by
  have hx := X.1.1
  have hb := X.1.2.1
  intro v2 v5 t0 I J H locs ls h hW hl
  refine lv_iload hx hb dX12_gain_71 (lv_at hl 2 rfl) ?_
  refine lv_if_eq (tgt := 95) hx hb dX12_gain_73 (by decide) (fun c73 => ?_) (fun c73 => ?_)
  · have h := h.1 c73
    refine lv_iconst (v := 0) hx hb dX12_gain_95 (by decide) ?_
    refine lv_iadd hx hb dX12_gain_96 ?_
    exact e_i X hW h dX12_gain_97
  · have h := h.2 c73
    refine lv_iconst (v := 5) hx hb dX12_gain_76 (by decide) ?_
    refine lv_aload_n hx hb dX12_gain_77 rfl (lv_at hl 0 rfl) ?_
    refine r_get X hW 6 (okS hW sc17_0) rfl rfl inX12 (Nat.le_of_ble_eq_true rfl) tw840 rfl dX12_gain_78 ?_
    refine lv_bipush (v := 6) hx hb dX12_gain_81 (by decide) ?_
    refine lv_iload_n hx hb dX12_gain_83 rfl (lv_at hl 1 rfl) ?_
    refine lv_imul hx hb dX12_gain_84 ?_
    refine lv_aload_n hx hb dX12_gain_85 rfl (lv_at hl 0 rfl) ?_
    refine r_get X hW 32 (okS hW sc17_0) rfl rfl inX12 (Nat.le_of_ble_eq_true rfl) tw866 rfl dX12_gain_86 ?_
    refine lv_iadd hx hb dX12_gain_89 ?_
    refine r_iald X hW (okS hW sc22_0) rfl h.1 dX12_gain_90 ?_
    have h := h.2
    refine lv_isub hx hb dX12_gain_91 ?_
    refine lv_goto (tgt := 96) hx hb dX12_gain_92 (by decide) ?_
    refine lv_iadd hx hb dX12_gain_96 ?_
    exact e_i X hW h dX12_gain_97
def wX12_gain (g : GS) (a1 : Int32) (a2 : Int32) (a3 : Int32) (I : MI) (J : MJ) (Q : Int32 → MI → MJ → Prop) : Prop :=
  wX12_isInBy g a1 (I 17 0 31) (I 17 0 29) (I 17 0 30) ((a3 >>> (1 &&& 31)) &&& 1) I J (fun r19 I19 J19 => wX12_isInBy g a1 (I19 17 0 32) (I19 17 0 29) (I19 17 0 30) (a3 &&& 1) I19 J19 (fun r41 I41 J41 => ((r19 = 0 → wX12_gain_b71 g Q a2 r41 0 I41 J41) ∧ (¬ r19 = 0 → vp_in ((6 * a2) + (I41 17 0 31)) 48 ∧ (wX12_gain_b71 g Q a2 r41 (5 - (I41 22 0 (Int32.toNatClampNeg ((6 * a2) + (I41 17 0 31))))) I41 J41)))))
theorem mbX12_gain : MB yX12_gain cX12_gain 6 ((Option.some FieldType.int)) 3 := ⟨tw1178, tw7, ⟨by decide, by decide⟩, by decide +kernel, by decide +kernel⟩
set_option maxHeartbeats 4000000 in
set_option maxRecDepth 100000 in
theorem kX12_gain {l : Launch} {E : WE} {a1 : Int32} {a2 : Int32} {a3 : Int32} {I : MI} {J : MJ} {Q : Int32 → MI → MJ → Prop} (h : wX12_gain (wg E) a1 a2 a3 I J Q) : Met l yX12_gain (wsM yX12_gain cX12_gain 6 ((Option.some FieldType.int))) (rmO 2 50) (va_Pc [.ref (wa E 17 0), .int a1, .int a2, .int a3] (Wp E I J)) (QI E Q) 0 0 (AA E) := by
  refine m_entry mbX12_gain (Nat.le_of_ble_eq_true rfl) ?_
  intro p e s m args below meth c X ls hW hl
  have X : Cx E cX12_gain 6 RX12 ((Option.some FieldType.int)) p s m args c meth := X
  have hx := X.1.1
  have hb := X.1.2.1
  have hl : lv_has ls 6 [(0, .ref (wa E 17 0)), (1, .int a1), (2, .int a2), (3, .int a3)] := hl
  refine lv_aload_n hx hb dX12_gain_0 rfl (lv_at hl 0 rfl) ?_
  refine lv_iload_n hx hb dX12_gain_1 rfl (lv_at hl 1 rfl) ?_
  refine lv_aload_n hx hb dX12_gain_2 rfl (lv_at hl 0 rfl) ?_
  refine r_get X hW 31 (okS hW sc17_0) rfl rfl inX12 (Nat.le_of_ble_eq_true rfl) tw865 rfl dX12_gain_3 ?_
  refine lv_aload_n hx hb dX12_gain_6 rfl (lv_at hl 0 rfl) ?_
  refine r_get X hW 29 (okS hW sc17_0) rfl rfl inX12 (Nat.le_of_ble_eq_true rfl) tw863 rfl dX12_gain_7 ?_
  refine lv_aload_n hx hb dX12_gain_10 rfl (lv_at hl 0 rfl) ?_
  refine r_get X hW 30 (okS hW sc17_0) rfl rfl inX12 (Nat.le_of_ble_eq_true rfl) tw864 rfl dX12_gain_11 ?_
  refine lv_iload_n hx hb dX12_gain_14 rfl (lv_at hl 3 rfl) ?_
  refine lv_iconst (v := 1) hx hb dX12_gain_15 (by decide) ?_
  refine lv_ishr hx hb dX12_gain_16 ?_
  refine lv_iconst (v := 1) hx hb dX12_gain_17 (by decide) ?_
  refine lv_iand hx hb dX12_gain_18 ?_
  refine af_i hW (rn_V X hW (As := [.int a1, .int (I 17 0 31), .int (I 17 0 29), .int (I 17 0 30), .int ((a3 >>> (1 &&& 31)) &&& 1)]) (rest := []) (okS hW sc17_0) rfl rfl (kX12_isInBy h) mbX12_isInBy tw1179 tw1181 tp50 rfl hl.1 (Nat.le_of_ble_eq_true rfl) ⟨(Nat.le_of_ble_eq_true rfl), (Nat.le_of_ble_eq_true rfl)⟩ dX12_gain_19) (fun r19 I19 J19 H locs h hW => ?_)
  refine lv_istore (lv' := [(4, .int r19), (0, .ref (wa E 17 0)), (1, .int a1), (2, .int a2), (3, .int a3)]) hx hb dX12_gain_22 hl (by decide) rfl (fun ls hl => ?_)
  refine lv_aload_n hx hb dX12_gain_24 rfl (lv_at hl 1 rfl) ?_
  refine lv_iload_n hx hb dX12_gain_25 rfl (lv_at hl 2 rfl) ?_
  refine lv_aload_n hx hb dX12_gain_26 rfl (lv_at hl 1 rfl) ?_
  refine r_get X hW 32 (okS hW sc17_0) rfl rfl inX12 (Nat.le_of_ble_eq_true rfl) tw866 rfl dX12_gain_27 ?_
  refine lv_aload_n hx hb dX12_gain_30 rfl (lv_at hl 1 rfl) ?_
  refine r_get X hW 29 (okS hW sc17_0) rfl rfl inX12 (Nat.le_of_ble_eq_true rfl) tw863 rfl dX12_gain_31 ?_
  refine lv_aload_n hx hb dX12_gain_34 rfl (lv_at hl 1 rfl) ?_
  refine r_get X hW 30 (okS hW sc17_0) rfl rfl inX12 (Nat.le_of_ble_eq_true rfl) tw864 rfl dX12_gain_35 ?_
  refine lv_iload_n hx hb dX12_gain_38 rfl (lv_at hl 4 rfl) ?_
  refine lv_iconst (v := 1) hx hb dX12_gain_39 (by decide) ?_
  refine lv_iand hx hb dX12_gain_40 ?_
  refine af_i hW (rn_V X hW (As := [.int a1, .int (I19 17 0 32), .int (I19 17 0 29), .int (I19 17 0 30), .int (a3 &&& 1)]) (rest := []) (okS hW sc17_0) rfl rfl (kX12_isInBy h) mbX12_isInBy tw1179 tw1181 tp50 rfl hl.1 (Nat.le_of_ble_eq_true rfl) ⟨(Nat.le_of_ble_eq_true rfl), (Nat.le_of_ble_eq_true rfl)⟩ dX12_gain_41) (fun r41 I41 J41 H locs h hW => ?_)
  refine lv_istore (lv' := [(5, .int r41), (4, .int r19), (0, .ref (wa E 17 0)), (1, .int a1), (2, .int a2), (3, .int a3)]) hx hb dX12_gain_44 hl (by decide) rfl (fun ls hl => ?_)
  refine lv_iload hx hb dX12_gain_46 (lv_at hl 1 rfl) ?_
  refine lv_if_eq (tgt := 70) hx hb dX12_gain_48 (by decide) (fun c48 => ?_) (fun c48 => ?_)
  · have h := h.1 c48
    refine lv_iconst (v := 0) hx hb dX12_gain_70 (by decide) ?_
    exact bX12_gain_71 X a2 r41 0 _ _ _ _ _  h hW (lv_sub hl [2, 4, 0] rfl)
  · have h := h.2 c48
    refine lv_iconst (v := 5) hx hb dX12_gain_51 (by decide) ?_
    refine lv_aload_n hx hb dX12_gain_52 rfl (lv_at hl 2 rfl) ?_
    refine r_get X hW 6 (okS hW sc17_0) rfl rfl inX12 (Nat.le_of_ble_eq_true rfl) tw840 rfl dX12_gain_53 ?_
    refine lv_bipush (v := 6) hx hb dX12_gain_56 (by decide) ?_
    refine lv_iload_n hx hb dX12_gain_58 rfl (lv_at hl 4 rfl) ?_
    refine lv_imul hx hb dX12_gain_59 ?_
    refine lv_aload_n hx hb dX12_gain_60 rfl (lv_at hl 2 rfl) ?_
    refine r_get X hW 31 (okS hW sc17_0) rfl rfl inX12 (Nat.le_of_ble_eq_true rfl) tw865 rfl dX12_gain_61 ?_
    refine lv_iadd hx hb dX12_gain_64 ?_
    refine r_iald X hW (okS hW sc22_0) rfl h.1 dX12_gain_65 ?_
    have h := h.2
    refine lv_isub hx hb dX12_gain_66 ?_
    refine lv_goto (tgt := 71) hx hb dX12_gain_67 (by decide) ?_
    exact bX12_gain_71 X a2 r41 (5 - (I41 22 0 (Int32.toNatClampNeg ((6 * a2) + (I41 17 0 31))))) _ _ _ _ _  h hW (lv_sub hl [2, 4, 0] rfl)
def wX12_trade_b155 (g : GS) (ko85 : Int32 → Int32 → Int32 → Int32 → Int32 → MI → MJ → Prop) (Q : Int32 → MI → MJ → Prop) (v1 : Int32) (v2 : Int32) (v3 : Int32) (v7 : Int32) (t0 : Int32) (t1 : Int32) (I : MI) (J : MJ) : Prop :=
  ko85 v1 v2 v3 (t1 ||| t0) (v7 + 1) I J
set_option maxHeartbeats 4000000 in
set_option maxRecDepth 100000 in
theorem bX12_trade_155 {p : Program} {l : Launch} {e : Env} {s : State} {m : MethodId} {args : Array Value} {below : List Frame} {meth : Method} {c : Code} {E : WE} {Q : Int32 → MI → MJ → Prop} {ko85 : Int32 → Int32 → Int32 → Int32 → Int32 → MI → MJ → Prop} (X : Cx E cX12_trade 9 RX12 ((Option.some FieldType.int)) p s m args c meth)
    (hk85 : ∀ (v1 : Int32) (v2 : Int32) (v3 : Int32) (v6 : Int32) (v7 : Int32) (I : MI) (J : MJ) (H : Heap) (locs : List Loc) (ls : Array Slot), ko85 v1 v2 v3 v6 v7 I J → Wd E I J s H locs → lv_has ls 9 [(0, .ref (wa E 17 0)), (1, .int v1), (2, .int v2), (3, .int v3), (6, .int v6), (7, .int v7)] → W p l e (rmO 3 75) s m args below meth c H locs 0 0 (MQ below (QI E Q) args s 0 0 (AA E)) (F0 m 85 ls [])) : ∀ (v1 : Int32) (v2 : Int32) (v3 : Int32) (v7 : Int32) (t0 : Int32) (t1 : Int32) (I : MI) (J : MJ) (H : Heap) (locs : List Loc) (ls : Array Slot), wX12_trade_b155 (wg E) ko85 Q v1 v2 v3 v7 t0 t1 I J → Wd E I J s H locs → lv_has ls 9 [(0, .ref (wa E 17 0)), (1, .int v1), (2, .int v2), (3, .int v3), (7, .int v7)] → W p l e (rmO 3 75) s m args below meth c H locs 0 0 (MQ below (QI E Q) args s 0 0 (AA E)) (F0 m 155 ls [.int t0, .int t1]) := by
  have hx := X.1.1
  have hb := X.1.2.1
  intro v1 v2 v3 v7 t0 t1 I J H locs ls h hW hl
  refine lv_ior hx hb dX12_trade_155 ?_
  refine lv_istore (lv' := [(6, .int (t1 ||| t0)), (0, .ref (wa E 17 0)), (1, .int v1), (2, .int v2), (3, .int v3), (7, .int v7)]) hx hb dX12_trade_156 hl (by decide) rfl (fun ls hl => ?_)
  refine lv_iinc (v := v7 + 1) (lv' := [(7, .int (v7 + 1)), (6, .int (t1 ||| t0)), (0, .ref (wa E 17 0)), (1, .int v1), (2, .int v2), (3, .int v3)]) hx hb dX12_trade_158 hl (k := 5) rfl rfl (by decide) rfl (fun ls hl => ?_)
  refine lv_goto (tgt := 85) hx hb dX12_trade_161 (by decide) ?_
  exact hk85 v1 v2 v3 (t1 ||| t0) (v7 + 1) _ _ _ _ _  h hW (lv_sub hl [2, 3, 4, 5, 1, 0] rfl)
def wX12_trade_b138 (g : GS) (ko85 : Int32 → Int32 → Int32 → Int32 → Int32 → MI → MJ → Prop) (Q : Int32 → MI → MJ → Prop) (v1 : Int32) (v2 : Int32) (v3 : Int32) (v6 : Int32) (v7 : Int32) (t0 : Int32) (I : MI) (J : MJ) : Prop :=
  ((t0 = 0 → wX12_trade_b155 g ko85 Q v1 v2 v3 v7 0 v6 I J) ∧ (¬ t0 = 0 → wX12_trade_b155 g ko85 Q v1 v2 v3 v7 (1 <<< (v7 &&& 31)) v6 I J))
set_option maxHeartbeats 4000000 in
set_option maxRecDepth 100000 in
theorem bX12_trade_138 {p : Program} {l : Launch} {e : Env} {s : State} {m : MethodId} {args : Array Value} {below : List Frame} {meth : Method} {c : Code} {E : WE} {Q : Int32 → MI → MJ → Prop} {ko85 : Int32 → Int32 → Int32 → Int32 → Int32 → MI → MJ → Prop} (X : Cx E cX12_trade 9 RX12 ((Option.some FieldType.int)) p s m args c meth)
    (hk85 : ∀ (v1 : Int32) (v2 : Int32) (v3 : Int32) (v6 : Int32) (v7 : Int32) (I : MI) (J : MJ) (H : Heap) (locs : List Loc) (ls : Array Slot), ko85 v1 v2 v3 v6 v7 I J → Wd E I J s H locs → lv_has ls 9 [(0, .ref (wa E 17 0)), (1, .int v1), (2, .int v2), (3, .int v3), (6, .int v6), (7, .int v7)] → W p l e (rmO 3 75) s m args below meth c H locs 0 0 (MQ below (QI E Q) args s 0 0 (AA E)) (F0 m 85 ls [])) : ∀ (v1 : Int32) (v2 : Int32) (v3 : Int32) (v6 : Int32) (v7 : Int32) (t0 : Int32) (I : MI) (J : MJ) (H : Heap) (locs : List Loc) (ls : Array Slot), wX12_trade_b138 (wg E) ko85 Q v1 v2 v3 v6 v7 t0 I J → Wd E I J s H locs → lv_has ls 9 [(0, .ref (wa E 17 0)), (1, .int v1), (2, .int v2), (3, .int v3), (6, .int v6), (7, .int v7)] → W p l e (rmO 3 75) s m args below meth c H locs 0 0 (MQ below (QI E Q) args s 0 0 (AA E)) (F0 m 138 ls [.int t0]) := by
  have hx := X.1.1
  have hb := X.1.2.1
  intro v1 v2 v3 v6 v7 t0 I J H locs ls h hW hl
  refine lv_istore (lv' := [(8, .int t0), (0, .ref (wa E 17 0)), (1, .int v1), (2, .int v2), (3, .int v3), (6, .int v6), (7, .int v7)]) hx hb dX12_trade_138 hl (by decide) rfl (fun ls hl => ?_)
  refine lv_iload hx hb dX12_trade_140 (lv_at hl 5 rfl) ?_
  refine lv_iload hx hb dX12_trade_142 (lv_at hl 0 rfl) ?_
  refine lv_if_eq (tgt := 154) hx hb dX12_trade_144 (by decide) (fun c144 => ?_) (fun c144 => ?_)
  · have h := h.1 c144
    refine lv_iconst (v := 0) hx hb dX12_trade_154 (by decide) ?_
    exact bX12_trade_155 X hk85 v1 v2 v3 v7 0 v6 _ _ _ _ _  h hW (lv_sub hl [1, 2, 3, 4, 6] rfl)
  · have h := h.2 c144
    refine lv_iconst (v := 1) hx hb dX12_trade_147 (by decide) ?_
    refine lv_iload hx hb dX12_trade_148 (lv_at hl 6 rfl) ?_
    refine lv_ishl hx hb dX12_trade_150 ?_
    refine lv_goto (tgt := 155) hx hb dX12_trade_151 (by decide) ?_
    exact bX12_trade_155 X hk85 v1 v2 v3 v7 (1 <<< (v7 &&& 31)) v6 _ _ _ _ _  h hW (lv_sub hl [1, 2, 3, 4, 6] rfl)
def wX12_trade_b137 (g : GS) (ko85 : Int32 → Int32 → Int32 → Int32 → Int32 → MI → MJ → Prop) (Q : Int32 → MI → MJ → Prop) (v1 : Int32) (v2 : Int32) (v3 : Int32) (v6 : Int32) (v7 : Int32) (I : MI) (J : MJ) : Prop :=
  wX12_trade_b138 g ko85 Q v1 v2 v3 v6 v7 0 I J
set_option maxHeartbeats 4000000 in
set_option maxRecDepth 100000 in
theorem bX12_trade_137 {p : Program} {l : Launch} {e : Env} {s : State} {m : MethodId} {args : Array Value} {below : List Frame} {meth : Method} {c : Code} {E : WE} {Q : Int32 → MI → MJ → Prop} {ko85 : Int32 → Int32 → Int32 → Int32 → Int32 → MI → MJ → Prop} (X : Cx E cX12_trade 9 RX12 ((Option.some FieldType.int)) p s m args c meth)
    (hk85 : ∀ (v1 : Int32) (v2 : Int32) (v3 : Int32) (v6 : Int32) (v7 : Int32) (I : MI) (J : MJ) (H : Heap) (locs : List Loc) (ls : Array Slot), ko85 v1 v2 v3 v6 v7 I J → Wd E I J s H locs → lv_has ls 9 [(0, .ref (wa E 17 0)), (1, .int v1), (2, .int v2), (3, .int v3), (6, .int v6), (7, .int v7)] → W p l e (rmO 3 75) s m args below meth c H locs 0 0 (MQ below (QI E Q) args s 0 0 (AA E)) (F0 m 85 ls [])) : ∀ (v1 : Int32) (v2 : Int32) (v3 : Int32) (v6 : Int32) (v7 : Int32) (I : MI) (J : MJ) (H : Heap) (locs : List Loc) (ls : Array Slot), wX12_trade_b137 (wg E) ko85 Q v1 v2 v3 v6 v7 I J → Wd E I J s H locs → lv_has ls 9 [(0, .ref (wa E 17 0)), (1, .int v1), (2, .int v2), (3, .int v3), (6, .int v6), (7, .int v7)] → W p l e (rmO 3 75) s m args below meth c H locs 0 0 (MQ below (QI E Q) args s 0 0 (AA E)) (F0 m 137 ls []) := by
  have hx := X.1.1
  have hb := X.1.2.1
  intro v1 v2 v3 v6 v7 I J H locs ls h hW hl
  refine lv_iconst (v := 0) hx hb dX12_trade_137 (by decide) ?_
  exact bX12_trade_138 X hk85 v1 v2 v3 v6 v7 0 _ _ _ _ _  h hW (lv_sub hl [0, 1, 2, 3, 4, 5] rfl)
def wX12_trade_b85 (g : GS) (Q : Int32 → MI → MJ → Prop) : Nat → Int32 → Int32 → Int32 → Int32 → Int32 → MI → MJ → Prop
  | 0, _, _, _, _, _, _, _ => False
  | n + 1, v1, v2, v3, v6, v7, I, J => ((4 ≤ v7 → Q v6 I J) ∧ (¬ 4 ≤ v7 → wX12_gain g v1 v2 v7 I J (fun r96 I96 J96 => wX12_gain g v1 v2 (v7 ^^^ 1) I96 J96 (fun r106 I106 J106 => ((r96 < r106 → wX12_trade_b137 g (fun v1 v2 v3 v6 v7 I J => wX12_trade_b85 g Q n v1 v2 v3 v6 v7 I J) Q v1 v2 v3 v6 v7 I106 J106) ∧ (¬ r96 < r106 → wX12_gain g v1 v3 v7 I106 J106 (fun r117 I117 J117 => wX12_gain g v1 v3 (v7 ^^^ 2) I117 J117 (fun r127 I127 J127 => ((r117 < r127 → wX12_trade_b137 g (fun v1 v2 v3 v6 v7 I J => wX12_trade_b85 g Q n v1 v2 v3 v6 v7 I J) Q v1 v2 v3 v6 v7 I127 J127) ∧ (¬ r117 < r127 → wX12_trade_b138 g (fun v1 v2 v3 v6 v7 I J => wX12_trade_b85 g Q n v1 v2 v3 v6 v7 I J) Q v1 v2 v3 v6 v7 1 I127 J127))))))))))
set_option maxHeartbeats 4000000 in
set_option maxRecDepth 100000 in
theorem bX12_trade_85 {p : Program} {l : Launch} {e : Env} {s : State} {m : MethodId} {args : Array Value} {below : List Frame} {meth : Method} {c : Code} {E : WE} {Q : Int32 → MI → MJ → Prop} (X : Cx E cX12_trade 9 RX12 ((Option.some FieldType.int)) p s m args c meth) (n : Nat) : ∀ (v1 : Int32) (v2 : Int32) (v3 : Int32) (v6 : Int32) (v7 : Int32) (I : MI) (J : MJ) (H : Heap) (locs : List Loc) (ls : Array Slot), wX12_trade_b85 (wg E) Q n v1 v2 v3 v6 v7 I J → Wd E I J s H locs → lv_has ls 9 [(0, .ref (wa E 17 0)), (1, .int v1), (2, .int v2), (3, .int v3), (6, .int v6), (7, .int v7)] → W p l e (rmO 3 75) s m args below meth c H locs 0 0 (MQ below (QI E Q) args s 0 0 (AA E)) (F0 m 85 ls []) := by
  have hx := X.1.1
  have hb := X.1.2.1
  induction n with
  | zero => intro v1 v2 v3 v6 v7 I J H locs ls h hW hl; exact h.elim
  | succ n ih =>
    intro v1 v2 v3 v6 v7 I J H locs ls h hW hl
    refine lv_iload hx hb dX12_trade_85 (lv_at hl 5 rfl) ?_
    refine lv_iconst (v := 4) hx hb dX12_trade_87 (by decide) ?_
    refine lv_icmp_ge (tgt := 164) hx hb dX12_trade_88 (by decide) (fun c88 => ?_) (fun c88 => ?_)
    · have h := h.1 c88
      refine lv_iload hx hb dX12_trade_164 (lv_at hl 4 rfl) ?_
      exact e_i X hW h dX12_trade_166
    · have h := h.2 c88
      refine lv_aload_n hx hb dX12_trade_91 rfl (lv_at hl 0 rfl) ?_
      refine lv_iload_n hx hb dX12_trade_92 rfl (lv_at hl 1 rfl) ?_
      refine lv_iload_n hx hb dX12_trade_93 rfl (lv_at hl 2 rfl) ?_
      refine lv_iload hx hb dX12_trade_94 (lv_at hl 5 rfl) ?_
      refine af_i hW (rn_V X hW (As := [.int v1, .int v2, .int v7]) (rest := []) (okS hW sc17_0) rfl rfl (kX12_gain h) mbX12_gain tw1175 tw1177 tp49 rfl hl.1 (Nat.le_of_ble_eq_true rfl) ⟨(Nat.le_of_ble_eq_true rfl), (Nat.le_of_ble_eq_true rfl)⟩ dX12_trade_96) (fun r96 I96 J96 H locs h hW => ?_)
      refine lv_aload_n hx hb dX12_trade_99 rfl (lv_at hl 0 rfl) ?_
      refine lv_iload_n hx hb dX12_trade_100 rfl (lv_at hl 1 rfl) ?_
      refine lv_iload_n hx hb dX12_trade_101 rfl (lv_at hl 2 rfl) ?_
      refine lv_iload hx hb dX12_trade_102 (lv_at hl 5 rfl) ?_
      refine lv_iconst (v := 1) hx hb dX12_trade_104 (by decide) ?_
      refine lv_ixor hx hb dX12_trade_105 ?_
      refine af_i hW (rn_V X hW (As := [.int v1, .int v2, .int (v7 ^^^ 1)]) (rest := [.int r96]) (okS hW sc17_0) rfl rfl (kX12_gain h) mbX12_gain tw1175 tw1177 tp49 rfl hl.1 (Nat.le_of_ble_eq_true rfl) ⟨(Nat.le_of_ble_eq_true rfl), (Nat.le_of_ble_eq_true rfl)⟩ dX12_trade_106) (fun r106 I106 J106 H locs h hW => ?_)
      refine lv_icmp_lt (tgt := 137) hx hb dX12_trade_109 (by decide) (fun c109 => ?_) (fun c109 => ?_)
      · have h := h.1 c109
        exact bX12_trade_137 X ih v1 v2 v3 v6 v7 _ _ _ _ _  h hW (lv_sub hl [0, 1, 2, 3, 4, 5] rfl)
      · have h := h.2 c109
        refine lv_aload_n hx hb dX12_trade_112 rfl (lv_at hl 0 rfl) ?_
        refine lv_iload_n hx hb dX12_trade_113 rfl (lv_at hl 1 rfl) ?_
        refine lv_iload_n hx hb dX12_trade_114 rfl (lv_at hl 3 rfl) ?_
        refine lv_iload hx hb dX12_trade_115 (lv_at hl 5 rfl) ?_
        refine af_i hW (rn_V X hW (As := [.int v1, .int v3, .int v7]) (rest := []) (okS hW sc17_0) rfl rfl (kX12_gain h) mbX12_gain tw1175 tw1177 tp49 rfl hl.1 (Nat.le_of_ble_eq_true rfl) ⟨(Nat.le_of_ble_eq_true rfl), (Nat.le_of_ble_eq_true rfl)⟩ dX12_trade_117) (fun r117 I117 J117 H locs h hW => ?_)
        refine lv_aload_n hx hb dX12_trade_120 rfl (lv_at hl 0 rfl) ?_
        refine lv_iload_n hx hb dX12_trade_121 rfl (lv_at hl 1 rfl) ?_
        refine lv_iload_n hx hb dX12_trade_122 rfl (lv_at hl 3 rfl) ?_
        refine lv_iload hx hb dX12_trade_123 (lv_at hl 5 rfl) ?_
        refine lv_iconst (v := 2) hx hb dX12_trade_125 (by decide) ?_
        refine lv_ixor hx hb dX12_trade_126 ?_
        refine af_i hW (rn_V X hW (As := [.int v1, .int v3, .int (v7 ^^^ 2)]) (rest := [.int r117]) (okS hW sc17_0) rfl rfl (kX12_gain h) mbX12_gain tw1175 tw1177 tp49 rfl hl.1 (Nat.le_of_ble_eq_true rfl) ⟨(Nat.le_of_ble_eq_true rfl), (Nat.le_of_ble_eq_true rfl)⟩ dX12_trade_127) (fun r127 I127 J127 H locs h hW => ?_)
        refine lv_icmp_lt (tgt := 137) hx hb dX12_trade_130 (by decide) (fun c130 => ?_) (fun c130 => ?_)
        · have h := h.1 c130
          exact bX12_trade_137 X ih v1 v2 v3 v6 v7 _ _ _ _ _  h hW (lv_sub hl [0, 1, 2, 3, 4, 5] rfl)
        · have h := h.2 c130
          refine lv_iconst (v := 1) hx hb dX12_trade_133 (by decide) ?_
          refine lv_goto (tgt := 138) hx hb dX12_trade_134 (by decide) ?_
          exact bX12_trade_138 X ih v1 v2 v3 v6 v7 1 _ _ _ _ _  h hW (lv_sub hl [0, 1, 2, 3, 4, 5] rfl)
def wX12_trade (g : GS) (a1 : Int32) (a2 : Int32) (a3 : Int32) (a4 : Int32) (a5 : Int32) (I : MI) (J : MJ) (Q : Int32 → MI → MJ → Prop) : Prop :=
  wX12_isRule g a1 I J (fun r2 I2 J2 => ((r2 = 0 → Q ((-101)) I2 J2) ∧ (¬ r2 = 0 → wX12_isMember g a2 I2 J2 (fun r10 I10 J10 => ((r10 = 0 → Q ((-101)) I10 J10) ∧ (¬ r10 = 0 → wX12_isMember g a3 I10 J10 (fun r18 I18 J18 => ((r18 = 0 → Q ((-101)) I18 J18) ∧ (¬ r18 = 0 → ((a2 = a3 → Q ((-101)) I18 J18) ∧ (¬ a2 = a3 → wX12_isCandidate g a4 I18 J18 (fun r32 I32 J32 => ((r32 = 0 → Q ((-101)) I32 J32) ∧ (¬ r32 = 0 → wX12_isCandidate g a5 I32 J32 (fun r41 I41 J41 => ((r41 = 0 → Q ((-101)) I41 J41) ∧ (¬ r41 = 0 → ((¬ a4 = a5 → ∀ I70 : MI, I70 = u3 (u3 (u3 I41 17 0 (upd (I41 17 0) 29 a2)) 17 0 (upd ((u3 I41 17 0 (upd (I41 17 0) 29 a2)) 17 0) 30 a3)) 17 0 (upd ((u3 (u3 I41 17 0 (upd (I41 17 0) 29 a2)) 17 0 (upd ((u3 I41 17 0 (upd (I41 17 0) 29 a2)) 17 0) 30 a3)) 17 0) 31 a4) → ∃ n85, wX12_trade_b85 g Q n85 a1 a2 a3 0 0 (u3 I70 17 0 (upd (I70 17 0) 32 a5)) J41) ∧ (a4 = a5 → Q ((-101)) I41 J41)))))))))))))))))))
theorem mbX12_trade : MB yX12_trade cX12_trade 9 ((Option.some FieldType.int)) 5 := ⟨tw1174, tw7, ⟨by decide, by decide⟩, by decide +kernel, by decide +kernel⟩
set_option maxHeartbeats 4000000 in
set_option maxRecDepth 100000 in
theorem kX12_trade {l : Launch} {E : WE} {a1 : Int32} {a2 : Int32} {a3 : Int32} {a4 : Int32} {a5 : Int32} {I : MI} {J : MJ} {Q : Int32 → MI → MJ → Prop} (h : wX12_trade (wg E) a1 a2 a3 a4 a5 I J Q) : Met l yX12_trade (wsM yX12_trade cX12_trade 9 ((Option.some FieldType.int))) (rmO 3 75) (va_Pc [.ref (wa E 17 0), .int a1, .int a2, .int a3, .int a4, .int a5] (Wp E I J)) (QI E Q) 0 0 (AA E) := by
  refine m_entry mbX12_trade (Nat.le_of_ble_eq_true rfl) ?_
  intro p e s m args below meth c X ls hW hl
  have X : Cx E cX12_trade 9 RX12 ((Option.some FieldType.int)) p s m args c meth := X
  have hx := X.1.1
  have hb := X.1.2.1
  have hl : lv_has ls 9 [(0, .ref (wa E 17 0)), (1, .int a1), (2, .int a2), (3, .int a3), (4, .int a4), (5, .int a5)] := hl
  refine lv_aload_n hx hb dX12_trade_0 rfl (lv_at hl 0 rfl) ?_
  refine lv_iload_n hx hb dX12_trade_1 rfl (lv_at hl 1 rfl) ?_
  refine af_i hW (rn_V X hW (As := [.int a1]) (rest := []) (okS hW sc17_0) rfl rfl (kX12_isRule h) mbX12_isRule tw987 tw989 tp28 rfl hl.1 (Nat.le_of_ble_eq_true rfl) ⟨(Nat.le_of_ble_eq_true rfl), (Nat.le_of_ble_eq_true rfl)⟩ dX12_trade_2) (fun r2 I2 J2 H locs h hW => ?_)
  refine lv_if_eq (tgt := 54) hx hb dX12_trade_5 (by decide) (fun c5 => ?_) (fun c5 => ?_)
  · have h := h.1 c5
    refine lv_bipush (v := (-101)) hx hb dX12_trade_54 (by decide) ?_
    exact e_i X hW h dX12_trade_56
  · have h := h.2 c5
    refine lv_aload_n hx hb dX12_trade_8 rfl (lv_at hl 0 rfl) ?_
    refine lv_iload_n hx hb dX12_trade_9 rfl (lv_at hl 2 rfl) ?_
    refine af_i hW (rn_V X hW (As := [.int a2]) (rest := []) (okS hW sc17_0) rfl rfl (kX12_isMember h) mbX12_isMember tw999 tw1001 tp30 rfl hl.1 (Nat.le_of_ble_eq_true rfl) ⟨(Nat.le_of_ble_eq_true rfl), (Nat.le_of_ble_eq_true rfl)⟩ dX12_trade_10) (fun r10 I10 J10 H locs h hW => ?_)
    refine lv_if_eq (tgt := 54) hx hb dX12_trade_13 (by decide) (fun c13 => ?_) (fun c13 => ?_)
    · have h := h.1 c13
      refine lv_bipush (v := (-101)) hx hb dX12_trade_54 (by decide) ?_
      exact e_i X hW h dX12_trade_56
    · have h := h.2 c13
      refine lv_aload_n hx hb dX12_trade_16 rfl (lv_at hl 0 rfl) ?_
      refine lv_iload_n hx hb dX12_trade_17 rfl (lv_at hl 3 rfl) ?_
      refine af_i hW (rn_V X hW (As := [.int a3]) (rest := []) (okS hW sc17_0) rfl rfl (kX12_isMember h) mbX12_isMember tw999 tw1001 tp30 rfl hl.1 (Nat.le_of_ble_eq_true rfl) ⟨(Nat.le_of_ble_eq_true rfl), (Nat.le_of_ble_eq_true rfl)⟩ dX12_trade_18) (fun r18 I18 J18 H locs h hW => ?_)
      refine lv_if_eq (tgt := 54) hx hb dX12_trade_21 (by decide) (fun c21 => ?_) (fun c21 => ?_)
      · have h := h.1 c21
        refine lv_bipush (v := (-101)) hx hb dX12_trade_54 (by decide) ?_
        exact e_i X hW h dX12_trade_56
      · have h := h.2 c21
        refine lv_iload_n hx hb dX12_trade_24 rfl (lv_at hl 2 rfl) ?_
        refine lv_iload_n hx hb dX12_trade_25 rfl (lv_at hl 3 rfl) ?_
        refine lv_icmp_eq (tgt := 54) hx hb dX12_trade_26 (by decide) (fun c26 => ?_) (fun c26 => ?_)
        · have h := h.1 c26
          refine lv_bipush (v := (-101)) hx hb dX12_trade_54 (by decide) ?_
          exact e_i X hW h dX12_trade_56
        · have h := h.2 c26
          refine lv_aload_n hx hb dX12_trade_29 rfl (lv_at hl 0 rfl) ?_
          refine lv_iload hx hb dX12_trade_30 (lv_at hl 4 rfl) ?_
          refine af_i hW (rn_V X hW (As := [.int a4]) (rest := []) (okS hW sc17_0) rfl rfl (kX12_isCandidate h) mbX12_isCandidate tw1027 tw1029 tp32 rfl hl.1 (Nat.le_of_ble_eq_true rfl) ⟨(Nat.le_of_ble_eq_true rfl), (Nat.le_of_ble_eq_true rfl)⟩ dX12_trade_32) (fun r32 I32 J32 H locs h hW => ?_)
          refine lv_if_eq (tgt := 54) hx hb dX12_trade_35 (by decide) (fun c35 => ?_) (fun c35 => ?_)
          · have h := h.1 c35
            refine lv_bipush (v := (-101)) hx hb dX12_trade_54 (by decide) ?_
            exact e_i X hW h dX12_trade_56
          · have h := h.2 c35
            refine lv_aload_n hx hb dX12_trade_38 rfl (lv_at hl 0 rfl) ?_
            refine lv_iload hx hb dX12_trade_39 (lv_at hl 5 rfl) ?_
            refine af_i hW (rn_V X hW (As := [.int a5]) (rest := []) (okS hW sc17_0) rfl rfl (kX12_isCandidate h) mbX12_isCandidate tw1027 tw1029 tp32 rfl hl.1 (Nat.le_of_ble_eq_true rfl) ⟨(Nat.le_of_ble_eq_true rfl), (Nat.le_of_ble_eq_true rfl)⟩ dX12_trade_41) (fun r41 I41 J41 H locs h hW => ?_)
            refine lv_if_eq (tgt := 54) hx hb dX12_trade_44 (by decide) (fun c44 => ?_) (fun c44 => ?_)
            · have h := h.1 c44
              refine lv_bipush (v := (-101)) hx hb dX12_trade_54 (by decide) ?_
              exact e_i X hW h dX12_trade_56
            · have h := h.2 c44
              refine lv_iload hx hb dX12_trade_47 (lv_at hl 4 rfl) ?_
              refine lv_iload hx hb dX12_trade_49 (lv_at hl 5 rfl) ?_
              refine lv_icmp_ne (tgt := 57) hx hb dX12_trade_51 (by decide) (fun c51 => ?_) (fun c51 => ?_)
              · have h := h.1 c51
                refine lv_aload_n hx hb dX12_trade_57 rfl (lv_at hl 0 rfl) ?_
                refine lv_iload_n hx hb dX12_trade_58 rfl (lv_at hl 2 rfl) ?_
                refine r_putI X hW 29 (okS hW sc17_0) rfl rfl inX12 tyX12 tyX12_ok nmX12 (Nat.le_of_ble_eq_true rfl) tw863 rfl rfl rfl rfl (Nat.le_of_ble_eq_true rfl) rfl dX12_trade_59 (fun H locs hW => ?_)
                refine lv_aload_n hx hb dX12_trade_62 rfl (lv_at hl 0 rfl) ?_
                refine lv_iload_n hx hb dX12_trade_63 rfl (lv_at hl 3 rfl) ?_
                refine r_putI X hW 30 (okS hW sc17_0) rfl rfl inX12 tyX12 tyX12_ok nmX12 (Nat.le_of_ble_eq_true rfl) tw864 rfl rfl rfl rfl (Nat.le_of_ble_eq_true rfl) rfl dX12_trade_64 (fun H locs hW => ?_)
                refine lv_aload_n hx hb dX12_trade_67 rfl (lv_at hl 0 rfl) ?_
                refine lv_iload hx hb dX12_trade_68 (lv_at hl 4 rfl) ?_
                refine r_putI X hW 31 (okS hW sc17_0) rfl rfl inX12 tyX12 tyX12_ok nmX12 (Nat.le_of_ble_eq_true rfl) tw865 rfl rfl rfl rfl (Nat.le_of_ble_eq_true rfl) rfl dX12_trade_70 (fun H locs hW => ?_)
                obtain ⟨I70, eI70⟩ : ∃ z : MI, z = u3 (u3 (u3 I41 17 0 (upd (I41 17 0) 29 a2)) 17 0 (upd ((u3 I41 17 0 (upd (I41 17 0) 29 a2)) 17 0) 30 a3)) 17 0 (upd ((u3 (u3 I41 17 0 (upd (I41 17 0) 29 a2)) 17 0 (upd ((u3 I41 17 0 (upd (I41 17 0) 29 a2)) 17 0) 30 a3)) 17 0) 31 a4) := ⟨_, rfl⟩
                rw [← eI70] at hW
                have h := h I70 eI70
                refine lv_aload_n hx hb dX12_trade_73 rfl (lv_at hl 0 rfl) ?_
                refine lv_iload hx hb dX12_trade_74 (lv_at hl 5 rfl) ?_
                refine r_putI X hW 32 (okS hW sc17_0) rfl rfl inX12 tyX12 tyX12_ok nmX12 (Nat.le_of_ble_eq_true rfl) tw866 rfl rfl rfl rfl (Nat.le_of_ble_eq_true rfl) rfl dX12_trade_76 (fun H locs hW => ?_)
                refine lv_iconst (v := 0) hx hb dX12_trade_79 (by decide) ?_
                refine lv_istore (lv' := [(6, .int 0), (0, .ref (wa E 17 0)), (1, .int a1), (2, .int a2), (3, .int a3), (4, .int a4), (5, .int a5)]) hx hb dX12_trade_80 hl (by decide) rfl (fun ls hl => ?_)
                refine lv_iconst (v := 0) hx hb dX12_trade_82 (by decide) ?_
                refine lv_istore (lv' := [(7, .int 0), (6, .int 0), (0, .ref (wa E 17 0)), (1, .int a1), (2, .int a2), (3, .int a3), (4, .int a4), (5, .int a5)]) hx hb dX12_trade_83 hl (by decide) rfl (fun ls hl => ?_)
                obtain ⟨n85, h⟩ := h
                exact bX12_trade_85 X n85 a1 a2 a3 0 0 _ _ _ _ _  h hW (lv_sub hl [2, 3, 4, 5, 1, 0] rfl)
              · have h := h.2 c51
                refine lv_bipush (v := (-101)) hx hb dX12_trade_54 (by decide) ?_
                exact e_i X hW h dX12_trade_56
def wX12_elevens_b4 (g : GS) (Q : Int64 → MI → MJ → Prop) : Nat → Int32 → Int64 → Int32 → MI → MJ → Prop
  | 0, _, _, _, _, _ => False
  | n + 1, v0, v1, v3, I, J => ((v0 ≤ v3 → Q v1 I J) ∧ (¬ v0 ≤ v3 → wX12_elevens_b4 g Q n v0 (v1 * 11) (v3 + 1) I J))
set_option maxHeartbeats 4000000 in
set_option maxRecDepth 100000 in
theorem bX12_elevens_4 {p : Program} {l : Launch} {e : Env} {s : State} {m : MethodId} {args : Array Value} {below : List Frame} {meth : Method} {c : Code} {E : WE} {Q : Int64 → MI → MJ → Prop} (X : Cx E cX12_elevens 4 RX12 ((Option.some FieldType.long)) p s m args c meth) (n : Nat) : ∀ (v0 : Int32) (v1 : Int64) (v3 : Int32) (I : MI) (J : MJ) (H : Heap) (locs : List Loc) (ls : Array Slot), wX12_elevens_b4 (wg E) Q n v0 v1 v3 I J → Wd E I J s H locs → lv_has ls 4 [(0, .int v0), (1, .long v1), (3, .int v3)] → W p l e (rmO 0 0) s m args below meth c H locs 0 0 (MQ below (QL E Q) args s 0 0 (AA E)) (F0 m 4 ls []) := by
  have hx := X.1.1
  have hb := X.1.2.1
  induction n with
  | zero => intro v0 v1 v3 I J H locs ls h hW hl; exact h.elim
  | succ n ih =>
    intro v0 v1 v3 I J H locs ls h hW hl
    refine lv_iload_n hx hb dX12_elevens_4 rfl (lv_at hl 2 rfl) ?_
    refine lv_iload_n hx hb dX12_elevens_5 rfl (lv_at hl 0 rfl) ?_
    refine lv_icmp_ge (tgt := 21) hx hb dX12_elevens_6 (by decide) (fun c6 => ?_) (fun c6 => ?_)
    · have h := h.1 c6
      refine lv_lload_n hx hb dX12_elevens_21 rfl (lv_at hl 1 rfl) ?_
      exact e_l X hW h dX12_elevens_22
    · have h := h.2 c6
      refine lv_lload_n hx hb dX12_elevens_9 rfl (lv_at hl 1 rfl) ?_
      refine lv_ldc2 hx hb X.1.2.2.2.1 (X.1.2.2.2.2 _ tw1198) dX12_elevens_10 ?_
      refine lv_lmul hx hb dX12_elevens_13 ?_
      refine lv_lstore_n (lv' := [(1, .long (v1 * 11)), (0, .int v0), (3, .int v3)]) hx hb dX12_elevens_14 rfl hl (by decide) rfl (fun ls hl => ?_)
      refine lv_iinc (v := v3 + 1) (lv' := [(3, .int (v3 + 1)), (1, .long (v1 * 11)), (0, .int v0)]) hx hb dX12_elevens_15 hl (k := 2) rfl rfl (by decide) rfl (fun ls hl => ?_)
      refine lv_goto (tgt := 4) hx hb dX12_elevens_18 (by decide) ?_
      exact ih v0 (v1 * 11) (v3 + 1) _ _ _ _ _  h hW (lv_sub hl [2, 1, 0] rfl)
def wX12_elevens (g : GS) (a0 : Int32) (I : MI) (J : MJ) (Q : Int64 → MI → MJ → Prop) : Prop :=
  ∃ n4, wX12_elevens_b4 g Q n4 a0 1 0 I J
theorem mbX12_elevens : MB yX12_elevens cX12_elevens 4 ((Option.some FieldType.long)) 1 := ⟨tw1197, tw7, ⟨by decide, by decide⟩, by decide +kernel, by decide +kernel⟩
set_option maxHeartbeats 4000000 in
set_option maxRecDepth 100000 in
theorem kX12_elevens {l : Launch} {E : WE} {a0 : Int32} {I : MI} {J : MJ} {Q : Int64 → MI → MJ → Prop} (h : wX12_elevens (wg E) a0 I J Q) : Met l yX12_elevens (wsM yX12_elevens cX12_elevens 4 ((Option.some FieldType.long))) (rmO 0 0) (va_Pc [.int a0] (Wp E I J)) (QL E Q) 0 0 (AA E) := by
  refine m_entry mbX12_elevens (Nat.le_of_ble_eq_true rfl) ?_
  intro p e s m args below meth c X ls hW hl
  have X : Cx E cX12_elevens 4 RX12 ((Option.some FieldType.long)) p s m args c meth := X
  have hx := X.1.1
  have hb := X.1.2.1
  have hl : lv_has ls 4 [(0, .int a0)] := hl
  refine lv_lconst (v := 1) hx hb dX12_elevens_0 (by decide) ?_
  refine lv_lstore_n (lv' := [(1, .long 1), (0, .int a0)]) hx hb dX12_elevens_1 rfl hl (by decide) rfl (fun ls hl => ?_)
  refine lv_iconst (v := 0) hx hb dX12_elevens_2 (by decide) ?_
  refine lv_istore_n (lv' := [(3, .int 0), (1, .long 1), (0, .int a0)]) hx hb dX12_elevens_3 rfl hl (by decide) rfl (fun ls hl => ?_)
  obtain ⟨n4, h⟩ := h
  exact bX12_elevens_4 X n4 a0 1 0 _ _ _ _ _  h hW (lv_sub hl [2, 1, 0] rfl)
def wX12_isUsed (g : GS) (a1 : Int32) (a2 : Int32) (a3 : Int32) (I : MI) (J : MJ) (Q : Int32 → MI → MJ → Prop) : Prop :=
  ((a2 ≤ 0 → Q 0 I J) ∧ (¬ a2 ≤ 0 → wX12_elevens g (a1 - 1) I J (fun r9 I9 J9 => vp_in (((4 * (a1 - 1)) + a2) - 1) 36 ∧ (vp_in ((4 * (a1 - 1)) + a2) 36 ∧ ((((lg_cmp (((Int32.toInt64 a3) * r9) + (J9 32 0 (Int32.toNatClampNeg (((4 * (a1 - 1)) + a2) - 1)))) (J9 32 0 (Int32.toNatClampNeg ((4 * (a1 - 1)) + a2)))) ≤ 0 → Q 0 I9 J9) ∧ (¬ (lg_cmp (((Int32.toInt64 a3) * r9) + (J9 32 0 (Int32.toNatClampNeg (((4 * (a1 - 1)) + a2) - 1)))) (J9 32 0 (Int32.toNatClampNeg ((4 * (a1 - 1)) + a2)))) ≤ 0 → Q 1 I9 J9)))))))
theorem mbX12_isUsed : MB yX12_isUsed cX12_isUsed 4 ((Option.some FieldType.boolean)) 3 := ⟨tw1194, tw7, ⟨by decide, by decide⟩, by decide +kernel, by decide +kernel⟩
set_option maxHeartbeats 4000000 in
set_option maxRecDepth 100000 in
theorem kX12_isUsed {l : Launch} {E : WE} {a1 : Int32} {a2 : Int32} {a3 : Int32} {I : MI} {J : MJ} {Q : Int32 → MI → MJ → Prop} (h : wX12_isUsed (wg E) a1 a2 a3 I J Q) : Met l yX12_isUsed (wsM yX12_isUsed cX12_isUsed 4 ((Option.some FieldType.boolean))) (rmO 1 23) (va_Pc [.ref (wa E 17 0), .int a1, .int a2, .int a3] (Wp E I J)) (QI E Q) 0 0 (AA E) := by
  refine m_entry mbX12_isUsed (Nat.le_of_ble_eq_true rfl) ?_
  intro p e s m args below meth c X ls hW hl
  have X : Cx E cX12_isUsed 4 RX12 ((Option.some FieldType.boolean)) p s m args c meth := X
  have hx := X.1.1
  have hb := X.1.2.1
  have hl : lv_has ls 4 [(0, .ref (wa E 17 0)), (1, .int a1), (2, .int a2), (3, .int a3)] := hl
  refine lv_iload_n hx hb dX12_isUsed_0 rfl (lv_at hl 2 rfl) ?_
  refine lv_if_le (tgt := 48) hx hb dX12_isUsed_1 (by decide) (fun c1 => ?_) (fun c1 => ?_)
  · have h := h.1 c1
    refine lv_iconst (v := 0) hx hb dX12_isUsed_48 (by decide) ?_
    exact e_z X hW rfl h dX12_isUsed_49
  · have h := h.2 c1
    refine lv_iload_n hx hb dX12_isUsed_4 rfl (lv_at hl 3 rfl) ?_
    refine lv_i2l hx hb dX12_isUsed_5 rfl ?_
    refine lv_iload_n hx hb dX12_isUsed_6 rfl (lv_at hl 1 rfl) ?_
    refine lv_iconst (v := 1) hx hb dX12_isUsed_7 (by decide) ?_
    refine lv_isub hx hb dX12_isUsed_8 ?_
    refine af_l hW (rn_S X hW (As := [.int (a1 - 1)]) (rest := [.long (Int32.toInt64 a3)]) (kX12_elevens h) mbX12_elevens tw1195 tw1196 rfl hl.1 (Nat.le_of_ble_eq_true rfl) ⟨(Nat.le_of_ble_eq_true rfl), (Nat.le_of_ble_eq_true rfl)⟩ dX12_isUsed_9) (fun r9 I9 J9 H locs h hW => ?_)
    refine lv_lmul hx hb dX12_isUsed_12 ?_
    refine lv_aload_n hx hb dX12_isUsed_13 rfl (lv_at hl 0 rfl) ?_
    refine r_get X hW 33 (okS hW sc17_0) rfl rfl inX12 (Nat.le_of_ble_eq_true rfl) tw867 rfl dX12_isUsed_14 ?_
    refine lv_iconst (v := 4) hx hb dX12_isUsed_17 (by decide) ?_
    refine lv_iload_n hx hb dX12_isUsed_18 rfl (lv_at hl 1 rfl) ?_
    refine lv_iconst (v := 1) hx hb dX12_isUsed_19 (by decide) ?_
    refine lv_isub hx hb dX12_isUsed_20 ?_
    refine lv_imul hx hb dX12_isUsed_21 ?_
    refine lv_iload_n hx hb dX12_isUsed_22 rfl (lv_at hl 2 rfl) ?_
    refine lv_iadd hx hb dX12_isUsed_23 ?_
    refine lv_iconst (v := 1) hx hb dX12_isUsed_24 (by decide) ?_
    refine lv_isub hx hb dX12_isUsed_25 ?_
    refine r_lald X hW (okS hW sc32_0) rfl h.1 dX12_isUsed_26 ?_
    have h := h.2
    refine lv_ladd hx hb dX12_isUsed_27 ?_
    refine lv_aload_n hx hb dX12_isUsed_28 rfl (lv_at hl 0 rfl) ?_
    refine r_get X hW 33 (okS hW sc17_0) rfl rfl inX12 (Nat.le_of_ble_eq_true rfl) tw867 rfl dX12_isUsed_29 ?_
    refine lv_iconst (v := 4) hx hb dX12_isUsed_32 (by decide) ?_
    refine lv_iload_n hx hb dX12_isUsed_33 rfl (lv_at hl 1 rfl) ?_
    refine lv_iconst (v := 1) hx hb dX12_isUsed_34 (by decide) ?_
    refine lv_isub hx hb dX12_isUsed_35 ?_
    refine lv_imul hx hb dX12_isUsed_36 ?_
    refine lv_iload_n hx hb dX12_isUsed_37 rfl (lv_at hl 2 rfl) ?_
    refine lv_iadd hx hb dX12_isUsed_38 ?_
    refine r_lald X hW (okS hW sc32_0) rfl h.1 dX12_isUsed_39 ?_
    have h := h.2
    refine W.lcmp hx hb dX12_isUsed_40 ?_
    refine lv_if_le (tgt := 48) hx hb dX12_isUsed_41 (by decide) (fun c41 => ?_) (fun c41 => ?_)
    · have h := h.1 c41
      refine lv_iconst (v := 0) hx hb dX12_isUsed_48 (by decide) ?_
      exact e_z X hW rfl h dX12_isUsed_49
    · have h := h.2 c41
      refine lv_iconst (v := 1) hx hb dX12_isUsed_44 (by decide) ?_
      refine lv_goto (tgt := 49) hx hb dX12_isUsed_45 (by decide) ?_
      exact e_z X hW rfl h dX12_isUsed_49
def wX12_layVetoes_b100 (g : GS) (ko22 : Int32 → Int32 → MI → MJ → Prop) (ko29 : Int32 → Int32 → Int32 → MI → MJ → Prop) (ko40 : Int32 → Int32 → Int32 → Int64 → Int32 → MI → MJ → Prop) (Q : MI → MJ → Prop) (v1 : Int32) (v2 : Int32) (v3 : Int32) (v6 : Int32) (t0 : Int64) (t1 : Int64) (I : MI) (J : MJ) : Prop :=
  ko40 v1 v2 v3 (t1 + t0) (v6 + 1) I J
set_option maxHeartbeats 4000000 in
set_option maxRecDepth 100000 in
theorem bX12_layVetoes_100 {p : Program} {l : Launch} {e : Env} {s : State} {m : MethodId} {args : Array Value} {below : List Frame} {meth : Method} {c : Code} {E : WE} {Q : MI → MJ → Prop} {ko22 : Int32 → Int32 → MI → MJ → Prop} {ko29 : Int32 → Int32 → Int32 → MI → MJ → Prop} {ko40 : Int32 → Int32 → Int32 → Int64 → Int32 → MI → MJ → Prop} (X : Cx E cX12_layVetoes 7 RX12 ((Option.none : Option FieldType)) p s m args c meth)
    (hk22 : ∀ (v1 : Int32) (v2 : Int32) (I : MI) (J : MJ) (H : Heap) (locs : List Loc) (ls : Array Slot), ko22 v1 v2 I J → Wd E I J s H locs → lv_has ls 7 [(0, .ref (wa E 17 0)), (1, .int v1), (2, .int v2)] → W p l e (rmO 2 46) s m args below meth c H locs 0 0 (MQ below (QV E Q) args s 0 0 (AA E)) (F0 m 22 ls []))
    (hk29 : ∀ (v1 : Int32) (v2 : Int32) (v3 : Int32) (I : MI) (J : MJ) (H : Heap) (locs : List Loc) (ls : Array Slot), ko29 v1 v2 v3 I J → Wd E I J s H locs → lv_has ls 7 [(0, .ref (wa E 17 0)), (1, .int v1), (2, .int v2), (3, .int v3)] → W p l e (rmO 2 46) s m args below meth c H locs 0 0 (MQ below (QV E Q) args s 0 0 (AA E)) (F0 m 29 ls []))
    (hk40 : ∀ (v1 : Int32) (v2 : Int32) (v3 : Int32) (v4 : Int64) (v6 : Int32) (I : MI) (J : MJ) (H : Heap) (locs : List Loc) (ls : Array Slot), ko40 v1 v2 v3 v4 v6 I J → Wd E I J s H locs → lv_has ls 7 [(0, .ref (wa E 17 0)), (1, .int v1), (2, .int v2), (3, .int v3), (4, .long v4), (6, .int v6)] → W p l e (rmO 2 46) s m args below meth c H locs 0 0 (MQ below (QV E Q) args s 0 0 (AA E)) (F0 m 40 ls [])) : ∀ (v1 : Int32) (v2 : Int32) (v3 : Int32) (v6 : Int32) (t0 : Int64) (t1 : Int64) (I : MI) (J : MJ) (H : Heap) (locs : List Loc) (ls : Array Slot), wX12_layVetoes_b100 (wg E) ko22 ko29 ko40 Q v1 v2 v3 v6 t0 t1 I J → Wd E I J s H locs → lv_has ls 7 [(0, .ref (wa E 17 0)), (1, .int v1), (2, .int v2), (3, .int v3), (6, .int v6)] → W p l e (rmO 2 46) s m args below meth c H locs 0 0 (MQ below (QV E Q) args s 0 0 (AA E)) (F0 m 100 ls [.long t0, .long t1]) := by
  have hx := X.1.1
  have hb := X.1.2.1
  intro v1 v2 v3 v6 t0 t1 I J H locs ls h hW hl
  refine lv_ladd hx hb dX12_layVetoes_100 ?_
  refine lv_lstore (lv' := [(4, .long (t1 + t0)), (0, .ref (wa E 17 0)), (1, .int v1), (2, .int v2), (3, .int v3), (6, .int v6)]) hx hb dX12_layVetoes_101 hl (by decide) rfl (fun ls hl => ?_)
  refine lv_iinc (v := v6 + 1) (lv' := [(6, .int (v6 + 1)), (4, .long (t1 + t0)), (0, .ref (wa E 17 0)), (1, .int v1), (2, .int v2), (3, .int v3)]) hx hb dX12_layVetoes_103 hl (k := 5) rfl rfl (by decide) rfl (fun ls hl => ?_)
  refine lv_goto (tgt := 40) hx hb dX12_layVetoes_106 (by decide) ?_
  exact hk40 v1 v2 v3 (t1 + t0) (v6 + 1) _ _ _ _ _  h hW (lv_sub hl [2, 3, 4, 5, 1, 0] rfl)
def wX12_layVetoes_b40 (g : GS) (ko22 : Int32 → Int32 → MI → MJ → Prop) (ko29 : Int32 → Int32 → Int32 → MI → MJ → Prop) (Q : MI → MJ → Prop) : Nat → Int32 → Int32 → Int32 → Int64 → Int32 → MI → MJ → Prop
  | 0, _, _, _, _, _, _, _ => False
  | n + 1, v1, v2, v3, v4, v6, I, J => ((11 ≤ v6 → vp_in ((4 * v2) + v3) 36 ∧ (ko29 v1 v2 (v3 + 1) I (u3 J 32 0 (vp_updL (J 32 0) (Int32.toNatClampNeg ((4 * v2) + v3)) v4)))) ∧ (¬ 11 ≤ v6 → wX12_isUsed g v2 v3 v6 I J (fun r54 I54 J54 => ((r54 = 0 → vp_in ((4 * (v2 - 1)) + v3) 36 ∧ (wX12_layVetoes_b100 g ko22 ko29 (fun v1 v2 v3 v4 v6 I J => wX12_layVetoes_b40 g ko22 ko29 Q n v1 v2 v3 v4 v6 I J) Q v1 v2 v3 v6 (J54 32 0 (Int32.toNatClampNeg ((4 * (v2 - 1)) + v3))) v4 I54 J54)) ∧ (¬ r54 = 0 → wX12_elevens g (v2 - 1) I54 J54 (fun r66 I66 J66 => vp_in (((4 * (v2 - 1)) + v3) - 1) 36 ∧ (wX12_layVetoes_b100 g ko22 ko29 (fun v1 v2 v3 v4 v6 I J => wX12_layVetoes_b40 g ko22 ko29 Q n v1 v2 v3 v4 v6 I J) Q v1 v2 v3 v6 (((Int32.toInt64 v6) * r66) + (J66 32 0 (Int32.toNatClampNeg (((4 * (v2 - 1)) + v3) - 1)))) v4 I66 J66)))))))
set_option maxHeartbeats 4000000 in
set_option maxRecDepth 100000 in
theorem bX12_layVetoes_40 {p : Program} {l : Launch} {e : Env} {s : State} {m : MethodId} {args : Array Value} {below : List Frame} {meth : Method} {c : Code} {E : WE} {Q : MI → MJ → Prop} {ko22 : Int32 → Int32 → MI → MJ → Prop} {ko29 : Int32 → Int32 → Int32 → MI → MJ → Prop} (X : Cx E cX12_layVetoes 7 RX12 ((Option.none : Option FieldType)) p s m args c meth)
    (hk22 : ∀ (v1 : Int32) (v2 : Int32) (I : MI) (J : MJ) (H : Heap) (locs : List Loc) (ls : Array Slot), ko22 v1 v2 I J → Wd E I J s H locs → lv_has ls 7 [(0, .ref (wa E 17 0)), (1, .int v1), (2, .int v2)] → W p l e (rmO 2 46) s m args below meth c H locs 0 0 (MQ below (QV E Q) args s 0 0 (AA E)) (F0 m 22 ls []))
    (hk29 : ∀ (v1 : Int32) (v2 : Int32) (v3 : Int32) (I : MI) (J : MJ) (H : Heap) (locs : List Loc) (ls : Array Slot), ko29 v1 v2 v3 I J → Wd E I J s H locs → lv_has ls 7 [(0, .ref (wa E 17 0)), (1, .int v1), (2, .int v2), (3, .int v3)] → W p l e (rmO 2 46) s m args below meth c H locs 0 0 (MQ below (QV E Q) args s 0 0 (AA E)) (F0 m 29 ls [])) (n : Nat) : ∀ (v1 : Int32) (v2 : Int32) (v3 : Int32) (v4 : Int64) (v6 : Int32) (I : MI) (J : MJ) (H : Heap) (locs : List Loc) (ls : Array Slot), wX12_layVetoes_b40 (wg E) ko22 ko29 Q n v1 v2 v3 v4 v6 I J → Wd E I J s H locs → lv_has ls 7 [(0, .ref (wa E 17 0)), (1, .int v1), (2, .int v2), (3, .int v3), (4, .long v4), (6, .int v6)] → W p l e (rmO 2 46) s m args below meth c H locs 0 0 (MQ below (QV E Q) args s 0 0 (AA E)) (F0 m 40 ls []) := by
  have hx := X.1.1
  have hb := X.1.2.1
  induction n with
  | zero => intro v1 v2 v3 v4 v6 I J H locs ls h hW hl; exact h.elim
  | succ n ih =>
    intro v1 v2 v3 v4 v6 I J H locs ls h hW hl
    refine lv_iload hx hb dX12_layVetoes_40 (lv_at hl 5 rfl) ?_
    refine lv_bipush (v := 11) hx hb dX12_layVetoes_42 (by decide) ?_
    refine lv_icmp_ge (tgt := 109) hx hb dX12_layVetoes_44 (by decide) (fun c44 => ?_) (fun c44 => ?_)
    · have h := h.1 c44
      refine lv_aload_n hx hb dX12_layVetoes_109 rfl (lv_at hl 0 rfl) ?_
      refine r_get X hW 33 (okS hW sc17_0) rfl rfl inX12 (Nat.le_of_ble_eq_true rfl) tw867 rfl dX12_layVetoes_110 ?_
      refine lv_iconst (v := 4) hx hb dX12_layVetoes_113 (by decide) ?_
      refine lv_iload_n hx hb dX12_layVetoes_114 rfl (lv_at hl 2 rfl) ?_
      refine lv_imul hx hb dX12_layVetoes_115 ?_
      refine lv_iload_n hx hb dX12_layVetoes_116 rfl (lv_at hl 3 rfl) ?_
      refine lv_iadd hx hb dX12_layVetoes_117 ?_
      refine lv_lload hx hb dX12_layVetoes_118 (lv_at hl 4 rfl) ?_
      refine r_last X hW (okS hW sc32_0) (fun _ => rfl) h.1 dX12_layVetoes_120 (fun H locs hW => ?_)
      have h := h.2
      refine lv_iinc (v := v3 + 1) (lv' := [(3, .int (v3 + 1)), (0, .ref (wa E 17 0)), (1, .int v1), (2, .int v2), (4, .long v4), (6, .int v6)]) hx hb dX12_layVetoes_121 hl (k := 3) rfl rfl (by decide) rfl (fun ls hl => ?_)
      refine lv_goto (tgt := 29) hx hb dX12_layVetoes_124 (by decide) ?_
      exact hk29 v1 v2 (v3 + 1) _ _ _ _ _  h hW (lv_sub hl [1, 2, 3, 0] rfl)
    · have h := h.2 c44
      refine lv_lload hx hb dX12_layVetoes_47 (lv_at hl 4 rfl) ?_
      refine lv_aload_n hx hb dX12_layVetoes_49 rfl (lv_at hl 0 rfl) ?_
      refine lv_iload_n hx hb dX12_layVetoes_50 rfl (lv_at hl 2 rfl) ?_
      refine lv_iload_n hx hb dX12_layVetoes_51 rfl (lv_at hl 3 rfl) ?_
      refine lv_iload hx hb dX12_layVetoes_52 (lv_at hl 5 rfl) ?_
      refine af_i hW (rn_V X hW (As := [.int v2, .int v3, .int v6]) (rest := [.long v4]) (okS hW sc17_0) rfl rfl (kX12_isUsed h) mbX12_isUsed tw1191 tw1193 tp52 rfl hl.1 (Nat.le_of_ble_eq_true rfl) ⟨(Nat.le_of_ble_eq_true rfl), (Nat.le_of_ble_eq_true rfl)⟩ dX12_layVetoes_54) (fun r54 I54 J54 H locs h hW => ?_)
      refine lv_if_eq (tgt := 88) hx hb dX12_layVetoes_57 (by decide) (fun c57 => ?_) (fun c57 => ?_)
      · have h := h.1 c57
        refine lv_aload_n hx hb dX12_layVetoes_88 rfl (lv_at hl 0 rfl) ?_
        refine r_get X hW 33 (okS hW sc17_0) rfl rfl inX12 (Nat.le_of_ble_eq_true rfl) tw867 rfl dX12_layVetoes_89 ?_
        refine lv_iconst (v := 4) hx hb dX12_layVetoes_92 (by decide) ?_
        refine lv_iload_n hx hb dX12_layVetoes_93 rfl (lv_at hl 2 rfl) ?_
        refine lv_iconst (v := 1) hx hb dX12_layVetoes_94 (by decide) ?_
        refine lv_isub hx hb dX12_layVetoes_95 ?_
        refine lv_imul hx hb dX12_layVetoes_96 ?_
        refine lv_iload_n hx hb dX12_layVetoes_97 rfl (lv_at hl 3 rfl) ?_
        refine lv_iadd hx hb dX12_layVetoes_98 ?_
        refine r_lald X hW (okS hW sc32_0) rfl h.1 dX12_layVetoes_99 ?_
        have h := h.2
        exact bX12_layVetoes_100 X hk22 hk29 ih v1 v2 v3 v6 (J54 32 0 (Int32.toNatClampNeg ((4 * (v2 - 1)) + v3))) v4 _ _ _ _ _  h hW (lv_sub hl [0, 1, 2, 3, 5] rfl)
      · have h := h.2 c57
        refine lv_iload hx hb dX12_layVetoes_60 (lv_at hl 5 rfl) ?_
        refine lv_i2l hx hb dX12_layVetoes_62 rfl ?_
        refine lv_iload_n hx hb dX12_layVetoes_63 rfl (lv_at hl 2 rfl) ?_
        refine lv_iconst (v := 1) hx hb dX12_layVetoes_64 (by decide) ?_
        refine lv_isub hx hb dX12_layVetoes_65 ?_
        refine af_l hW (rn_S X hW (As := [.int (v2 - 1)]) (rest := [.long (Int32.toInt64 v6), .long v4]) (kX12_elevens h) mbX12_elevens tw1195 tw1196 rfl hl.1 (Nat.le_of_ble_eq_true rfl) ⟨(Nat.le_of_ble_eq_true rfl), (Nat.le_of_ble_eq_true rfl)⟩ dX12_layVetoes_66) (fun r66 I66 J66 H locs h hW => ?_)
        refine lv_lmul hx hb dX12_layVetoes_69 ?_
        refine lv_aload_n hx hb dX12_layVetoes_70 rfl (lv_at hl 0 rfl) ?_
        refine r_get X hW 33 (okS hW sc17_0) rfl rfl inX12 (Nat.le_of_ble_eq_true rfl) tw867 rfl dX12_layVetoes_71 ?_
        refine lv_iconst (v := 4) hx hb dX12_layVetoes_74 (by decide) ?_
        refine lv_iload_n hx hb dX12_layVetoes_75 rfl (lv_at hl 2 rfl) ?_
        refine lv_iconst (v := 1) hx hb dX12_layVetoes_76 (by decide) ?_
        refine lv_isub hx hb dX12_layVetoes_77 ?_
        refine lv_imul hx hb dX12_layVetoes_78 ?_
        refine lv_iload_n hx hb dX12_layVetoes_79 rfl (lv_at hl 3 rfl) ?_
        refine lv_iadd hx hb dX12_layVetoes_80 ?_
        refine lv_iconst (v := 1) hx hb dX12_layVetoes_81 (by decide) ?_
        refine lv_isub hx hb dX12_layVetoes_82 ?_
        refine r_lald X hW (okS hW sc32_0) rfl h.1 dX12_layVetoes_83 ?_
        have h := h.2
        refine lv_ladd hx hb dX12_layVetoes_84 ?_
        refine lv_goto (tgt := 100) hx hb dX12_layVetoes_85 (by decide) ?_
        exact bX12_layVetoes_100 X hk22 hk29 ih v1 v2 v3 v6 (((Int32.toInt64 v6) * r66) + (J66 32 0 (Int32.toNatClampNeg (((4 * (v2 - 1)) + v3) - 1)))) v4 _ _ _ _ _  h hW (lv_sub hl [0, 1, 2, 3, 5] rfl)
def wX12_layVetoes_b29 (g : GS) (ko22 : Int32 → Int32 → MI → MJ → Prop) (Q : MI → MJ → Prop) : Nat → Int32 → Int32 → Int32 → MI → MJ → Prop
  | 0, _, _, _, _, _ => False
  | n + 1, v1, v2, v3, I, J => ((4 ≤ v3 → ko22 v1 (v2 + 1) I J) ∧ (¬ 4 ≤ v3 → ∃ n40, wX12_layVetoes_b40 g ko22 (fun v1 v2 v3 I J => wX12_layVetoes_b29 g ko22 Q n v1 v2 v3 I J) Q n40 v1 v2 v3 0 0 I J))
set_option maxHeartbeats 4000000 in
set_option maxRecDepth 100000 in
theorem bX12_layVetoes_29 {p : Program} {l : Launch} {e : Env} {s : State} {m : MethodId} {args : Array Value} {below : List Frame} {meth : Method} {c : Code} {E : WE} {Q : MI → MJ → Prop} {ko22 : Int32 → Int32 → MI → MJ → Prop} (X : Cx E cX12_layVetoes 7 RX12 ((Option.none : Option FieldType)) p s m args c meth)
    (hk22 : ∀ (v1 : Int32) (v2 : Int32) (I : MI) (J : MJ) (H : Heap) (locs : List Loc) (ls : Array Slot), ko22 v1 v2 I J → Wd E I J s H locs → lv_has ls 7 [(0, .ref (wa E 17 0)), (1, .int v1), (2, .int v2)] → W p l e (rmO 2 46) s m args below meth c H locs 0 0 (MQ below (QV E Q) args s 0 0 (AA E)) (F0 m 22 ls [])) (n : Nat) : ∀ (v1 : Int32) (v2 : Int32) (v3 : Int32) (I : MI) (J : MJ) (H : Heap) (locs : List Loc) (ls : Array Slot), wX12_layVetoes_b29 (wg E) ko22 Q n v1 v2 v3 I J → Wd E I J s H locs → lv_has ls 7 [(0, .ref (wa E 17 0)), (1, .int v1), (2, .int v2), (3, .int v3)] → W p l e (rmO 2 46) s m args below meth c H locs 0 0 (MQ below (QV E Q) args s 0 0 (AA E)) (F0 m 29 ls []) := by
  have hx := X.1.1
  have hb := X.1.2.1
  induction n with
  | zero => intro v1 v2 v3 I J H locs ls h hW hl; exact h.elim
  | succ n ih =>
    intro v1 v2 v3 I J H locs ls h hW hl
    refine lv_iload_n hx hb dX12_layVetoes_29 rfl (lv_at hl 3 rfl) ?_
    refine lv_iconst (v := 4) hx hb dX12_layVetoes_30 (by decide) ?_
    refine lv_icmp_ge (tgt := 127) hx hb dX12_layVetoes_31 (by decide) (fun c31 => ?_) (fun c31 => ?_)
    · have h := h.1 c31
      refine lv_iinc (v := v2 + 1) (lv' := [(2, .int (v2 + 1)), (0, .ref (wa E 17 0)), (1, .int v1), (3, .int v3)]) hx hb dX12_layVetoes_127 hl (k := 2) rfl rfl (by decide) rfl (fun ls hl => ?_)
      refine lv_goto (tgt := 22) hx hb dX12_layVetoes_130 (by decide) ?_
      exact hk22 v1 (v2 + 1) _ _ _ _ _  h hW (lv_sub hl [1, 2, 0] rfl)
    · have h := h.2 c31
      refine lv_lconst (v := 0) hx hb dX12_layVetoes_34 (by decide) ?_
      refine lv_lstore (lv' := [(4, .long 0), (0, .ref (wa E 17 0)), (1, .int v1), (2, .int v2), (3, .int v3)]) hx hb dX12_layVetoes_35 hl (by decide) rfl (fun ls hl => ?_)
      refine lv_iconst (v := 0) hx hb dX12_layVetoes_37 (by decide) ?_
      refine lv_istore (lv' := [(6, .int 0), (4, .long 0), (0, .ref (wa E 17 0)), (1, .int v1), (2, .int v2), (3, .int v3)]) hx hb dX12_layVetoes_38 hl (by decide) rfl (fun ls hl => ?_)
      obtain ⟨n40, h⟩ := h
      exact bX12_layVetoes_40 X hk22 ih n40 v1 v2 v3 0 0 _ _ _ _ _  h hW (lv_sub hl [2, 3, 4, 5, 1, 0] rfl)
def wX12_layVetoes_b22 (g : GS) (Q : MI → MJ → Prop) : Nat → Int32 → Int32 → MI → MJ → Prop
  | 0, _, _, _, _ => False
  | n + 1, v1, v2, I, J => ((v1 < v2 → Q I J) ∧ (¬ v1 < v2 → ∃ n29, wX12_layVetoes_b29 g (fun v1 v2 I J => wX12_layVetoes_b22 g Q n v1 v2 I J) Q n29 v1 v2 0 I J))
set_option maxHeartbeats 4000000 in
set_option maxRecDepth 100000 in
theorem bX12_layVetoes_22 {p : Program} {l : Launch} {e : Env} {s : State} {m : MethodId} {args : Array Value} {below : List Frame} {meth : Method} {c : Code} {E : WE} {Q : MI → MJ → Prop} (X : Cx E cX12_layVetoes 7 RX12 ((Option.none : Option FieldType)) p s m args c meth) (n : Nat) : ∀ (v1 : Int32) (v2 : Int32) (I : MI) (J : MJ) (H : Heap) (locs : List Loc) (ls : Array Slot), wX12_layVetoes_b22 (wg E) Q n v1 v2 I J → Wd E I J s H locs → lv_has ls 7 [(0, .ref (wa E 17 0)), (1, .int v1), (2, .int v2)] → W p l e (rmO 2 46) s m args below meth c H locs 0 0 (MQ below (QV E Q) args s 0 0 (AA E)) (F0 m 22 ls []) := by
  have hx := X.1.1
  have hb := X.1.2.1
  induction n with
  | zero => intro v1 v2 I J H locs ls h hW hl; exact h.elim
  | succ n ih =>
    intro v1 v2 I J H locs ls h hW hl
    refine lv_iload_n hx hb dX12_layVetoes_22 rfl (lv_at hl 2 rfl) ?_
    refine lv_iload_n hx hb dX12_layVetoes_23 rfl (lv_at hl 1 rfl) ?_
    refine lv_icmp_gt (tgt := 133) hx hb dX12_layVetoes_24 (by decide) (fun c24 => ?_) (fun c24 => ?_)
    · have h := h.1 c24
      exact e_v X hW h dX12_layVetoes_133
    · have h := h.2 c24
      refine lv_iconst (v := 0) hx hb dX12_layVetoes_27 (by decide) ?_
      refine lv_istore_n (lv' := [(3, .int 0), (0, .ref (wa E 17 0)), (1, .int v1), (2, .int v2)]) hx hb dX12_layVetoes_28 rfl hl (by decide) rfl (fun ls hl => ?_)
      obtain ⟨n29, h⟩ := h
      exact bX12_layVetoes_29 X ih n29 v1 v2 0 _ _ _ _ _  h hW (lv_sub hl [1, 2, 3, 0] rfl)
def wX12_layVetoes_b2 (g : GS) (Q : MI → MJ → Prop) : Nat → Int32 → Int32 → MI → MJ → Prop
  | 0, _, _, _, _ => False
  | n + 1, v1, v2, I, J => ((4 ≤ v2 → ∃ n22, wX12_layVetoes_b22 g Q n22 v1 1 I J) ∧ (¬ 4 ≤ v2 → vp_in v2 36 ∧ (wX12_layVetoes_b2 g Q n v1 (v2 + 1) I (u3 J 32 0 (vp_updL (J 32 0) (Int32.toNatClampNeg v2) 0)))))
set_option maxHeartbeats 4000000 in
set_option maxRecDepth 100000 in
theorem bX12_layVetoes_2 {p : Program} {l : Launch} {e : Env} {s : State} {m : MethodId} {args : Array Value} {below : List Frame} {meth : Method} {c : Code} {E : WE} {Q : MI → MJ → Prop} (X : Cx E cX12_layVetoes 7 RX12 ((Option.none : Option FieldType)) p s m args c meth) (n : Nat) : ∀ (v1 : Int32) (v2 : Int32) (I : MI) (J : MJ) (H : Heap) (locs : List Loc) (ls : Array Slot), wX12_layVetoes_b2 (wg E) Q n v1 v2 I J → Wd E I J s H locs → lv_has ls 7 [(0, .ref (wa E 17 0)), (1, .int v1), (2, .int v2)] → W p l e (rmO 2 46) s m args below meth c H locs 0 0 (MQ below (QV E Q) args s 0 0 (AA E)) (F0 m 2 ls []) := by
  have hx := X.1.1
  have hb := X.1.2.1
  induction n with
  | zero => intro v1 v2 I J H locs ls h hW hl; exact h.elim
  | succ n ih =>
    intro v1 v2 I J H locs ls h hW hl
    refine lv_iload_n hx hb dX12_layVetoes_2 rfl (lv_at hl 2 rfl) ?_
    refine lv_iconst (v := 4) hx hb dX12_layVetoes_3 (by decide) ?_
    refine lv_icmp_ge (tgt := 20) hx hb dX12_layVetoes_4 (by decide) (fun c4 => ?_) (fun c4 => ?_)
    · have h := h.1 c4
      refine lv_iconst (v := 1) hx hb dX12_layVetoes_20 (by decide) ?_
      refine lv_istore_n (lv' := [(2, .int 1), (0, .ref (wa E 17 0)), (1, .int v1)]) hx hb dX12_layVetoes_21 rfl hl (by decide) rfl (fun ls hl => ?_)
      obtain ⟨n22, h⟩ := h
      exact bX12_layVetoes_22 X n22 v1 1 _ _ _ _ _  h hW (lv_sub hl [1, 2, 0] rfl)
    · have h := h.2 c4
      refine lv_aload_n hx hb dX12_layVetoes_7 rfl (lv_at hl 0 rfl) ?_
      refine r_get X hW 33 (okS hW sc17_0) rfl rfl inX12 (Nat.le_of_ble_eq_true rfl) tw867 rfl dX12_layVetoes_8 ?_
      refine lv_iload_n hx hb dX12_layVetoes_11 rfl (lv_at hl 2 rfl) ?_
      refine lv_lconst (v := 0) hx hb dX12_layVetoes_12 (by decide) ?_
      refine r_last X hW (okS hW sc32_0) (fun _ => rfl) h.1 dX12_layVetoes_13 (fun H locs hW => ?_)
      have h := h.2
      refine lv_iinc (v := v2 + 1) (lv' := [(2, .int (v2 + 1)), (0, .ref (wa E 17 0)), (1, .int v1)]) hx hb dX12_layVetoes_14 hl (k := 2) rfl rfl (by decide) rfl (fun ls hl => ?_)
      refine lv_goto (tgt := 2) hx hb dX12_layVetoes_17 (by decide) ?_
      exact ih v1 (v2 + 1) _ _ _ _ _  h hW (lv_sub hl [1, 2, 0] rfl)
def wX12_layVetoes (g : GS) (a1 : Int32) (I : MI) (J : MJ) (Q : MI → MJ → Prop) : Prop :=
  ∃ n2, wX12_layVetoes_b2 g Q n2 a1 0 I J
theorem mbX12_layVetoes : MB yX12_layVetoes cX12_layVetoes 7 ((Option.none : Option FieldType)) 1 := ⟨tw1190, tw7, ⟨by decide, by decide⟩, by decide +kernel, by decide +kernel⟩
set_option maxHeartbeats 4000000 in
set_option maxRecDepth 100000 in
theorem kX12_layVetoes {l : Launch} {E : WE} {a1 : Int32} {I : MI} {J : MJ} {Q : MI → MJ → Prop} (h : wX12_layVetoes (wg E) a1 I J Q) : Met l yX12_layVetoes (wsM yX12_layVetoes cX12_layVetoes 7 ((Option.none : Option FieldType))) (rmO 2 46) (va_Pc [.ref (wa E 17 0), .int a1] (Wp E I J)) (QV E Q) 0 0 (AA E) := by
  refine m_entry mbX12_layVetoes (Nat.le_of_ble_eq_true rfl) ?_
  intro p e s m args below meth c X ls hW hl
  have X : Cx E cX12_layVetoes 7 RX12 ((Option.none : Option FieldType)) p s m args c meth := X
  have hx := X.1.1
  have hb := X.1.2.1
  have hl : lv_has ls 7 [(0, .ref (wa E 17 0)), (1, .int a1)] := hl
  refine lv_iconst (v := 0) hx hb dX12_layVetoes_0 (by decide) ?_
  refine lv_istore_n (lv' := [(2, .int 0), (0, .ref (wa E 17 0)), (1, .int a1)]) hx hb dX12_layVetoes_1 rfl hl (by decide) rfl (fun ls hl => ?_)
  obtain ⟨n2, h⟩ := h
  exact bX12_layVetoes_2 X n2 a1 0 _ _ _ _ _  h hW (lv_sub hl [1, 2, 0] rfl)
