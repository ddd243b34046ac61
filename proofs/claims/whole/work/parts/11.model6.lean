def wX12_count (g : GS) (a1 : Int32) (I : MI) (J : MJ) (Q : Int32 → MI → MJ → Prop) : Prop :=
  wX12_howMany g a1 I J (fun r2 I2 J2 => Q r2 I2 J2)
theorem mbX12_count : MB yX12_count cX12_count 2 ((Option.some FieldType.int)) 1 := ⟨tw1238, tw7, ⟨by decide, by decide⟩, by decide +kernel, by decide +kernel⟩
set_option maxHeartbeats 4000000 in
set_option maxRecDepth 100000 in
theorem kX12_count {l : Launch} {E : WE} {a1 : Int32} {I : MI} {J : MJ} {Q : Int32 → MI → MJ → Prop} (h : wX12_count (wg E) a1 I J Q) : Met l yX12_count (wsM yX12_count cX12_count 2 ((Option.some FieldType.int))) (rmO 4 87) (va_Pc [.ref (wa E 17 0), .int a1] (Wp E I J)) (QI E Q) 0 0 (AA E) := by
  refine m_entry mbX12_count (Nat.le_of_ble_eq_true rfl) ?_
  intro p e s m args below meth c X ls hW hl
  have X : Cx E cX12_count 2 RX12 ((Option.some FieldType.int)) p s m args c meth := X
  have hx := X.1.1
  have hb := X.1.2.1
  have hl : lv_has ls 2 [(0, .ref (wa E 17 0)), (1, .int a1)] := hl
  refine lv_aload_n hx hb dX12_count_0 rfl (lv_at hl 0 rfl) ?_
  refine lv_iload_n hx hb dX12_count_1 rfl (lv_at hl 1 rfl) ?_
  refine af_i hW (rn_V X hW (As := [.int a1]) (rest := []) (okS hW sc17_0) rfl rfl (kX12_howMany h) mbX12_howMany tw1239 tw1241 tp57 rfl hl.1 (Nat.le_of_ble_eq_true rfl) ⟨(Nat.le_of_ble_eq_true rfl), (Nat.le_of_ble_eq_true rfl)⟩ dX12_count_2) (fun r2 I2 J2 H locs h hW => ?_)
  exact e_i X hW h dX12_count_5
def wX12_mix (g : GS) (a1 : Int64) (I : MI) (J : MJ) (Q : MI → MJ → Prop) : Prop :=
  Q I (u3 J 17 0 (vp_updL (J 17 0) 36 ((31 * (J 17 0 36)) + a1)))
theorem mbX12_mix : MB yX12_mix cX12_mix 3 ((Option.none : Option FieldType)) 1 := ⟨tw1251, tw7, ⟨by decide, by decide⟩, by decide +kernel, by decide +kernel⟩
set_option maxHeartbeats 4000000 in
set_option maxRecDepth 100000 in
theorem kX12_mix {l : Launch} {E : WE} {a1 : Int64} {I : MI} {J : MJ} {Q : MI → MJ → Prop} (h : wX12_mix (wg E) a1 I J Q) : Met l yX12_mix (wsM yX12_mix cX12_mix 3 ((Option.none : Option FieldType))) (rmO 0 0) (va_Pc [.ref (wa E 17 0), .long a1] (Wp E I J)) (QV E Q) 0 0 (AA E) := by
  refine m_entry mbX12_mix (Nat.le_of_ble_eq_true rfl) ?_
  intro p e s m args below meth c X ls hW hl
  have X : Cx E cX12_mix 3 RX12 ((Option.none : Option FieldType)) p s m args c meth := X
  have hx := X.1.1
  have hb := X.1.2.1
  have hl : lv_has ls 3 [(0, .ref (wa E 17 0)), (1, .long a1)] := hl
  refine lv_aload_n hx hb dX12_mix_0 rfl (lv_at hl 0 rfl) ?_
  refine lv_ldc2 hx hb X.1.2.2.2.1 (X.1.2.2.2.2 _ tw1252) dX12_mix_1 ?_
  refine lv_aload_n hx hb dX12_mix_4 rfl (lv_at hl 0 rfl) ?_
  refine r_get X hW 36 (okS hW sc17_0) rfl rfl inX12 (Nat.le_of_ble_eq_true rfl) tw870 rfl dX12_mix_5 ?_
  refine lv_lmul hx hb dX12_mix_8 ?_
  refine lv_lload_n hx hb dX12_mix_9 rfl (lv_at hl 1 rfl) ?_
  refine lv_ladd hx hb dX12_mix_10 ?_
  refine r_putL X hW 36 (okS hW sc17_0) rfl rfl inX12 tyX12 tyX12_ok nmX12 (Nat.le_of_ble_eq_true rfl) tw870 rfl rfl rfl rfl (Nat.le_of_ble_eq_true rfl) rfl dX12_mix_11 (fun H locs hW => ?_)
  exact e_v X hW h dX12_mix_14
def wX12_mixIns_b21 (g : GS) (ko11 : Int32 → Int32 → MI → MJ → Prop) (Q : MI → MJ → Prop) : Nat → Int32 → Int32 → Int32 → MI → MJ → Prop
  | 0, _, _, _, _, _ => False
  | n + 1, v1, v2, v3, I, J => (((I 17 0 4) ≤ v3 → ko11 v1 (v2 + 1) I J) ∧ (¬ (I 17 0 4) ≤ v3 → wX12_inBy g v2 v3 v1 I J (fun r33 I33 J33 => wX12_tens g (2 * (I33 17 0 0)) I33 J33 (fun r47 I47 J47 => wX12_lowest g r33 r47 0 I47 J47 (fun r51 I51 J51 => wX12_mix g r51 I51 J51 (fun I54 J54 => wX12_tens g (2 * (I54 17 0 0)) I54 J54 (fun r66 I66 J66 => wX12_lowest g r33 r66 1 I66 J66 (fun r70 I70 J70 => wX12_mix g r70 I70 J70 (fun I73 J73 => wX12_mixIns_b21 g ko11 Q n v1 v2 (v3 + 1) I73 J73)))))))))
set_option maxHeartbeats 4000000 in
set_option maxRecDepth 100000 in
theorem bX12_mixIns_21 {p : Program} {l : Launch} {e : Env} {s : State} {m : MethodId} {args : Array Value} {below : List Frame} {meth : Method} {c : Code} {E : WE} {Q : MI → MJ → Prop} {ko11 : Int32 → Int32 → MI → MJ → Prop} (X : Cx E cX12_mixIns 6 RX12 ((Option.none : Option FieldType)) p s m args c meth)
    (hk11 : ∀ (v1 : Int32) (v2 : Int32) (I : MI) (J : MJ) (H : Heap) (locs : List Loc) (ls : Array Slot), ko11 v1 v2 I J → Wd E I J s H locs → lv_has ls 6 [(0, .ref (wa E 17 0)), (1, .int v1), (2, .int v2)] → W p l e (rmO 4 106) s m args below meth c H locs 0 0 (MQ below (QV E Q) args s 0 0 (AA E)) (F0 m 11 ls [])) (n : Nat) : ∀ (v1 : Int32) (v2 : Int32) (v3 : Int32) (I : MI) (J : MJ) (H : Heap) (locs : List Loc) (ls : Array Slot), wX12_mixIns_b21 (wg E) ko11 Q n v1 v2 v3 I J → Wd E I J s H locs → lv_has ls 6 [(0, .ref (wa E 17 0)), (1, .int v1), (2, .int v2), (3, .int v3)] → W p l e (rmO 4 106) s m args below meth c H locs 0 0 (MQ below (QV E Q) args s 0 0 (AA E)) (F0 m 21 ls []) := by
  have hx := X.1.1
  have hb := X.1.2.1
  induction n with
  | zero => intro v1 v2 v3 I J H locs ls h hW hl; exact h.elim
  | succ n ih =>
    intro v1 v2 v3 I J H locs ls h hW hl
    refine lv_iload_n hx hb dX12_mixIns_21 rfl (lv_at hl 3 rfl) ?_
    refine lv_aload_n hx hb dX12_mixIns_22 rfl (lv_at hl 0 rfl) ?_
    refine r_get X hW 4 (okS hW sc17_0) rfl rfl inX12 (Nat.le_of_ble_eq_true rfl) tw838 rfl dX12_mixIns_23 ?_
    refine lv_icmp_ge (tgt := 82) hx hb dX12_mixIns_26 (by decide) (fun c26 => ?_) (fun c26 => ?_)
    · have h := h.1 c26
      refine lv_iinc (v := v2 + 1) (lv' := [(2, .int (v2 + 1)), (0, .ref (wa E 17 0)), (1, .int v1), (3, .int v3)]) hx hb dX12_mixIns_82 hl (k := 2) rfl rfl (by decide) rfl (fun ls hl => ?_)
      refine lv_goto (tgt := 11) hx hb dX12_mixIns_85 (by decide) ?_
      exact hk11 v1 (v2 + 1) _ _ _ _ _  h hW (lv_sub hl [1, 2, 0] rfl)
    · have h := h.2 c26
      refine lv_aload_n hx hb dX12_mixIns_29 rfl (lv_at hl 0 rfl) ?_
      refine lv_iload_n hx hb dX12_mixIns_30 rfl (lv_at hl 2 rfl) ?_
      refine lv_iload_n hx hb dX12_mixIns_31 rfl (lv_at hl 3 rfl) ?_
      refine lv_iload_n hx hb dX12_mixIns_32 rfl (lv_at hl 1 rfl) ?_
      refine af_l hW (rn_V X hW (As := [.int v2, .int v3, .int v1]) (rest := []) (okS hW sc17_0) rfl rfl (kX12_inBy h) mbX12_inBy tw1093 tw1095 tp40 rfl hl.1 (Nat.le_of_ble_eq_true rfl) ⟨(Nat.le_of_ble_eq_true rfl), (Nat.le_of_ble_eq_true rfl)⟩ dX12_mixIns_33) (fun r33 I33 J33 H locs h hW => ?_)
      refine lv_lstore (lv' := [(4, .long r33), (0, .ref (wa E 17 0)), (1, .int v1), (2, .int v2), (3, .int v3)]) hx hb dX12_mixIns_36 hl (by decide) rfl (fun ls hl => ?_)
      refine lv_aload_n hx hb dX12_mixIns_38 rfl (lv_at hl 1 rfl) ?_
      refine lv_lload hx hb dX12_mixIns_39 (lv_at hl 0 rfl) ?_
      refine lv_iconst (v := 2) hx hb dX12_mixIns_41 (by decide) ?_
      refine lv_aload_n hx hb dX12_mixIns_42 rfl (lv_at hl 1 rfl) ?_
      refine r_get X hW 0 (okS hW sc17_0) rfl rfl inX12 (Nat.le_of_ble_eq_true rfl) tw834 rfl dX12_mixIns_43 ?_
      refine lv_imul hx hb dX12_mixIns_46 ?_
      refine af_l hW (rn_S X hW (As := [.int (2 * (I33 17 0 0))]) (rest := [.long r33, .ref (wa E 17 0)]) (kX12_tens h) mbX12_tens tw1080 tw1081 rfl hl.1 (Nat.le_of_ble_eq_true rfl) ⟨(Nat.le_of_ble_eq_true rfl), (Nat.le_of_ble_eq_true rfl)⟩ dX12_mixIns_47) (fun r47 I47 J47 H locs h hW => ?_)
      refine lv_iconst (v := 0) hx hb dX12_mixIns_50 (by decide) ?_
      refine af_l hW (rn_S X hW (As := [.long r33, .long r47, .int 0]) (rest := [.ref (wa E 17 0)]) (kX12_lowest h) mbX12_lowest tw1084 tw1085 rfl hl.1 (Nat.le_of_ble_eq_true rfl) ⟨(Nat.le_of_ble_eq_true rfl), (Nat.le_of_ble_eq_true rfl)⟩ dX12_mixIns_51) (fun r51 I51 J51 H locs h hW => ?_)
      refine af_v hW (rn_V X hW (As := [.long r51]) (rest := []) (okS hW sc17_0) rfl rfl (kX12_mix h) mbX12_mix tw1248 tw1250 tp58 rfl hl.1 (Nat.le_of_ble_eq_true rfl) ⟨(Nat.le_of_ble_eq_true rfl), (Nat.le_of_ble_eq_true rfl)⟩ dX12_mixIns_54) (fun I54 J54 H locs h hW => ?_)
      refine lv_aload_n hx hb dX12_mixIns_57 rfl (lv_at hl 1 rfl) ?_
      refine lv_lload hx hb dX12_mixIns_58 (lv_at hl 0 rfl) ?_
      refine lv_iconst (v := 2) hx hb dX12_mixIns_60 (by decide) ?_
      refine lv_aload_n hx hb dX12_mixIns_61 rfl (lv_at hl 1 rfl) ?_
      refine r_get X hW 0 (okS hW sc17_0) rfl rfl inX12 (Nat.le_of_ble_eq_true rfl) tw834 rfl dX12_mixIns_62 ?_
      refine lv_imul hx hb dX12_mixIns_65 ?_
      refine af_l hW (rn_S X hW (As := [.int (2 * (I54 17 0 0))]) (rest := [.long r33, .ref (wa E 17 0)]) (kX12_tens h) mbX12_tens tw1080 tw1081 rfl hl.1 (Nat.le_of_ble_eq_true rfl) ⟨(Nat.le_of_ble_eq_true rfl), (Nat.le_of_ble_eq_true rfl)⟩ dX12_mixIns_66) (fun r66 I66 J66 H locs h hW => ?_)
      refine lv_iconst (v := 1) hx hb dX12_mixIns_69 (by decide) ?_
      refine af_l hW (rn_S X hW (As := [.long r33, .long r66, .int 1]) (rest := [.ref (wa E 17 0)]) (kX12_lowest h) mbX12_lowest tw1084 tw1085 rfl hl.1 (Nat.le_of_ble_eq_true rfl) ⟨(Nat.le_of_ble_eq_true rfl), (Nat.le_of_ble_eq_true rfl)⟩ dX12_mixIns_70) (fun r70 I70 J70 H locs h hW => ?_)
      refine af_v hW (rn_V X hW (As := [.long r70]) (rest := []) (okS hW sc17_0) rfl rfl (kX12_mix h) mbX12_mix tw1248 tw1250 tp58 rfl hl.1 (Nat.le_of_ble_eq_true rfl) ⟨(Nat.le_of_ble_eq_true rfl), (Nat.le_of_ble_eq_true rfl)⟩ dX12_mixIns_73) (fun I73 J73 H locs h hW => ?_)
      refine lv_iinc (v := v3 + 1) (lv' := [(3, .int (v3 + 1)), (4, .long r33), (0, .ref (wa E 17 0)), (1, .int v1), (2, .int v2)]) hx hb dX12_mixIns_76 hl (k := 4) rfl rfl (by decide) rfl (fun ls hl => ?_)
      refine lv_goto (tgt := 21) hx hb dX12_mixIns_79 (by decide) ?_
      exact ih v1 v2 (v3 + 1) _ _ _ _ _  h hW (lv_sub hl [2, 3, 4, 0] rfl)
def wX12_mixIns_b11 (g : GS) (Q : MI → MJ → Prop) : Nat → Int32 → Int32 → MI → MJ → Prop
  | 0, _, _, _, _ => False
  | n + 1, v1, v2, I, J => (((I 17 0 7) ≤ v2 → Q I J) ∧ (¬ (I 17 0 7) ≤ v2 → ∃ n21, wX12_mixIns_b21 g (fun v1 v2 I J => wX12_mixIns_b11 g Q n v1 v2 I J) Q n21 v1 v2 0 I J))
set_option maxHeartbeats 4000000 in
set_option maxRecDepth 100000 in
theorem bX12_mixIns_11 {p : Program} {l : Launch} {e : Env} {s : State} {m : MethodId} {args : Array Value} {below : List Frame} {meth : Method} {c : Code} {E : WE} {Q : MI → MJ → Prop} (X : Cx E cX12_mixIns 6 RX12 ((Option.none : Option FieldType)) p s m args c meth) (n : Nat) : ∀ (v1 : Int32) (v2 : Int32) (I : MI) (J : MJ) (H : Heap) (locs : List Loc) (ls : Array Slot), wX12_mixIns_b11 (wg E) Q n v1 v2 I J → Wd E I J s H locs → lv_has ls 6 [(0, .ref (wa E 17 0)), (1, .int v1), (2, .int v2)] → W p l e (rmO 4 106) s m args below meth c H locs 0 0 (MQ below (QV E Q) args s 0 0 (AA E)) (F0 m 11 ls []) := by
  have hx := X.1.1
  have hb := X.1.2.1
  induction n with
  | zero => intro v1 v2 I J H locs ls h hW hl; exact h.elim
  | succ n ih =>
    intro v1 v2 I J H locs ls h hW hl
    refine lv_iload_n hx hb dX12_mixIns_11 rfl (lv_at hl 2 rfl) ?_
    refine lv_aload_n hx hb dX12_mixIns_12 rfl (lv_at hl 0 rfl) ?_
    refine r_get X hW 7 (okS hW sc17_0) rfl rfl inX12 (Nat.le_of_ble_eq_true rfl) tw841 rfl dX12_mixIns_13 ?_
    refine lv_icmp_ge (tgt := 88) hx hb dX12_mixIns_16 (by decide) (fun c16 => ?_) (fun c16 => ?_)
    · have h := h.1 c16
      exact e_v X hW h dX12_mixIns_88
    · have h := h.2 c16
      refine lv_iconst (v := 0) hx hb dX12_mixIns_19 (by decide) ?_
      refine lv_istore_n (lv' := [(3, .int 0), (0, .ref (wa E 17 0)), (1, .int v1), (2, .int v2)]) hx hb dX12_mixIns_20 rfl hl (by decide) rfl (fun ls hl => ?_)
      obtain ⟨n21, h⟩ := h
      exact bX12_mixIns_21 X ih n21 v1 v2 0 _ _ _ _ _  h hW (lv_sub hl [1, 2, 3, 0] rfl)
def wX12_mixIns (g : GS) (I : MI) (J : MJ) (Q : MI → MJ → Prop) : Prop :=
  ∃ n11, wX12_mixIns_b11 g Q n11 ((1 <<< ((I 17 0 0) &&& 31)) - 1) 0 I J
theorem mbX12_mixIns : MB yX12_mixIns cX12_mixIns 6 ((Option.none : Option FieldType)) 0 := ⟨tw1256, tw7, ⟨by decide, by decide⟩, by decide +kernel, by decide +kernel⟩
set_option maxHeartbeats 4000000 in
set_option maxRecDepth 100000 in
theorem kX12_mixIns {l : Launch} {E : WE} {I : MI} {J : MJ} {Q : MI → MJ → Prop} (h : wX12_mixIns (wg E) I J Q) : Met l yX12_mixIns (wsM yX12_mixIns cX12_mixIns 6 ((Option.none : Option FieldType))) (rmO 4 106) (va_Pc [.ref (wa E 17 0)] (Wp E I J)) (QV E Q) 0 0 (AA E) := by
  refine m_entry mbX12_mixIns (Nat.le_of_ble_eq_true rfl) ?_
  intro p e s m args below meth c X ls hW hl
  have X : Cx E cX12_mixIns 6 RX12 ((Option.none : Option FieldType)) p s m args c meth := X
  have hx := X.1.1
  have hb := X.1.2.1
  have hl : lv_has ls 6 [(0, .ref (wa E 17 0))] := hl
  refine lv_iconst (v := 1) hx hb dX12_mixIns_0 (by decide) ?_
  refine lv_aload_n hx hb dX12_mixIns_1 rfl (lv_at hl 0 rfl) ?_
  refine r_get X hW 0 (okS hW sc17_0) rfl rfl inX12 (Nat.le_of_ble_eq_true rfl) tw834 rfl dX12_mixIns_2 ?_
  refine lv_ishl hx hb dX12_mixIns_5 ?_
  refine lv_iconst (v := 1) hx hb dX12_mixIns_6 (by decide) ?_
  refine lv_isub hx hb dX12_mixIns_7 ?_
  refine lv_istore_n (lv' := [(1, .int ((1 <<< ((I 17 0 0) &&& 31)) - 1)), (0, .ref (wa E 17 0))]) hx hb dX12_mixIns_8 rfl hl (by decide) rfl (fun ls hl => ?_)
  refine lv_iconst (v := 0) hx hb dX12_mixIns_9 (by decide) ?_
  refine lv_istore_n (lv' := [(2, .int 0), (1, .int ((1 <<< ((I 17 0 0) &&& 31)) - 1)), (0, .ref (wa E 17 0))]) hx hb dX12_mixIns_10 rfl hl (by decide) rfl (fun ls hl => ?_)
  obtain ⟨n11, h⟩ := h
  exact bX12_mixIns_11 X n11 ((1 <<< ((I 17 0 0) &&& 31)) - 1) 0 _ _ _ _ _  h hW (lv_sub hl [2, 1, 0] rfl)
def wX12_digest_b19 (g : GS) (ko9 : Int32 → MI → MJ → Prop) (Q : Int64 → MI → MJ → Prop) : Nat → Int32 → Int32 → MI → MJ → Prop
  | 0, _, _, _, _ => False
  | n + 1, v1, v2, I, J => ((5 ≤ v2 → ko9 (v1 + 1) I J) ∧ (¬ 5 ≤ v2 → wX12_ruleNow g v1 v2 I J (fun r28 I28 J28 => wX12_mix g (Int32.toInt64 r28) I28 J28 (fun I32 J32 => wX12_digest_b19 g ko9 Q n v1 (v2 + 1) I32 J32))))
set_option maxHeartbeats 4000000 in
set_option maxRecDepth 100000 in
theorem bX12_digest_19 {p : Program} {l : Launch} {e : Env} {s : State} {m : MethodId} {args : Array Value} {below : List Frame} {meth : Method} {c : Code} {E : WE} {Q : Int64 → MI → MJ → Prop} {ko9 : Int32 → MI → MJ → Prop} (X : Cx E cX12_digest 3 RX12 ((Option.some FieldType.long)) p s m args c meth)
    (hk9 : ∀ (v1 : Int32) (I : MI) (J : MJ) (H : Heap) (locs : List Loc) (ls : Array Slot), ko9 v1 I J → Wd E I J s H locs → lv_has ls 3 [(0, .ref (wa E 17 0)), (1, .int v1)] → W p l e (rmO 5 131) s m args below meth c H locs 0 0 (MQ below (QL E Q) args s 0 0 (AA E)) (F0 m 9 ls [])) (n : Nat) : ∀ (v1 : Int32) (v2 : Int32) (I : MI) (J : MJ) (H : Heap) (locs : List Loc) (ls : Array Slot), wX12_digest_b19 (wg E) ko9 Q n v1 v2 I J → Wd E I J s H locs → lv_has ls 3 [(0, .ref (wa E 17 0)), (1, .int v1), (2, .int v2)] → W p l e (rmO 5 131) s m args below meth c H locs 0 0 (MQ below (QL E Q) args s 0 0 (AA E)) (F0 m 19 ls []) := by
  have hx := X.1.1
  have hb := X.1.2.1
  induction n with
  | zero => intro v1 v2 I J H locs ls h hW hl; exact h.elim
  | succ n ih =>
    intro v1 v2 I J H locs ls h hW hl
    refine lv_iload_n hx hb dX12_digest_19 rfl (lv_at hl 2 rfl) ?_
    refine lv_iconst (v := 5) hx hb dX12_digest_20 (by decide) ?_
    refine lv_icmp_ge (tgt := 41) hx hb dX12_digest_21 (by decide) (fun c21 => ?_) (fun c21 => ?_)
    · have h := h.1 c21
      refine lv_iinc (v := v1 + 1) (lv' := [(1, .int (v1 + 1)), (0, .ref (wa E 17 0)), (2, .int v2)]) hx hb dX12_digest_41 hl (k := 1) rfl rfl (by decide) rfl (fun ls hl => ?_)
      refine lv_goto (tgt := 9) hx hb dX12_digest_44 (by decide) ?_
      exact hk9 (v1 + 1) _ _ _ _ _  h hW (lv_sub hl [1, 0] rfl)
    · have h := h.2 c21
      refine lv_aload_n hx hb dX12_digest_24 rfl (lv_at hl 0 rfl) ?_
      refine lv_aload_n hx hb dX12_digest_25 rfl (lv_at hl 0 rfl) ?_
      refine lv_iload_n hx hb dX12_digest_26 rfl (lv_at hl 1 rfl) ?_
      refine lv_iload_n hx hb dX12_digest_27 rfl (lv_at hl 2 rfl) ?_
      refine af_i hW (rn_V X hW (As := [.int v1, .int v2]) (rest := [.ref (wa E 17 0)]) (okS hW sc17_0) rfl rfl (kX12_ruleNow h) mbX12_ruleNow tw991 tw993 tp29 rfl hl.1 (Nat.le_of_ble_eq_true rfl) ⟨(Nat.le_of_ble_eq_true rfl), (Nat.le_of_ble_eq_true rfl)⟩ dX12_digest_28) (fun r28 I28 J28 H locs h hW => ?_)
      refine lv_i2l hx hb dX12_digest_31 rfl ?_
      refine af_v hW (rn_V X hW (As := [.long (Int32.toInt64 r28)]) (rest := []) (okS hW sc17_0) rfl rfl (kX12_mix h) mbX12_mix tw1248 tw1250 tp58 rfl hl.1 (Nat.le_of_ble_eq_true rfl) ⟨(Nat.le_of_ble_eq_true rfl), (Nat.le_of_ble_eq_true rfl)⟩ dX12_digest_32) (fun I32 J32 H locs h hW => ?_)
      refine lv_iinc (v := v2 + 1) (lv' := [(2, .int (v2 + 1)), (0, .ref (wa E 17 0)), (1, .int v1)]) hx hb dX12_digest_35 hl (k := 2) rfl rfl (by decide) rfl (fun ls hl => ?_)
      refine lv_goto (tgt := 19) hx hb dX12_digest_38 (by decide) ?_
      exact ih v1 (v2 + 1) _ _ _ _ _  h hW (lv_sub hl [1, 2, 0] rfl)
def wX12_digest_b83 (g : GS) (ko49 : Int32 → MI → MJ → Prop) (Q : Int64 → MI → MJ → Prop) : Nat → Int32 → Int32 → MI → MJ → Prop
  | 0, _, _, _, _ => False
  | n + 1, v1, v2, I, J => (((I 17 0 4) ≤ v2 → ko49 (v1 + 1) I J) ∧ (¬ (I 17 0 4) ≤ v2 → vp_in ((6 * v1) + v2) 48 ∧ (wX12_mix g (Int32.toInt64 (I 22 0 (Int32.toNatClampNeg ((6 * v1) + v2)))) I J (fun I104 J104 => wX12_digest_b83 g ko49 Q n v1 (v2 + 1) I104 J104))))
set_option maxHeartbeats 4000000 in
set_option maxRecDepth 100000 in
theorem bX12_digest_83 {p : Program} {l : Launch} {e : Env} {s : State} {m : MethodId} {args : Array Value} {below : List Frame} {meth : Method} {c : Code} {E : WE} {Q : Int64 → MI → MJ → Prop} {ko49 : Int32 → MI → MJ → Prop} (X : Cx E cX12_digest 3 RX12 ((Option.some FieldType.long)) p s m args c meth)
    (hk49 : ∀ (v1 : Int32) (I : MI) (J : MJ) (H : Heap) (locs : List Loc) (ls : Array Slot), ko49 v1 I J → Wd E I J s H locs → lv_has ls 3 [(0, .ref (wa E 17 0)), (1, .int v1)] → W p l e (rmO 5 131) s m args below meth c H locs 0 0 (MQ below (QL E Q) args s 0 0 (AA E)) (F0 m 49 ls [])) (n : Nat) : ∀ (v1 : Int32) (v2 : Int32) (I : MI) (J : MJ) (H : Heap) (locs : List Loc) (ls : Array Slot), wX12_digest_b83 (wg E) ko49 Q n v1 v2 I J → Wd E I J s H locs → lv_has ls 3 [(0, .ref (wa E 17 0)), (1, .int v1), (2, .int v2)] → W p l e (rmO 5 131) s m args below meth c H locs 0 0 (MQ below (QL E Q) args s 0 0 (AA E)) (F0 m 83 ls []) := by
  have hx := X.1.1
  have hb := X.1.2.1
  induction n with
  | zero => intro v1 v2 I J H locs ls h hW hl; exact h.elim
  | succ n ih =>
    intro v1 v2 I J H locs ls h hW hl
    refine lv_iload_n hx hb dX12_digest_83 rfl (lv_at hl 2 rfl) ?_
    refine lv_aload_n hx hb dX12_digest_84 rfl (lv_at hl 0 rfl) ?_
    refine r_get X hW 4 (okS hW sc17_0) rfl rfl inX12 (Nat.le_of_ble_eq_true rfl) tw838 rfl dX12_digest_85 ?_
    refine lv_icmp_ge (tgt := 113) hx hb dX12_digest_88 (by decide) (fun c88 => ?_) (fun c88 => ?_)
    · have h := h.1 c88
      refine lv_iinc (v := v1 + 1) (lv' := [(1, .int (v1 + 1)), (0, .ref (wa E 17 0)), (2, .int v2)]) hx hb dX12_digest_113 hl (k := 1) rfl rfl (by decide) rfl (fun ls hl => ?_)
      refine lv_goto (tgt := 49) hx hb dX12_digest_116 (by decide) ?_
      exact hk49 (v1 + 1) _ _ _ _ _  h hW (lv_sub hl [1, 0] rfl)
    · have h := h.2 c88
      refine lv_aload_n hx hb dX12_digest_91 rfl (lv_at hl 0 rfl) ?_
      refine lv_aload_n hx hb dX12_digest_92 rfl (lv_at hl 0 rfl) ?_
      refine r_get X hW 6 (okS hW sc17_0) rfl rfl inX12 (Nat.le_of_ble_eq_true rfl) tw840 rfl dX12_digest_93 ?_
      refine lv_bipush (v := 6) hx hb dX12_digest_96 (by decide) ?_
      refine lv_iload_n hx hb dX12_digest_98 rfl (lv_at hl 1 rfl) ?_
      refine lv_imul hx hb dX12_digest_99 ?_
      refine lv_iload_n hx hb dX12_digest_100 rfl (lv_at hl 2 rfl) ?_
      refine lv_iadd hx hb dX12_digest_101 ?_
      refine r_iald X hW (okS hW sc22_0) rfl h.1 dX12_digest_102 ?_
      have h := h.2
      refine lv_i2l hx hb dX12_digest_103 rfl ?_
      refine af_v hW (rn_V X hW (As := [.long (Int32.toInt64 (I 22 0 (Int32.toNatClampNeg ((6 * v1) + v2))))]) (rest := []) (okS hW sc17_0) rfl rfl (kX12_mix h) mbX12_mix tw1248 tw1250 tp58 rfl hl.1 (Nat.le_of_ble_eq_true rfl) ⟨(Nat.le_of_ble_eq_true rfl), (Nat.le_of_ble_eq_true rfl)⟩ dX12_digest_104) (fun I104 J104 H locs h hW => ?_)
      refine lv_iinc (v := v2 + 1) (lv' := [(2, .int (v2 + 1)), (0, .ref (wa E 17 0)), (1, .int v1)]) hx hb dX12_digest_107 hl (k := 2) rfl rfl (by decide) rfl (fun ls hl => ?_)
      refine lv_goto (tgt := 83) hx hb dX12_digest_110 (by decide) ?_
      exact ih v1 (v2 + 1) _ _ _ _ _  h hW (lv_sub hl [1, 2, 0] rfl)
def wX12_digest_b59 (g : GS) (ko49 : Int32 → MI → MJ → Prop) (Q : Int64 → MI → MJ → Prop) : Nat → Int32 → Int32 → MI → MJ → Prop
  | 0, _, _, _, _ => False
  | n + 1, v1, v2, I, J => ((3 ≤ v2 → ∃ n83, wX12_digest_b83 g ko49 Q n83 v1 0 I J) ∧ (¬ 3 ≤ v2 → wX12_memberNow g v1 v2 I J (fun r68 I68 J68 => wX12_mix g (Int32.toInt64 r68) I68 J68 (fun I72 J72 => wX12_digest_b59 g ko49 Q n v1 (v2 + 1) I72 J72))))
set_option maxHeartbeats 4000000 in
set_option maxRecDepth 100000 in
theorem bX12_digest_59 {p : Program} {l : Launch} {e : Env} {s : State} {m : MethodId} {args : Array Value} {below : List Frame} {meth : Method} {c : Code} {E : WE} {Q : Int64 → MI → MJ → Prop} {ko49 : Int32 → MI → MJ → Prop} (X : Cx E cX12_digest 3 RX12 ((Option.some FieldType.long)) p s m args c meth)
    (hk49 : ∀ (v1 : Int32) (I : MI) (J : MJ) (H : Heap) (locs : List Loc) (ls : Array Slot), ko49 v1 I J → Wd E I J s H locs → lv_has ls 3 [(0, .ref (wa E 17 0)), (1, .int v1)] → W p l e (rmO 5 131) s m args below meth c H locs 0 0 (MQ below (QL E Q) args s 0 0 (AA E)) (F0 m 49 ls [])) (n : Nat) : ∀ (v1 : Int32) (v2 : Int32) (I : MI) (J : MJ) (H : Heap) (locs : List Loc) (ls : Array Slot), wX12_digest_b59 (wg E) ko49 Q n v1 v2 I J → Wd E I J s H locs → lv_has ls 3 [(0, .ref (wa E 17 0)), (1, .int v1), (2, .int v2)] → W p l e (rmO 5 131) s m args below meth c H locs 0 0 (MQ below (QL E Q) args s 0 0 (AA E)) (F0 m 59 ls []) := by
  have hx := X.1.1
  have hb := X.1.2.1
  induction n with
  | zero => intro v1 v2 I J H locs ls h hW hl; exact h.elim
  | succ n ih =>
    intro v1 v2 I J H locs ls h hW hl
    refine lv_iload_n hx hb dX12_digest_59 rfl (lv_at hl 2 rfl) ?_
    refine lv_iconst (v := 3) hx hb dX12_digest_60 (by decide) ?_
    refine lv_icmp_ge (tgt := 81) hx hb dX12_digest_61 (by decide) (fun c61 => ?_) (fun c61 => ?_)
    · have h := h.1 c61
      refine lv_iconst (v := 0) hx hb dX12_digest_81 (by decide) ?_
      refine lv_istore_n (lv' := [(2, .int 0), (0, .ref (wa E 17 0)), (1, .int v1)]) hx hb dX12_digest_82 rfl hl (by decide) rfl (fun ls hl => ?_)
      obtain ⟨n83, h⟩ := h
      exact bX12_digest_83 X hk49 n83 v1 0 _ _ _ _ _  h hW (lv_sub hl [1, 2, 0] rfl)
    · have h := h.2 c61
      refine lv_aload_n hx hb dX12_digest_64 rfl (lv_at hl 0 rfl) ?_
      refine lv_aload_n hx hb dX12_digest_65 rfl (lv_at hl 0 rfl) ?_
      refine lv_iload_n hx hb dX12_digest_66 rfl (lv_at hl 1 rfl) ?_
      refine lv_iload_n hx hb dX12_digest_67 rfl (lv_at hl 2 rfl) ?_
      refine af_i hW (rn_V X hW (As := [.int v1, .int v2]) (rest := [.ref (wa E 17 0)]) (okS hW sc17_0) rfl rfl (kX12_memberNow h) mbX12_memberNow tw1011 tw1013 tp31 rfl hl.1 (Nat.le_of_ble_eq_true rfl) ⟨(Nat.le_of_ble_eq_true rfl), (Nat.le_of_ble_eq_true rfl)⟩ dX12_digest_68) (fun r68 I68 J68 H locs h hW => ?_)
      refine lv_i2l hx hb dX12_digest_71 rfl ?_
      refine af_v hW (rn_V X hW (As := [.long (Int32.toInt64 r68)]) (rest := []) (okS hW sc17_0) rfl rfl (kX12_mix h) mbX12_mix tw1248 tw1250 tp58 rfl hl.1 (Nat.le_of_ble_eq_true rfl) ⟨(Nat.le_of_ble_eq_true rfl), (Nat.le_of_ble_eq_true rfl)⟩ dX12_digest_72) (fun I72 J72 H locs h hW => ?_)
      refine lv_iinc (v := v2 + 1) (lv' := [(2, .int (v2 + 1)), (0, .ref (wa E 17 0)), (1, .int v1)]) hx hb dX12_digest_75 hl (k := 2) rfl rfl (by decide) rfl (fun ls hl => ?_)
      refine lv_goto (tgt := 59) hx hb dX12_digest_78 (by decide) ?_
      exact ih v1 (v2 + 1) _ _ _ _ _  h hW (lv_sub hl [1, 2, 0] rfl)
def wX12_digest_b131 (g : GS) (ko121 : Int32 → MI → MJ → Prop) (Q : Int64 → MI → MJ → Prop) : Nat → Int32 → Int32 → MI → MJ → Prop
  | 0, _, _, _, _ => False
  | n + 1, v1, v2, I, J => ((3 ≤ v2 → ko121 (v1 + 1) I J) ∧ (¬ 3 ≤ v2 → wX12_candidateNow g v1 v2 I J (fun r140 I140 J140 => wX12_mix g (Int32.toInt64 r140) I140 J140 (fun I144 J144 => wX12_digest_b131 g ko121 Q n v1 (v2 + 1) I144 J144))))
set_option maxHeartbeats 4000000 in
set_option maxRecDepth 100000 in
theorem bX12_digest_131 {p : Program} {l : Launch} {e : Env} {s : State} {m : MethodId} {args : Array Value} {below : List Frame} {meth : Method} {c : Code} {E : WE} {Q : Int64 → MI → MJ → Prop} {ko121 : Int32 → MI → MJ → Prop} (X : Cx E cX12_digest 3 RX12 ((Option.some FieldType.long)) p s m args c meth)
    (hk121 : ∀ (v1 : Int32) (I : MI) (J : MJ) (H : Heap) (locs : List Loc) (ls : Array Slot), ko121 v1 I J → Wd E I J s H locs → lv_has ls 3 [(0, .ref (wa E 17 0)), (1, .int v1)] → W p l e (rmO 5 131) s m args below meth c H locs 0 0 (MQ below (QL E Q) args s 0 0 (AA E)) (F0 m 121 ls [])) (n : Nat) : ∀ (v1 : Int32) (v2 : Int32) (I : MI) (J : MJ) (H : Heap) (locs : List Loc) (ls : Array Slot), wX12_digest_b131 (wg E) ko121 Q n v1 v2 I J → Wd E I J s H locs → lv_has ls 3 [(0, .ref (wa E 17 0)), (1, .int v1), (2, .int v2)] → W p l e (rmO 5 131) s m args below meth c H locs 0 0 (MQ below (QL E Q) args s 0 0 (AA E)) (F0 m 131 ls []) := by
  have hx := X.1.1
  have hb := X.1.2.1
  induction n with
  | zero => intro v1 v2 I J H locs ls h hW hl; exact h.elim
  | succ n ih =>
    intro v1 v2 I J H locs ls h hW hl
    refine lv_iload_n hx hb dX12_digest_131 rfl (lv_at hl 2 rfl) ?_
    refine lv_iconst (v := 3) hx hb dX12_digest_132 (by decide) ?_
    refine lv_icmp_ge (tgt := 153) hx hb dX12_digest_133 (by decide) (fun c133 => ?_) (fun c133 => ?_)
    · have h := h.1 c133
      refine lv_iinc (v := v1 + 1) (lv' := [(1, .int (v1 + 1)), (0, .ref (wa E 17 0)), (2, .int v2)]) hx hb dX12_digest_153 hl (k := 1) rfl rfl (by decide) rfl (fun ls hl => ?_)
      refine lv_goto (tgt := 121) hx hb dX12_digest_156 (by decide) ?_
      exact hk121 (v1 + 1) _ _ _ _ _  h hW (lv_sub hl [1, 0] rfl)
    · have h := h.2 c133
      refine lv_aload_n hx hb dX12_digest_136 rfl (lv_at hl 0 rfl) ?_
      refine lv_aload_n hx hb dX12_digest_137 rfl (lv_at hl 0 rfl) ?_
      refine lv_iload_n hx hb dX12_digest_138 rfl (lv_at hl 1 rfl) ?_
      refine lv_iload_n hx hb dX12_digest_139 rfl (lv_at hl 2 rfl) ?_
      refine af_i hW (rn_V X hW (As := [.int v1, .int v2]) (rest := [.ref (wa E 17 0)]) (okS hW sc17_0) rfl rfl (kX12_candidateNow h) mbX12_candidateNow tw1035 tw1037 tp33 rfl hl.1 (Nat.le_of_ble_eq_true rfl) ⟨(Nat.le_of_ble_eq_true rfl), (Nat.le_of_ble_eq_true rfl)⟩ dX12_digest_140) (fun r140 I140 J140 H locs h hW => ?_)
      refine lv_i2l hx hb dX12_digest_143 rfl ?_
      refine af_v hW (rn_V X hW (As := [.long (Int32.toInt64 r140)]) (rest := []) (okS hW sc17_0) rfl rfl (kX12_mix h) mbX12_mix tw1248 tw1250 tp58 rfl hl.1 (Nat.le_of_ble_eq_true rfl) ⟨(Nat.le_of_ble_eq_true rfl), (Nat.le_of_ble_eq_true rfl)⟩ dX12_digest_144) (fun I144 J144 H locs h hW => ?_)
      refine lv_iinc (v := v2 + 1) (lv' := [(2, .int (v2 + 1)), (0, .ref (wa E 17 0)), (1, .int v1)]) hx hb dX12_digest_147 hl (k := 2) rfl rfl (by decide) rfl (fun ls hl => ?_)
      refine lv_goto (tgt := 131) hx hb dX12_digest_150 (by decide) ?_
      exact ih v1 (v2 + 1) _ _ _ _ _  h hW (lv_sub hl [1, 2, 0] rfl)
def wX12_digest_b199 (g : GS) (Q : Int64 → MI → MJ → Prop) : Nat → Int32 → MI → MJ → Prop
  | 0, _, _, _ => False
  | n + 1, v1, I, J => ((5 ≤ v1 → Q (J 17 0 36) I J) ∧ (¬ 5 ≤ v1 → wX12_howMany g v1 I J (fun r207 I207 J207 => wX12_mix g (Int32.toInt64 r207) I207 J207 (fun I211 J211 => wX12_digest_b199 g Q n (v1 + 1) I211 J211))))
set_option maxHeartbeats 4000000 in
set_option maxRecDepth 100000 in
theorem bX12_digest_199 {p : Program} {l : Launch} {e : Env} {s : State} {m : MethodId} {args : Array Value} {below : List Frame} {meth : Method} {c : Code} {E : WE} {Q : Int64 → MI → MJ → Prop} (X : Cx E cX12_digest 3 RX12 ((Option.some FieldType.long)) p s m args c meth) (n : Nat) : ∀ (v1 : Int32) (I : MI) (J : MJ) (H : Heap) (locs : List Loc) (ls : Array Slot), wX12_digest_b199 (wg E) Q n v1 I J → Wd E I J s H locs → lv_has ls 3 [(0, .ref (wa E 17 0)), (1, .int v1)] → W p l e (rmO 5 131) s m args below meth c H locs 0 0 (MQ below (QL E Q) args s 0 0 (AA E)) (F0 m 199 ls []) := by
  have hx := X.1.1
  have hb := X.1.2.1
  induction n with
  | zero => intro v1 I J H locs ls h hW hl; exact h.elim
  | succ n ih =>
    intro v1 I J H locs ls h hW hl
    refine lv_iload_n hx hb dX12_digest_199 rfl (lv_at hl 1 rfl) ?_
    refine lv_iconst (v := 5) hx hb dX12_digest_200 (by decide) ?_
    refine lv_icmp_ge (tgt := 220) hx hb dX12_digest_201 (by decide) (fun c201 => ?_) (fun c201 => ?_)
    · have h := h.1 c201
      refine lv_aload_n hx hb dX12_digest_220 rfl (lv_at hl 0 rfl) ?_
      refine r_get X hW 36 (okS hW sc17_0) rfl rfl inX12 (Nat.le_of_ble_eq_true rfl) tw870 rfl dX12_digest_221 ?_
      exact e_l X hW h dX12_digest_224
    · have h := h.2 c201
      refine lv_aload_n hx hb dX12_digest_204 rfl (lv_at hl 0 rfl) ?_
      refine lv_aload_n hx hb dX12_digest_205 rfl (lv_at hl 0 rfl) ?_
      refine lv_iload_n hx hb dX12_digest_206 rfl (lv_at hl 1 rfl) ?_
      refine af_i hW (rn_V X hW (As := [.int v1]) (rest := [.ref (wa E 17 0)]) (okS hW sc17_0) rfl rfl (kX12_howMany h) mbX12_howMany tw1239 tw1241 tp57 rfl hl.1 (Nat.le_of_ble_eq_true rfl) ⟨(Nat.le_of_ble_eq_true rfl), (Nat.le_of_ble_eq_true rfl)⟩ dX12_digest_207) (fun r207 I207 J207 H locs h hW => ?_)
      refine lv_i2l hx hb dX12_digest_210 rfl ?_
      refine af_v hW (rn_V X hW (As := [.long (Int32.toInt64 r207)]) (rest := []) (okS hW sc17_0) rfl rfl (kX12_mix h) mbX12_mix tw1248 tw1250 tp58 rfl hl.1 (Nat.le_of_ble_eq_true rfl) ⟨(Nat.le_of_ble_eq_true rfl), (Nat.le_of_ble_eq_true rfl)⟩ dX12_digest_211) (fun I211 J211 H locs h hW => ?_)
      refine lv_iinc (v := v1 + 1) (lv' := [(1, .int (v1 + 1)), (0, .ref (wa E 17 0))]) hx hb dX12_digest_214 hl (k := 1) rfl rfl (by decide) rfl (fun ls hl => ?_)
      refine lv_goto (tgt := 199) hx hb dX12_digest_217 (by decide) ?_
      exact ih (v1 + 1) _ _ _ _ _  h hW (lv_sub hl [1, 0] rfl)
def wX12_digest_b172 (g : GS) (Q : Int64 → MI → MJ → Prop) : Nat → Int32 → MI → MJ → Prop
  | 0, _, _, _ => False
  | n + 1, v1, I, J => (((I 17 0 13) ≤ v1 → ∃ n199, wX12_digest_b199 g Q n199 0 I J) ∧ (¬ (I 17 0 13) ≤ v1 → vp_in v1 20 ∧ (wX12_mix g (Int32.toInt64 (I 28 0 (Int32.toNatClampNeg v1))) I J (fun I188 J188 => wX12_digest_b172 g Q n (v1 + 1) I188 J188))))
set_option maxHeartbeats 4000000 in
set_option maxRecDepth 100000 in
theorem bX12_digest_172 {p : Program} {l : Launch} {e : Env} {s : State} {m : MethodId} {args : Array Value} {below : List Frame} {meth : Method} {c : Code} {E : WE} {Q : Int64 → MI → MJ → Prop} (X : Cx E cX12_digest 3 RX12 ((Option.some FieldType.long)) p s m args c meth) (n : Nat) : ∀ (v1 : Int32) (I : MI) (J : MJ) (H : Heap) (locs : List Loc) (ls : Array Slot), wX12_digest_b172 (wg E) Q n v1 I J → Wd E I J s H locs → lv_has ls 3 [(0, .ref (wa E 17 0)), (1, .int v1)] → W p l e (rmO 5 131) s m args below meth c H locs 0 0 (MQ below (QL E Q) args s 0 0 (AA E)) (F0 m 172 ls []) := by
  have hx := X.1.1
  have hb := X.1.2.1
  induction n with
  | zero => intro v1 I J H locs ls h hW hl; exact h.elim
  | succ n ih =>
    intro v1 I J H locs ls h hW hl
    refine lv_iload_n hx hb dX12_digest_172 rfl (lv_at hl 1 rfl) ?_
    refine lv_aload_n hx hb dX12_digest_173 rfl (lv_at hl 0 rfl) ?_
    refine r_get X hW 13 (okS hW sc17_0) rfl rfl inX12 (Nat.le_of_ble_eq_true rfl) tw847 rfl dX12_digest_174 ?_
    refine lv_icmp_ge (tgt := 197) hx hb dX12_digest_177 (by decide) (fun c177 => ?_) (fun c177 => ?_)
    · have h := h.1 c177
      refine lv_iconst (v := 0) hx hb dX12_digest_197 (by decide) ?_
      refine lv_istore_n (lv' := [(1, .int 0), (0, .ref (wa E 17 0))]) hx hb dX12_digest_198 rfl hl (by decide) rfl (fun ls hl => ?_)
      obtain ⟨n199, h⟩ := h
      exact bX12_digest_199 X n199 0 _ _ _ _ _  h hW (lv_sub hl [1, 0] rfl)
    · have h := h.2 c177
      refine lv_aload_n hx hb dX12_digest_180 rfl (lv_at hl 0 rfl) ?_
      refine lv_aload_n hx hb dX12_digest_181 rfl (lv_at hl 0 rfl) ?_
      refine r_get X hW 14 (okS hW sc17_0) rfl rfl inX12 (Nat.le_of_ble_eq_true rfl) tw848 rfl dX12_digest_182 ?_
      refine lv_iload_n hx hb dX12_digest_185 rfl (lv_at hl 1 rfl) ?_
      refine r_bald X hW (okS hW sc28_0) rfl h.1 dX12_digest_186 ?_
      have h := h.2
      refine lv_i2l hx hb dX12_digest_187 rfl ?_
      refine af_v hW (rn_V X hW (As := [.long (Int32.toInt64 (I 28 0 (Int32.toNatClampNeg v1)))]) (rest := []) (okS hW sc17_0) rfl rfl (kX12_mix h) mbX12_mix tw1248 tw1250 tp58 rfl hl.1 (Nat.le_of_ble_eq_true rfl) ⟨(Nat.le_of_ble_eq_true rfl), (Nat.le_of_ble_eq_true rfl)⟩ dX12_digest_188) (fun I188 J188 H locs h hW => ?_)
      refine lv_iinc (v := v1 + 1) (lv' := [(1, .int (v1 + 1)), (0, .ref (wa E 17 0))]) hx hb dX12_digest_191 hl (k := 1) rfl rfl (by decide) rfl (fun ls hl => ?_)
      refine lv_goto (tgt := 172) hx hb dX12_digest_194 (by decide) ?_
      exact ih (v1 + 1) _ _ _ _ _  h hW (lv_sub hl [1, 0] rfl)
def wX12_digest_b170 (g : GS) (Q : Int64 → MI → MJ → Prop) (I : MI) (J : MJ) : Prop :=
  ∃ n172, wX12_digest_b172 g Q n172 0 I J
set_option maxHeartbeats 4000000 in
set_option maxRecDepth 100000 in
theorem bX12_digest_170 {p : Program} {l : Launch} {e : Env} {s : State} {m : MethodId} {args : Array Value} {below : List Frame} {meth : Method} {c : Code} {E : WE} {Q : Int64 → MI → MJ → Prop} (X : Cx E cX12_digest 3 RX12 ((Option.some FieldType.long)) p s m args c meth) : ∀ (I : MI) (J : MJ) (H : Heap) (locs : List Loc) (ls : Array Slot), wX12_digest_b170 (wg E) Q  I J → Wd E I J s H locs → lv_has ls 3 [(0, .ref (wa E 17 0))] → W p l e (rmO 5 131) s m args below meth c H locs 0 0 (MQ below (QL E Q) args s 0 0 (AA E)) (F0 m 170 ls []) := by
  have hx := X.1.1
  have hb := X.1.2.1
  intro I J H locs ls h hW hl
  refine lv_iconst (v := 0) hx hb dX12_digest_170 (by decide) ?_
  refine lv_istore_n (lv' := [(1, .int 0), (0, .ref (wa E 17 0))]) hx hb dX12_digest_171 rfl hl (by decide) rfl (fun ls hl => ?_)
  obtain ⟨n172, h⟩ := h
  exact bX12_digest_172 X n172 0 _ _ _ _ _  h hW (lv_sub hl [1, 0] rfl)
def wX12_digest_b121 (g : GS) (Q : Int64 → MI → MJ → Prop) : Nat → Int32 → MI → MJ → Prop
  | 0, _, _, _ => False
  | n + 1, v1, I, J => (((I 17 0 4) ≤ v1 → (((I 17 0 0) ≤ 0 → wX12_digest_b170 g Q I J) ∧ (¬ (I 17 0 0) ≤ 0 → wX12_mixIns g I J (fun I167 J167 => wX12_digest_b170 g Q I167 J167)))) ∧ (¬ (I 17 0 4) ≤ v1 → ∃ n131, wX12_digest_b131 g (fun v1 I J => wX12_digest_b121 g Q n v1 I J) Q n131 v1 0 I J))
set_option maxHeartbeats 4000000 in
set_option maxRecDepth 100000 in
theorem bX12_digest_121 {p : Program} {l : Launch} {e : Env} {s : State} {m : MethodId} {args : Array Value} {below : List Frame} {meth : Method} {c : Code} {E : WE} {Q : Int64 → MI → MJ → Prop} (X : Cx E cX12_digest 3 RX12 ((Option.some FieldType.long)) p s m args c meth) (n : Nat) : ∀ (v1 : Int32) (I : MI) (J : MJ) (H : Heap) (locs : List Loc) (ls : Array Slot), wX12_digest_b121 (wg E) Q n v1 I J → Wd E I J s H locs → lv_has ls 3 [(0, .ref (wa E 17 0)), (1, .int v1)] → W p l e (rmO 5 131) s m args below meth c H locs 0 0 (MQ below (QL E Q) args s 0 0 (AA E)) (F0 m 121 ls []) := by
  have hx := X.1.1
  have hb := X.1.2.1
  induction n with
  | zero => intro v1 I J H locs ls h hW hl; exact h.elim
  | succ n ih =>
    intro v1 I J H locs ls h hW hl
    refine lv_iload_n hx hb dX12_digest_121 rfl (lv_at hl 1 rfl) ?_
    refine lv_aload_n hx hb dX12_digest_122 rfl (lv_at hl 0 rfl) ?_
    refine r_get X hW 4 (okS hW sc17_0) rfl rfl inX12 (Nat.le_of_ble_eq_true rfl) tw838 rfl dX12_digest_123 ?_
    refine lv_icmp_ge (tgt := 159) hx hb dX12_digest_126 (by decide) (fun c126 => ?_) (fun c126 => ?_)
    · have h := h.1 c126
      refine lv_aload_n hx hb dX12_digest_159 rfl (lv_at hl 0 rfl) ?_
      refine r_get X hW 0 (okS hW sc17_0) rfl rfl inX12 (Nat.le_of_ble_eq_true rfl) tw834 rfl dX12_digest_160 ?_
      refine lv_if_le (tgt := 170) hx hb dX12_digest_163 (by decide) (fun c163 => ?_) (fun c163 => ?_)
      · have h := h.1 c163
        exact bX12_digest_170 X _ _ _ _ _  h hW (lv_sub hl [0] rfl)
      · have h := h.2 c163
        refine lv_aload_n hx hb dX12_digest_166 rfl (lv_at hl 0 rfl) ?_
        refine af_v hW (rn_V X hW (As := []) (rest := []) (okS hW sc17_0) rfl rfl (kX12_mixIns h) mbX12_mixIns tw1253 tw1255 tp59 rfl hl.1 (Nat.le_of_ble_eq_true rfl) ⟨(Nat.le_of_ble_eq_true rfl), (Nat.le_of_ble_eq_true rfl)⟩ dX12_digest_167) (fun I167 J167 H locs h hW => ?_)
        exact bX12_digest_170 X _ _ _ _ _  h hW (lv_sub hl [0] rfl)
    · have h := h.2 c126
      refine lv_iconst (v := 0) hx hb dX12_digest_129 (by decide) ?_
      refine lv_istore_n (lv' := [(2, .int 0), (0, .ref (wa E 17 0)), (1, .int v1)]) hx hb dX12_digest_130 rfl hl (by decide) rfl (fun ls hl => ?_)
      obtain ⟨n131, h⟩ := h
      exact bX12_digest_131 X ih n131 v1 0 _ _ _ _ _  h hW (lv_sub hl [1, 2, 0] rfl)
def wX12_digest_b49 (g : GS) (Q : Int64 → MI → MJ → Prop) : Nat → Int32 → MI → MJ → Prop
  | 0, _, _, _ => False
  | n + 1, v1, I, J => (((I 17 0 0) ≤ v1 → ∃ n121, wX12_digest_b121 g Q n121 0 I J) ∧ (¬ (I 17 0 0) ≤ v1 → ∃ n59, wX12_digest_b59 g (fun v1 I J => wX12_digest_b49 g Q n v1 I J) Q n59 v1 0 I J))
set_option maxHeartbeats 4000000 in
set_option maxRecDepth 100000 in
theorem bX12_digest_49 {p : Program} {l : Launch} {e : Env} {s : State} {m : MethodId} {args : Array Value} {below : List Frame} {meth : Method} {c : Code} {E : WE} {Q : Int64 → MI → MJ → Prop} (X : Cx E cX12_digest 3 RX12 ((Option.some FieldType.long)) p s m args c meth) (n : Nat) : ∀ (v1 : Int32) (I : MI) (J : MJ) (H : Heap) (locs : List Loc) (ls : Array Slot), wX12_digest_b49 (wg E) Q n v1 I J → Wd E I J s H locs → lv_has ls 3 [(0, .ref (wa E 17 0)), (1, .int v1)] → W p l e (rmO 5 131) s m args below meth c H locs 0 0 (MQ below (QL E Q) args s 0 0 (AA E)) (F0 m 49 ls []) := by
  have hx := X.1.1
  have hb := X.1.2.1
  induction n with
  | zero => intro v1 I J H locs ls h hW hl; exact h.elim
  | succ n ih =>
    intro v1 I J H locs ls h hW hl
    refine lv_iload_n hx hb dX12_digest_49 rfl (lv_at hl 1 rfl) ?_
    refine lv_aload_n hx hb dX12_digest_50 rfl (lv_at hl 0 rfl) ?_
    refine r_get X hW 0 (okS hW sc17_0) rfl rfl inX12 (Nat.le_of_ble_eq_true rfl) tw834 rfl dX12_digest_51 ?_
    refine lv_icmp_ge (tgt := 119) hx hb dX12_digest_54 (by decide) (fun c54 => ?_) (fun c54 => ?_)
    · have h := h.1 c54
      refine lv_iconst (v := 0) hx hb dX12_digest_119 (by decide) ?_
      refine lv_istore_n (lv' := [(1, .int 0), (0, .ref (wa E 17 0))]) hx hb dX12_digest_120 rfl hl (by decide) rfl (fun ls hl => ?_)
      obtain ⟨n121, h⟩ := h
      exact bX12_digest_121 X n121 0 _ _ _ _ _  h hW (lv_sub hl [1, 0] rfl)
    · have h := h.2 c54
      refine lv_iconst (v := 0) hx hb dX12_digest_57 (by decide) ?_
      refine lv_istore_n (lv' := [(2, .int 0), (0, .ref (wa E 17 0)), (1, .int v1)]) hx hb dX12_digest_58 rfl hl (by decide) rfl (fun ls hl => ?_)
      obtain ⟨n59, h⟩ := h
      exact bX12_digest_59 X ih n59 v1 0 _ _ _ _ _  h hW (lv_sub hl [1, 2, 0] rfl)
def wX12_digest_b9 (g : GS) (Q : Int64 → MI → MJ → Prop) : Nat → Int32 → MI → MJ → Prop
  | 0, _, _, _ => False
  | n + 1, v1, I, J => (((I 17 0 7) ≤ v1 → ∃ n49, wX12_digest_b49 g Q n49 0 I J) ∧ (¬ (I 17 0 7) ≤ v1 → ∃ n19, wX12_digest_b19 g (fun v1 I J => wX12_digest_b9 g Q n v1 I J) Q n19 v1 0 I J))
set_option maxHeartbeats 4000000 in
set_option maxRecDepth 100000 in
theorem bX12_digest_9 {p : Program} {l : Launch} {e : Env} {s : State} {m : MethodId} {args : Array Value} {below : List Frame} {meth : Method} {c : Code} {E : WE} {Q : Int64 → MI → MJ → Prop} (X : Cx E cX12_digest 3 RX12 ((Option.some FieldType.long)) p s m args c meth) (n : Nat) : ∀ (v1 : Int32) (I : MI) (J : MJ) (H : Heap) (locs : List Loc) (ls : Array Slot), wX12_digest_b9 (wg E) Q n v1 I J → Wd E I J s H locs → lv_has ls 3 [(0, .ref (wa E 17 0)), (1, .int v1)] → W p l e (rmO 5 131) s m args below meth c H locs 0 0 (MQ below (QL E Q) args s 0 0 (AA E)) (F0 m 9 ls []) := by
  have hx := X.1.1
  have hb := X.1.2.1
  induction n with
  | zero => intro v1 I J H locs ls h hW hl; exact h.elim
  | succ n ih =>
    intro v1 I J H locs ls h hW hl
    refine lv_iload_n hx hb dX12_digest_9 rfl (lv_at hl 1 rfl) ?_
    refine lv_aload_n hx hb dX12_digest_10 rfl (lv_at hl 0 rfl) ?_
    refine r_get X hW 7 (okS hW sc17_0) rfl rfl inX12 (Nat.le_of_ble_eq_true rfl) tw841 rfl dX12_digest_11 ?_
    refine lv_icmp_ge (tgt := 47) hx hb dX12_digest_14 (by decide) (fun c14 => ?_) (fun c14 => ?_)
    · have h := h.1 c14
      refine lv_iconst (v := 0) hx hb dX12_digest_47 (by decide) ?_
      refine lv_istore_n (lv' := [(1, .int 0), (0, .ref (wa E 17 0))]) hx hb dX12_digest_48 rfl hl (by decide) rfl (fun ls hl => ?_)
      obtain ⟨n49, h⟩ := h
      exact bX12_digest_49 X n49 0 _ _ _ _ _  h hW (lv_sub hl [1, 0] rfl)
    · have h := h.2 c14
      refine lv_iconst (v := 0) hx hb dX12_digest_17 (by decide) ?_
      refine lv_istore_n (lv' := [(2, .int 0), (0, .ref (wa E 17 0)), (1, .int v1)]) hx hb dX12_digest_18 rfl hl (by decide) rfl (fun ls hl => ?_)
      obtain ⟨n19, h⟩ := h
      exact bX12_digest_19 X ih n19 v1 0 _ _ _ _ _  h hW (lv_sub hl [1, 2, 0] rfl)
def wX12_digest (g : GS) (I : MI) (J : MJ) (Q : Int64 → MI → MJ → Prop) : Prop :=
  ∃ n9, wX12_digest_b9 g Q n9 0 I (u3 J 17 0 (vp_updL (J 17 0) 36 487))
theorem mbX12_digest : MB yX12_digest cX12_digest 3 ((Option.some FieldType.long)) 0 := ⟨tw1246, tw7, ⟨by decide, by decide⟩, by decide +kernel, by decide +kernel⟩
set_option maxHeartbeats 4000000 in
set_option maxRecDepth 100000 in
theorem kX12_digest {l : Launch} {E : WE} {I : MI} {J : MJ} {Q : Int64 → MI → MJ → Prop} (h : wX12_digest (wg E) I J Q) : Met l yX12_digest (wsM yX12_digest cX12_digest 3 ((Option.some FieldType.long))) (rmO 5 131) (va_Pc [.ref (wa E 17 0)] (Wp E I J)) (QL E Q) 0 0 (AA E) := by
  refine m_entry mbX12_digest (Nat.le_of_ble_eq_true rfl) ?_
  intro p e s m args below meth c X ls hW hl
  have X : Cx E cX12_digest 3 RX12 ((Option.some FieldType.long)) p s m args c meth := X
  have hx := X.1.1
  have hb := X.1.2.1
  have hl : lv_has ls 3 [(0, .ref (wa E 17 0))] := hl
  refine lv_aload_n hx hb dX12_digest_0 rfl (lv_at hl 0 rfl) ?_
  refine lv_ldc2 hx hb X.1.2.2.2.1 (X.1.2.2.2.2 _ tw1247) dX12_digest_1 ?_
  refine r_putL X hW 36 (okS hW sc17_0) rfl rfl inX12 tyX12 tyX12_ok nmX12 (Nat.le_of_ble_eq_true rfl) tw870 rfl rfl rfl rfl (Nat.le_of_ble_eq_true rfl) rfl dX12_digest_4 (fun H locs hW => ?_)
  refine lv_iconst (v := 0) hx hb dX12_digest_7 (by decide) ?_
  refine lv_istore_n (lv' := [(1, .int 0), (0, .ref (wa E 17 0))]) hx hb dX12_digest_8 rfl hl (by decide) rfl (fun ls hl => ?_)
  obtain ⟨n9, h⟩ := h
  exact bX12_digest_9 X n9 0 _ _ _ _ _  h hW (lv_sub hl [1, 0] rfl)
