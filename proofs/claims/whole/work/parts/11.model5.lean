def wX12_veto (g : GS) (a1 : Int32) (a2 : Int32) (a3 : Int32) (I : MI) (J : MJ) (Q : Int32 → MI → MJ → Prop) : Prop :=
  wX12_within g a1 1 8 I J (fun r4 I4 J4 => ((r4 = 0 → Q ((-102)) I4 J4) ∧ (¬ r4 = 0 → wX12_within g a2 0 3 I4 J4 (fun r13 I13 J13 => ((r13 = 0 → Q ((-102)) I13 J13) ∧ (¬ r13 = 0 → wX12_within g a3 0 10 I13 J13 (fun r23 I23 J23 => ((¬ r23 = 0 → wX12_layVetoes g a1 I23 J23 (fun I34 J34 => wX12_isUsed g a1 a2 a3 I34 J34 (fun r41 I41 J41 => ((r41 = 0 → Q 0 I41 J41) ∧ (¬ r41 = 0 → Q 1 I41 J41))))) ∧ (r23 = 0 → Q ((-102)) I23 J23)))))))))
theorem mbX12_veto : MB yX12_veto cX12_veto 4 ((Option.some FieldType.int)) 3 := ⟨tw1186, tw7, ⟨by decide, by decide⟩, by decide +kernel, by decide +kernel⟩
set_option maxHeartbeats 4000000 in
set_option maxRecDepth 100000 in
theorem kX12_veto {l : Launch} {E : WE} {a1 : Int32} {a2 : Int32} {a3 : Int32} {I : MI} {J : MJ} {Q : Int32 → MI → MJ → Prop} (h : wX12_veto (wg E) a1 a2 a3 I J Q) : Met l yX12_veto (wsM yX12_veto cX12_veto 4 ((Option.some FieldType.int))) (rmO 3 72) (va_Pc [.ref (wa E 17 0), .int a1, .int a2, .int a3] (Wp E I J)) (QI E Q) 0 0 (AA E) := by
  refine m_entry mbX12_veto (Nat.le_of_ble_eq_true rfl) ?_
  intro p e s m args below meth c X ls hW hl
  have X : Cx E cX12_veto 4 RX12 ((Option.some FieldType.int)) p s m args c meth := X
  have hx := X.1.1
  have hb := X.1.2.1
  have hl : lv_has ls 4 [(0, .ref (wa E 17 0)), (1, .int a1), (2, .int a2), (3, .int a3)] := hl
  refine lv_iload_n hx hb dX12_veto_0 rfl (lv_at hl 1 rfl) ?_
  refine lv_iconst (v := 1) hx hb dX12_veto_1 (by decide) ?_
  refine lv_bipush (v := 8) hx hb dX12_veto_2 (by decide) ?_
  refine af_i hW (rn_S X hW (As := [.int a1, .int 1, .int 8]) (rest := []) (kX12_within h) mbX12_within tw969 tw970 rfl hl.1 (Nat.le_of_ble_eq_true rfl) ⟨(Nat.le_of_ble_eq_true rfl), (Nat.le_of_ble_eq_true rfl)⟩ dX12_veto_4) (fun r4 I4 J4 H locs h hW => ?_)
  refine lv_if_eq (tgt := 29) hx hb dX12_veto_7 (by decide) (fun c7 => ?_) (fun c7 => ?_)
  · have h := h.1 c7
    refine lv_bipush (v := (-102)) hx hb dX12_veto_29 (by decide) ?_
    exact e_i X hW h dX12_veto_31
  · have h := h.2 c7
    refine lv_iload_n hx hb dX12_veto_10 rfl (lv_at hl 2 rfl) ?_
    refine lv_iconst (v := 0) hx hb dX12_veto_11 (by decide) ?_
    refine lv_iconst (v := 3) hx hb dX12_veto_12 (by decide) ?_
    refine af_i hW (rn_S X hW (As := [.int a2, .int 0, .int 3]) (rest := []) (kX12_within h) mbX12_within tw969 tw970 rfl hl.1 (Nat.le_of_ble_eq_true rfl) ⟨(Nat.le_of_ble_eq_true rfl), (Nat.le_of_ble_eq_true rfl)⟩ dX12_veto_13) (fun r13 I13 J13 H locs h hW => ?_)
    refine lv_if_eq (tgt := 29) hx hb dX12_veto_16 (by decide) (fun c16 => ?_) (fun c16 => ?_)
    · have h := h.1 c16
      refine lv_bipush (v := (-102)) hx hb dX12_veto_29 (by decide) ?_
      exact e_i X hW h dX12_veto_31
    · have h := h.2 c16
      refine lv_iload_n hx hb dX12_veto_19 rfl (lv_at hl 3 rfl) ?_
      refine lv_iconst (v := 0) hx hb dX12_veto_20 (by decide) ?_
      refine lv_bipush (v := 10) hx hb dX12_veto_21 (by decide) ?_
      refine af_i hW (rn_S X hW (As := [.int a3, .int 0, .int 10]) (rest := []) (kX12_within h) mbX12_within tw969 tw970 rfl hl.1 (Nat.le_of_ble_eq_true rfl) ⟨(Nat.le_of_ble_eq_true rfl), (Nat.le_of_ble_eq_true rfl)⟩ dX12_veto_23) (fun r23 I23 J23 H locs h hW => ?_)
      refine lv_if_ne (tgt := 32) hx hb dX12_veto_26 (by decide) (fun c26 => ?_) (fun c26 => ?_)
      · have h := h.1 c26
        refine lv_aload_n hx hb dX12_veto_32 rfl (lv_at hl 0 rfl) ?_
        refine lv_iload_n hx hb dX12_veto_33 rfl (lv_at hl 1 rfl) ?_
        refine af_v hW (rn_V X hW (As := [.int a1]) (rest := []) (okS hW sc17_0) rfl rfl (kX12_layVetoes h) mbX12_layVetoes tw1187 tw1189 tp51 rfl hl.1 (Nat.le_of_ble_eq_true rfl) ⟨(Nat.le_of_ble_eq_true rfl), (Nat.le_of_ble_eq_true rfl)⟩ dX12_veto_34) (fun I34 J34 H locs h hW => ?_)
        refine lv_aload_n hx hb dX12_veto_37 rfl (lv_at hl 0 rfl) ?_
        refine lv_iload_n hx hb dX12_veto_38 rfl (lv_at hl 1 rfl) ?_
        refine lv_iload_n hx hb dX12_veto_39 rfl (lv_at hl 2 rfl) ?_
        refine lv_iload_n hx hb dX12_veto_40 rfl (lv_at hl 3 rfl) ?_
        refine af_i hW (rn_V X hW (As := [.int a1, .int a2, .int a3]) (rest := []) (okS hW sc17_0) rfl rfl (kX12_isUsed h) mbX12_isUsed tw1191 tw1193 tp52 rfl hl.1 (Nat.le_of_ble_eq_true rfl) ⟨(Nat.le_of_ble_eq_true rfl), (Nat.le_of_ble_eq_true rfl)⟩ dX12_veto_41) (fun r41 I41 J41 H locs h hW => ?_)
        refine lv_if_eq (tgt := 51) hx hb dX12_veto_44 (by decide) (fun c44 => ?_) (fun c44 => ?_)
        · have h := h.1 c44
          refine lv_iconst (v := 0) hx hb dX12_veto_51 (by decide) ?_
          exact e_i X hW h dX12_veto_52
        · have h := h.2 c44
          refine lv_iconst (v := 1) hx hb dX12_veto_47 (by decide) ?_
          refine lv_goto (tgt := 52) hx hb dX12_veto_48 (by decide) ?_
          exact e_i X hW h dX12_veto_52
      · have h := h.2 c26
        refine lv_bipush (v := (-102)) hx hb dX12_veto_29 (by decide) ?_
        exact e_i X hW h dX12_veto_31
def wX12_worth (g : GS) (a1 : Int32) (a2 : Int32) (a3 : Int32) (I : MI) (J : MJ) (Q : Int64 → MI → MJ → Prop) : Prop :=
  wX12_within g a1 1 8 I J (fun r4 I4 J4 => ((r4 = 0 → Q ((-102)) I4 J4) ∧ (¬ r4 = 0 → wX12_within g a2 0 3 I4 J4 (fun r13 I13 J13 => ((r13 = 0 → Q ((-102)) I13 J13) ∧ (¬ r13 = 0 → wX12_isPart g a3 I13 J13 (fun r20 I20 J20 => ((¬ r20 = 0 → wX12_layVetoes g a1 I20 J20 (fun I32 J32 => vp_in ((4 * a1) + a2) 36 ∧ (wX12_elevens g a1 I32 J32 (fun r46 I46 J46 => wX12_lowest g (J32 32 0 (Int32.toNatClampNeg ((4 * a1) + a2))) r46 a3 I46 J46 (fun r50 I50 J50 => Q r50 I50 J50))))) ∧ (r20 = 0 → Q ((-102)) I20 J20)))))))))
theorem mbX12_worth : MB yX12_worth cX12_worth 4 ((Option.some FieldType.long)) 3 := ⟨tw1202, tw7, ⟨by decide, by decide⟩, by decide +kernel, by decide +kernel⟩
set_option maxHeartbeats 4000000 in
set_option maxRecDepth 100000 in
theorem kX12_worth {l : Launch} {E : WE} {a1 : Int32} {a2 : Int32} {a3 : Int32} {I : MI} {J : MJ} {Q : Int64 → MI → MJ → Prop} (h : wX12_worth (wg E) a1 a2 a3 I J Q) : Met l yX12_worth (wsM yX12_worth cX12_worth 4 ((Option.some FieldType.long))) (rmO 3 72) (va_Pc [.ref (wa E 17 0), .int a1, .int a2, .int a3] (Wp E I J)) (QL E Q) 0 0 (AA E) := by
  refine m_entry mbX12_worth (Nat.le_of_ble_eq_true rfl) ?_
  intro p e s m args below meth c X ls hW hl
  have X : Cx E cX12_worth 4 RX12 ((Option.some FieldType.long)) p s m args c meth := X
  have hx := X.1.1
  have hb := X.1.2.1
  have hl : lv_has ls 4 [(0, .ref (wa E 17 0)), (1, .int a1), (2, .int a2), (3, .int a3)] := hl
  refine lv_iload_n hx hb dX12_worth_0 rfl (lv_at hl 1 rfl) ?_
  refine lv_iconst (v := 1) hx hb dX12_worth_1 (by decide) ?_
  refine lv_bipush (v := 8) hx hb dX12_worth_2 (by decide) ?_
  refine af_i hW (rn_S X hW (As := [.int a1, .int 1, .int 8]) (rest := []) (kX12_within h) mbX12_within tw969 tw970 rfl hl.1 (Nat.le_of_ble_eq_true rfl) ⟨(Nat.le_of_ble_eq_true rfl), (Nat.le_of_ble_eq_true rfl)⟩ dX12_worth_4) (fun r4 I4 J4 H locs h hW => ?_)
  refine lv_if_eq (tgt := 26) hx hb dX12_worth_7 (by decide) (fun c7 => ?_) (fun c7 => ?_)
  · have h := h.1 c7
    refine lv_ldc2 hx hb X.1.2.2.2.1 (X.1.2.2.2.2 _ tw1092) dX12_worth_26 ?_
    exact e_l X hW h dX12_worth_29
  · have h := h.2 c7
    refine lv_iload_n hx hb dX12_worth_10 rfl (lv_at hl 2 rfl) ?_
    refine lv_iconst (v := 0) hx hb dX12_worth_11 (by decide) ?_
    refine lv_iconst (v := 3) hx hb dX12_worth_12 (by decide) ?_
    refine af_i hW (rn_S X hW (As := [.int a2, .int 0, .int 3]) (rest := []) (kX12_within h) mbX12_within tw969 tw970 rfl hl.1 (Nat.le_of_ble_eq_true rfl) ⟨(Nat.le_of_ble_eq_true rfl), (Nat.le_of_ble_eq_true rfl)⟩ dX12_worth_13) (fun r13 I13 J13 H locs h hW => ?_)
    refine lv_if_eq (tgt := 26) hx hb dX12_worth_16 (by decide) (fun c16 => ?_) (fun c16 => ?_)
    · have h := h.1 c16
      refine lv_ldc2 hx hb X.1.2.2.2.1 (X.1.2.2.2.2 _ tw1092) dX12_worth_26 ?_
      exact e_l X hW h dX12_worth_29
    · have h := h.2 c16
      refine lv_iload_n hx hb dX12_worth_19 rfl (lv_at hl 3 rfl) ?_
      refine af_i hW (rn_S X hW (As := [.int a3]) (rest := []) (kX12_isPart h) mbX12_isPart tw1073 tw1074 rfl hl.1 (Nat.le_of_ble_eq_true rfl) ⟨(Nat.le_of_ble_eq_true rfl), (Nat.le_of_ble_eq_true rfl)⟩ dX12_worth_20) (fun r20 I20 J20 H locs h hW => ?_)
      refine lv_if_ne (tgt := 30) hx hb dX12_worth_23 (by decide) (fun c23 => ?_) (fun c23 => ?_)
      · have h := h.1 c23
        refine lv_aload_n hx hb dX12_worth_30 rfl (lv_at hl 0 rfl) ?_
        refine lv_iload_n hx hb dX12_worth_31 rfl (lv_at hl 1 rfl) ?_
        refine af_v hW (rn_V X hW (As := [.int a1]) (rest := []) (okS hW sc17_0) rfl rfl (kX12_layVetoes h) mbX12_layVetoes tw1187 tw1189 tp51 rfl hl.1 (Nat.le_of_ble_eq_true rfl) ⟨(Nat.le_of_ble_eq_true rfl), (Nat.le_of_ble_eq_true rfl)⟩ dX12_worth_32) (fun I32 J32 H locs h hW => ?_)
        refine lv_aload_n hx hb dX12_worth_35 rfl (lv_at hl 0 rfl) ?_
        refine r_get X hW 33 (okS hW sc17_0) rfl rfl inX12 (Nat.le_of_ble_eq_true rfl) tw867 rfl dX12_worth_36 ?_
        refine lv_iconst (v := 4) hx hb dX12_worth_39 (by decide) ?_
        refine lv_iload_n hx hb dX12_worth_40 rfl (lv_at hl 1 rfl) ?_
        refine lv_imul hx hb dX12_worth_41 ?_
        refine lv_iload_n hx hb dX12_worth_42 rfl (lv_at hl 2 rfl) ?_
        refine lv_iadd hx hb dX12_worth_43 ?_
        refine r_lald X hW (okS hW sc32_0) rfl h.1 dX12_worth_44 ?_
        have h := h.2
        refine lv_iload_n hx hb dX12_worth_45 rfl (lv_at hl 1 rfl) ?_
        refine af_l hW (rn_S X hW (As := [.int a1]) (rest := [.long (J32 32 0 (Int32.toNatClampNeg ((4 * a1) + a2)))]) (kX12_elevens h) mbX12_elevens tw1195 tw1196 rfl hl.1 (Nat.le_of_ble_eq_true rfl) ⟨(Nat.le_of_ble_eq_true rfl), (Nat.le_of_ble_eq_true rfl)⟩ dX12_worth_46) (fun r46 I46 J46 H locs h hW => ?_)
        refine lv_iload_n hx hb dX12_worth_49 rfl (lv_at hl 3 rfl) ?_
        refine af_l hW (rn_S X hW (As := [.long (J32 32 0 (Int32.toNatClampNeg ((4 * a1) + a2))), .long r46, .int a3]) (rest := []) (kX12_lowest h) mbX12_lowest tw1084 tw1085 rfl hl.1 (Nat.le_of_ble_eq_true rfl) ⟨(Nat.le_of_ble_eq_true rfl), (Nat.le_of_ble_eq_true rfl)⟩ dX12_worth_50) (fun r50 I50 J50 H locs h hW => ?_)
        exact e_l X hW h dX12_worth_53
      · have h := h.2 c23
        refine lv_ldc2 hx hb X.1.2.2.2.1 (X.1.2.2.2.2 _ tw1092) dX12_worth_26 ?_
        exact e_l X hW h dX12_worth_29
def wX12_clubRound_b62 (g : GS) (ko4 : Int32 → Int32 → Int32 → MI → MJ → Prop) (Q : Int32 → MI → MJ → Prop) (v1 : Int32) (v3 : Int32) (t0 : Int32) (t1 : Int32) (I : MI) (J : MJ) : Prop :=
  ko4 v1 (t1 + t0) (v3 + 1) I J
set_option maxHeartbeats 4000000 in
set_option maxRecDepth 100000 in
theorem bX12_clubRound_62 {p : Program} {l : Launch} {e : Env} {s : State} {m : MethodId} {args : Array Value} {below : List Frame} {meth : Method} {c : Code} {E : WE} {Q : Int32 → MI → MJ → Prop} {ko4 : Int32 → Int32 → Int32 → MI → MJ → Prop} (X : Cx E cX12_clubRound 5 RX12 ((Option.some FieldType.int)) p s m args c meth)
    (hk4 : ∀ (v1 : Int32) (v2 : Int32) (v3 : Int32) (I : MI) (J : MJ) (H : Heap) (locs : List Loc) (ls : Array Slot), ko4 v1 v2 v3 I J → Wd E I J s H locs → lv_has ls 5 [(0, .ref (wa E 17 0)), (1, .int v1), (2, .int v2), (3, .int v3)] → W p l e (rmO 1 21) s m args below meth c H locs 0 0 (MQ below (QI E Q) args s 0 0 (AA E)) (F0 m 4 ls [])) : ∀ (v1 : Int32) (v3 : Int32) (t0 : Int32) (t1 : Int32) (I : MI) (J : MJ) (H : Heap) (locs : List Loc) (ls : Array Slot), wX12_clubRound_b62 (wg E) ko4 Q v1 v3 t0 t1 I J → Wd E I J s H locs → lv_has ls 5 [(0, .ref (wa E 17 0)), (1, .int v1), (3, .int v3)] → W p l e (rmO 1 21) s m args below meth c H locs 0 0 (MQ below (QI E Q) args s 0 0 (AA E)) (F0 m 62 ls [.int t0, .int t1]) := by
  have hx := X.1.1
  have hb := X.1.2.1
  intro v1 v3 t0 t1 I J H locs ls h hW hl
  refine lv_iadd hx hb dX12_clubRound_62 ?_
  refine lv_istore_n (lv' := [(2, .int (t1 + t0)), (0, .ref (wa E 17 0)), (1, .int v1), (3, .int v3)]) hx hb dX12_clubRound_63 rfl hl (by decide) rfl (fun ls hl => ?_)
  refine lv_iinc (v := v3 + 1) (lv' := [(3, .int (v3 + 1)), (2, .int (t1 + t0)), (0, .ref (wa E 17 0)), (1, .int v1)]) hx hb dX12_clubRound_64 hl (k := 3) rfl rfl (by decide) rfl (fun ls hl => ?_)
  refine lv_goto (tgt := 4) hx hb dX12_clubRound_67 (by decide) ?_
  exact hk4 v1 (t1 + t0) (v3 + 1) _ _ _ _ _  h hW (lv_sub hl [2, 3, 1, 0] rfl)
def wX12_clubRound_b41 (g : GS) (ko4 : Int32 → Int32 → Int32 → MI → MJ → Prop) (Q : Int32 → MI → MJ → Prop) (v1 : Int32) (v2 : Int32) (v3 : Int32) (t0 : Int32) (I : MI) (J : MJ) : Prop :=
  wX12_draw g 10 I J (fun r47 I47 J47 => (((2 * t0) ≤ r47 → wX12_clubRound_b62 g ko4 Q v1 v3 0 v2 I47 J47) ∧ (¬ (2 * t0) ≤ r47 → wX12_clubRound_b62 g ko4 Q v1 v3 1 v2 I47 J47)))
set_option maxHeartbeats 4000000 in
set_option maxRecDepth 100000 in
theorem bX12_clubRound_41 {p : Program} {l : Launch} {e : Env} {s : State} {m : MethodId} {args : Array Value} {below : List Frame} {meth : Method} {c : Code} {E : WE} {Q : Int32 → MI → MJ → Prop} {ko4 : Int32 → Int32 → Int32 → MI → MJ → Prop} (X : Cx E cX12_clubRound 5 RX12 ((Option.some FieldType.int)) p s m args c meth)
    (hk4 : ∀ (v1 : Int32) (v2 : Int32) (v3 : Int32) (I : MI) (J : MJ) (H : Heap) (locs : List Loc) (ls : Array Slot), ko4 v1 v2 v3 I J → Wd E I J s H locs → lv_has ls 5 [(0, .ref (wa E 17 0)), (1, .int v1), (2, .int v2), (3, .int v3)] → W p l e (rmO 1 21) s m args below meth c H locs 0 0 (MQ below (QI E Q) args s 0 0 (AA E)) (F0 m 4 ls [])) : ∀ (v1 : Int32) (v2 : Int32) (v3 : Int32) (t0 : Int32) (I : MI) (J : MJ) (H : Heap) (locs : List Loc) (ls : Array Slot), wX12_clubRound_b41 (wg E) ko4 Q v1 v2 v3 t0 I J → Wd E I J s H locs → lv_has ls 5 [(0, .ref (wa E 17 0)), (1, .int v1), (2, .int v2), (3, .int v3)] → W p l e (rmO 1 21) s m args below meth c H locs 0 0 (MQ below (QI E Q) args s 0 0 (AA E)) (F0 m 41 ls [.int t0]) := by
  have hx := X.1.1
  have hb := X.1.2.1
  intro v1 v2 v3 t0 I J H locs ls h hW hl
  refine lv_istore (lv' := [(4, .int t0), (0, .ref (wa E 17 0)), (1, .int v1), (2, .int v2), (3, .int v3)]) hx hb dX12_clubRound_41 hl (by decide) rfl (fun ls hl => ?_)
  refine lv_iload_n hx hb dX12_clubRound_43 rfl (lv_at hl 3 rfl) ?_
  refine lv_aload_n hx hb dX12_clubRound_44 rfl (lv_at hl 1 rfl) ?_
  refine lv_bipush (v := 10) hx hb dX12_clubRound_45 (by decide) ?_
  refine af_i hW (rn_V X hW (As := [.int 10]) (rest := [.int v2]) (okS hW sc17_0) rfl rfl (kX12_draw h) mbX12_draw tw1163 tw1165 tp48 rfl hl.1 (Nat.le_of_ble_eq_true rfl) ⟨(Nat.le_of_ble_eq_true rfl), (Nat.le_of_ble_eq_true rfl)⟩ dX12_clubRound_47) (fun r47 I47 J47 H locs h hW => ?_)
  refine lv_iconst (v := 2) hx hb dX12_clubRound_50 (by decide) ?_
  refine lv_iload hx hb dX12_clubRound_51 (lv_at hl 0 rfl) ?_
  refine lv_imul hx hb dX12_clubRound_53 ?_
  refine lv_icmp_ge (tgt := 61) hx hb dX12_clubRound_54 (by decide) (fun c54 => ?_) (fun c54 => ?_)
  · have h := h.1 c54
    refine lv_iconst (v := 0) hx hb dX12_clubRound_61 (by decide) ?_
    exact bX12_clubRound_62 X hk4 v1 v3 0 v2 _ _ _ _ _  h hW (lv_sub hl [1, 2, 4] rfl)
  · have h := h.2 c54
    refine lv_iconst (v := 1) hx hb dX12_clubRound_57 (by decide) ?_
    refine lv_goto (tgt := 62) hx hb dX12_clubRound_58 (by decide) ?_
    exact bX12_clubRound_62 X hk4 v1 v3 1 v2 _ _ _ _ _  h hW (lv_sub hl [1, 2, 4] rfl)
def wX12_clubRound_b4 (g : GS) (Q : Int32 → MI → MJ → Prop) : Nat → Int32 → Int32 → Int32 → MI → MJ → Prop
  | 0, _, _, _, _, _ => False
  | n + 1, v1, v2, v3, I, J => (((I 17 0 34) ≤ v3 → Q v2 I J) ∧ (¬ (I 17 0 34) ≤ v3 → vp_in v3 9 ∧ (((v1 ≤ (I 33 0 (Int32.toNatClampNeg v3)) → vp_in v3 9 ∧ (wX12_clubRound_b41 g (fun v1 v2 v3 I J => wX12_clubRound_b4 g Q n v1 v2 v3 I J) Q v1 v2 v3 ((I 33 0 (Int32.toNatClampNeg v3)) - v1) I J)) ∧ (¬ v1 ≤ (I 33 0 (Int32.toNatClampNeg v3)) → vp_in v3 9 ∧ (wX12_clubRound_b41 g (fun v1 v2 v3 I J => wX12_clubRound_b4 g Q n v1 v2 v3 I J) Q v1 v2 v3 (v1 - (I 33 0 (Int32.toNatClampNeg v3))) I J))))))
set_option maxHeartbeats 4000000 in
set_option maxRecDepth 100000 in
theorem bX12_clubRound_4 {p : Program} {l : Launch} {e : Env} {s : State} {m : MethodId} {args : Array Value} {below : List Frame} {meth : Method} {c : Code} {E : WE} {Q : Int32 → MI → MJ → Prop} (X : Cx E cX12_clubRound 5 RX12 ((Option.some FieldType.int)) p s m args c meth) (n : Nat) : ∀ (v1 : Int32) (v2 : Int32) (v3 : Int32) (I : MI) (J : MJ) (H : Heap) (locs : List Loc) (ls : Array Slot), wX12_clubRound_b4 (wg E) Q n v1 v2 v3 I J → Wd E I J s H locs → lv_has ls 5 [(0, .ref (wa E 17 0)), (1, .int v1), (2, .int v2), (3, .int v3)] → W p l e (rmO 1 21) s m args below meth c H locs 0 0 (MQ below (QI E Q) args s 0 0 (AA E)) (F0 m 4 ls []) := by
  have hx := X.1.1
  have hb := X.1.2.1
  induction n with
  | zero => intro v1 v2 v3 I J H locs ls h hW hl; exact h.elim
  | succ n ih =>
    intro v1 v2 v3 I J H locs ls h hW hl
    refine lv_iload_n hx hb dX12_clubRound_4 rfl (lv_at hl 3 rfl) ?_
    refine lv_aload_n hx hb dX12_clubRound_5 rfl (lv_at hl 0 rfl) ?_
    refine r_get X hW 34 (okS hW sc17_0) rfl rfl inX12 (Nat.le_of_ble_eq_true rfl) tw868 rfl dX12_clubRound_6 ?_
    refine lv_icmp_ge (tgt := 70) hx hb dX12_clubRound_9 (by decide) (fun c9 => ?_) (fun c9 => ?_)
    · have h := h.1 c9
      refine lv_iload_n hx hb dX12_clubRound_70 rfl (lv_at hl 2 rfl) ?_
      exact e_i X hW h dX12_clubRound_71
    · have h := h.2 c9
      refine lv_aload_n hx hb dX12_clubRound_12 rfl (lv_at hl 0 rfl) ?_
      refine r_get X hW 35 (okS hW sc17_0) rfl rfl inX12 (Nat.le_of_ble_eq_true rfl) tw869 rfl dX12_clubRound_13 ?_
      refine lv_iload_n hx hb dX12_clubRound_16 rfl (lv_at hl 3 rfl) ?_
      refine r_iald X hW (okS hW sc33_0) rfl h.1 dX12_clubRound_17 ?_
      have h := h.2
      refine lv_iload_n hx hb dX12_clubRound_18 rfl (lv_at hl 1 rfl) ?_
      refine lv_icmp_ge (tgt := 33) hx hb dX12_clubRound_19 (by decide) (fun c19 => ?_) (fun c19 => ?_)
      · have h := h.1 c19
        refine lv_aload_n hx hb dX12_clubRound_33 rfl (lv_at hl 0 rfl) ?_
        refine r_get X hW 35 (okS hW sc17_0) rfl rfl inX12 (Nat.le_of_ble_eq_true rfl) tw869 rfl dX12_clubRound_34 ?_
        refine lv_iload_n hx hb dX12_clubRound_37 rfl (lv_at hl 3 rfl) ?_
        refine r_iald X hW (okS hW sc33_0) rfl h.1 dX12_clubRound_38 ?_
        have h := h.2
        refine lv_iload_n hx hb dX12_clubRound_39 rfl (lv_at hl 1 rfl) ?_
        refine lv_isub hx hb dX12_clubRound_40 ?_
        exact bX12_clubRound_41 X ih v1 v2 v3 ((I 33 0 (Int32.toNatClampNeg v3)) - v1) _ _ _ _ _  h hW (lv_sub hl [0, 1, 2, 3] rfl)
      · have h := h.2 c19
        refine lv_iload_n hx hb dX12_clubRound_22 rfl (lv_at hl 1 rfl) ?_
        refine lv_aload_n hx hb dX12_clubRound_23 rfl (lv_at hl 0 rfl) ?_
        refine r_get X hW 35 (okS hW sc17_0) rfl rfl inX12 (Nat.le_of_ble_eq_true rfl) tw869 rfl dX12_clubRound_24 ?_
        refine lv_iload_n hx hb dX12_clubRound_27 rfl (lv_at hl 3 rfl) ?_
        refine r_iald X hW (okS hW sc33_0) rfl h.1 dX12_clubRound_28 ?_
        have h := h.2
        refine lv_isub hx hb dX12_clubRound_29 ?_
        refine lv_goto (tgt := 41) hx hb dX12_clubRound_30 (by decide) ?_
        exact bX12_clubRound_41 X ih v1 v2 v3 (v1 - (I 33 0 (Int32.toNatClampNeg v3))) _ _ _ _ _  h hW (lv_sub hl [0, 1, 2, 3] rfl)
def wX12_clubRound (g : GS) (a1 : Int32) (I : MI) (J : MJ) (Q : Int32 → MI → MJ → Prop) : Prop :=
  ∃ n4, wX12_clubRound_b4 g Q n4 a1 0 0 I J
theorem mbX12_clubRound : MB yX12_clubRound cX12_clubRound 5 ((Option.some FieldType.int)) 1 := ⟨tw1214, tw7, ⟨by decide, by decide⟩, by decide +kernel, by decide +kernel⟩
set_option maxHeartbeats 4000000 in
set_option maxRecDepth 100000 in
theorem kX12_clubRound {l : Launch} {E : WE} {a1 : Int32} {I : MI} {J : MJ} {Q : Int32 → MI → MJ → Prop} (h : wX12_clubRound (wg E) a1 I J Q) : Met l yX12_clubRound (wsM yX12_clubRound cX12_clubRound 5 ((Option.some FieldType.int))) (rmO 1 21) (va_Pc [.ref (wa E 17 0), .int a1] (Wp E I J)) (QI E Q) 0 0 (AA E) := by
  refine m_entry mbX12_clubRound (Nat.le_of_ble_eq_true rfl) ?_
  intro p e s m args below meth c X ls hW hl
  have X : Cx E cX12_clubRound 5 RX12 ((Option.some FieldType.int)) p s m args c meth := X
  have hx := X.1.1
  have hb := X.1.2.1
  have hl : lv_has ls 5 [(0, .ref (wa E 17 0)), (1, .int a1)] := hl
  refine lv_iconst (v := 0) hx hb dX12_clubRound_0 (by decide) ?_
  refine lv_istore_n (lv' := [(2, .int 0), (0, .ref (wa E 17 0)), (1, .int a1)]) hx hb dX12_clubRound_1 rfl hl (by decide) rfl (fun ls hl => ?_)
  refine lv_iconst (v := 0) hx hb dX12_clubRound_2 (by decide) ?_
  refine lv_istore_n (lv' := [(3, .int 0), (2, .int 0), (0, .ref (wa E 17 0)), (1, .int a1)]) hx hb dX12_clubRound_3 rfl hl (by decide) rfl (fun ls hl => ?_)
  obtain ⟨n4, h⟩ := h
  exact bX12_clubRound_4 X n4 a1 0 0 _ _ _ _ _  h hW (lv_sub hl [2, 3, 1, 0] rfl)
def wX12_isLetIn_b44 (g : GS) (Q : Int32 → MI → MJ → Prop) (v1 : Int32) (v2 : Int32) (t0 : Int32) (I : MI) (J : MJ) : Prop :=
  ((¬ t0 = 0 → Q 1 I J) ∧ (t0 = 0 → vp_in v1 6 ∧ ((((I 26 0 (Int32.toNatClampNeg v1)) = 0 → Q 0 I J) ∧ (¬ (I 26 0 (Int32.toNatClampNeg v1)) = 0 → wX12_clubRound g v2 I J (fun r62 I62 J62 => wX12_shuts g v1 r62 (I62 17 0 34) I62 J62 (fun r69 I69 J69 => ((¬ r69 = 0 → Q 0 I69 J69) ∧ (r69 = 0 → Q 1 I69 J69)))))))))
set_option maxHeartbeats 4000000 in
set_option maxRecDepth 100000 in
theorem bX12_isLetIn_44 {p : Program} {l : Launch} {e : Env} {s : State} {m : MethodId} {args : Array Value} {below : List Frame} {meth : Method} {c : Code} {E : WE} {Q : Int32 → MI → MJ → Prop} (X : Cx E cX12_isLetIn 4 RX12 ((Option.some FieldType.boolean)) p s m args c meth) : ∀ (v1 : Int32) (v2 : Int32) (t0 : Int32) (I : MI) (J : MJ) (H : Heap) (locs : List Loc) (ls : Array Slot), wX12_isLetIn_b44 (wg E) Q v1 v2 t0 I J → Wd E I J s H locs → lv_has ls 4 [(0, .ref (wa E 17 0)), (1, .int v1), (2, .int v2)] → W p l e (rmO 2 45) s m args below meth c H locs 0 0 (MQ below (QI E Q) args s 0 0 (AA E)) (F0 m 44 ls [.int t0]) := by
  have hx := X.1.1
  have hb := X.1.2.1
  intro v1 v2 t0 I J H locs ls h hW hl
  refine lv_istore_n (lv' := [(3, .int t0), (0, .ref (wa E 17 0)), (1, .int v1), (2, .int v2)]) hx hb dX12_isLetIn_44 rfl hl (by decide) rfl (fun ls hl => ?_)
  refine lv_iload_n hx hb dX12_isLetIn_45 rfl (lv_at hl 0 rfl) ?_
  refine lv_if_ne (tgt := 75) hx hb dX12_isLetIn_46 (by decide) (fun c46 => ?_) (fun c46 => ?_)
  · have h := h.1 c46
    refine lv_iconst (v := 1) hx hb dX12_isLetIn_75 (by decide) ?_
    refine lv_goto (tgt := 80) hx hb dX12_isLetIn_76 (by decide) ?_
    exact e_z X hW rfl h dX12_isLetIn_80
  · have h := h.2 c46
    refine lv_aload_n hx hb dX12_isLetIn_49 rfl (lv_at hl 1 rfl) ?_
    refine r_get X hW 11 (okS hW sc17_0) rfl rfl inX12 (Nat.le_of_ble_eq_true rfl) tw845 rfl dX12_isLetIn_50 ?_
    refine lv_iload_n hx hb dX12_isLetIn_53 rfl (lv_at hl 2 rfl) ?_
    refine r_zald X hW (okS hW sc26_0) rfl h.1 dX12_isLetIn_54 ?_
    have h := h.2
    refine lv_if_eq (tgt := 79) hx hb dX12_isLetIn_55 (by decide) (fun c55 => ?_) (fun c55 => ?_)
    · have h := h.1 c55
      refine lv_iconst (v := 0) hx hb dX12_isLetIn_79 (by decide) ?_
      exact e_z X hW rfl h dX12_isLetIn_80
    · have h := h.2 c55
      refine lv_aload_n hx hb dX12_isLetIn_58 rfl (lv_at hl 1 rfl) ?_
      refine lv_iload_n hx hb dX12_isLetIn_59 rfl (lv_at hl 2 rfl) ?_
      refine lv_aload_n hx hb dX12_isLetIn_60 rfl (lv_at hl 1 rfl) ?_
      refine lv_iload_n hx hb dX12_isLetIn_61 rfl (lv_at hl 3 rfl) ?_
      refine af_i hW (rn_V X hW (As := [.int v2]) (rest := [.int v1, .ref (wa E 17 0)]) (okS hW sc17_0) rfl rfl (kX12_clubRound h) mbX12_clubRound tw1211 tw1213 tp54 rfl hl.1 (Nat.le_of_ble_eq_true rfl) ⟨(Nat.le_of_ble_eq_true rfl), (Nat.le_of_ble_eq_true rfl)⟩ dX12_isLetIn_62) (fun r62 I62 J62 H locs h hW => ?_)
      refine lv_aload_n hx hb dX12_isLetIn_65 rfl (lv_at hl 1 rfl) ?_
      refine r_get X hW 34 (okS hW sc17_0) rfl rfl inX12 (Nat.le_of_ble_eq_true rfl) tw868 rfl dX12_isLetIn_66 ?_
      refine af_i hW (rn_V X hW (As := [.int v1, .int r62, .int (I62 17 0 34)]) (rest := []) (okS hW sc17_0) rfl rfl (kX12_shuts h) mbX12_shuts tw1101 tw1103 tp42 rfl hl.1 (Nat.le_of_ble_eq_true rfl) ⟨(Nat.le_of_ble_eq_true rfl), (Nat.le_of_ble_eq_true rfl)⟩ dX12_isLetIn_69) (fun r69 I69 J69 H locs h hW => ?_)
      refine lv_if_ne (tgt := 79) hx hb dX12_isLetIn_72 (by decide) (fun c72 => ?_) (fun c72 => ?_)
      · have h := h.1 c72
        refine lv_iconst (v := 0) hx hb dX12_isLetIn_79 (by decide) ?_
        exact e_z X hW rfl h dX12_isLetIn_80
      · have h := h.2 c72
        refine lv_iconst (v := 1) hx hb dX12_isLetIn_75 (by decide) ?_
        refine lv_goto (tgt := 80) hx hb dX12_isLetIn_76 (by decide) ?_
        exact e_z X hW rfl h dX12_isLetIn_80
def wX12_isLetIn (g : GS) (a1 : Int32) (a2 : Int32) (I : MI) (J : MJ) (Q : Int32 → MI → MJ → Prop) : Prop :=
  (((I 17 0 34) = 0 → Q 0 I J) ∧ (¬ (I 17 0 34) = 0 → vp_in a1 6 ∧ ((((I 25 0 (Int32.toNatClampNeg a1)) ≤ (I 17 0 34) → wX12_clubRound g a2 I J (fun r26 I26 J26 => wX12_shuts g a1 r26 (I26 17 0 34) I26 J26 (fun r33 I33 J33 => ((¬ r33 = 0 → wX12_isLetIn_b44 g Q a1 a2 0 I33 J33) ∧ (r33 = 0 → wX12_isLetIn_b44 g Q a1 a2 1 I33 J33))))) ∧ (¬ (I 25 0 (Int32.toNatClampNeg a1)) ≤ (I 17 0 34) → Q 0 I J)))))
theorem mbX12_isLetIn : MB yX12_isLetIn cX12_isLetIn 4 ((Option.some FieldType.boolean)) 2 := ⟨tw1210, tw7, ⟨by decide, by decide⟩, by decide +kernel, by decide +kernel⟩
set_option maxHeartbeats 4000000 in
set_option maxRecDepth 100000 in
theorem kX12_isLetIn {l : Launch} {E : WE} {a1 : Int32} {a2 : Int32} {I : MI} {J : MJ} {Q : Int32 → MI → MJ → Prop} (h : wX12_isLetIn (wg E) a1 a2 I J Q) : Met l yX12_isLetIn (wsM yX12_isLetIn cX12_isLetIn 4 ((Option.some FieldType.boolean))) (rmO 2 45) (va_Pc [.ref (wa E 17 0), .int a1, .int a2] (Wp E I J)) (QI E Q) 0 0 (AA E) := by
  refine m_entry mbX12_isLetIn (Nat.le_of_ble_eq_true rfl) ?_
  intro p e s m args below meth c X ls hW hl
  have X : Cx E cX12_isLetIn 4 RX12 ((Option.some FieldType.boolean)) p s m args c meth := X
  have hx := X.1.1
  have hb := X.1.2.1
  have hl : lv_has ls 4 [(0, .ref (wa E 17 0)), (1, .int a1), (2, .int a2)] := hl
  refine lv_aload_n hx hb dX12_isLetIn_0 rfl (lv_at hl 0 rfl) ?_
  refine r_get X hW 34 (okS hW sc17_0) rfl rfl inX12 (Nat.le_of_ble_eq_true rfl) tw868 rfl dX12_isLetIn_1 ?_
  refine lv_if_eq (tgt := 20) hx hb dX12_isLetIn_4 (by decide) (fun c4 => ?_) (fun c4 => ?_)
  · have h := h.1 c4
    refine lv_iconst (v := 0) hx hb dX12_isLetIn_20 (by decide) ?_
    exact e_z X hW rfl h dX12_isLetIn_21
  · have h := h.2 c4
    refine lv_aload_n hx hb dX12_isLetIn_7 rfl (lv_at hl 0 rfl) ?_
    refine r_get X hW 34 (okS hW sc17_0) rfl rfl inX12 (Nat.le_of_ble_eq_true rfl) tw868 rfl dX12_isLetIn_8 ?_
    refine lv_aload_n hx hb dX12_isLetIn_11 rfl (lv_at hl 0 rfl) ?_
    refine r_get X hW 10 (okS hW sc17_0) rfl rfl inX12 (Nat.le_of_ble_eq_true rfl) tw844 rfl dX12_isLetIn_12 ?_
    refine lv_iload_n hx hb dX12_isLetIn_15 rfl (lv_at hl 1 rfl) ?_
    refine r_iald X hW (okS hW sc25_0) rfl h.1 dX12_isLetIn_16 ?_
    have h := h.2
    refine lv_icmp_ge (tgt := 22) hx hb dX12_isLetIn_17 (by decide) (fun c17 => ?_) (fun c17 => ?_)
    · have h := h.1 c17
      refine lv_aload_n hx hb dX12_isLetIn_22 rfl (lv_at hl 0 rfl) ?_
      refine lv_iload_n hx hb dX12_isLetIn_23 rfl (lv_at hl 1 rfl) ?_
      refine lv_aload_n hx hb dX12_isLetIn_24 rfl (lv_at hl 0 rfl) ?_
      refine lv_iload_n hx hb dX12_isLetIn_25 rfl (lv_at hl 2 rfl) ?_
      refine af_i hW (rn_V X hW (As := [.int a2]) (rest := [.int a1, .ref (wa E 17 0)]) (okS hW sc17_0) rfl rfl (kX12_clubRound h) mbX12_clubRound tw1211 tw1213 tp54 rfl hl.1 (Nat.le_of_ble_eq_true rfl) ⟨(Nat.le_of_ble_eq_true rfl), (Nat.le_of_ble_eq_true rfl)⟩ dX12_isLetIn_26) (fun r26 I26 J26 H locs h hW => ?_)
      refine lv_aload_n hx hb dX12_isLetIn_29 rfl (lv_at hl 0 rfl) ?_
      refine r_get X hW 34 (okS hW sc17_0) rfl rfl inX12 (Nat.le_of_ble_eq_true rfl) tw868 rfl dX12_isLetIn_30 ?_
      refine af_i hW (rn_V X hW (As := [.int a1, .int r26, .int (I26 17 0 34)]) (rest := []) (okS hW sc17_0) rfl rfl (kX12_shuts h) mbX12_shuts tw1101 tw1103 tp42 rfl hl.1 (Nat.le_of_ble_eq_true rfl) ⟨(Nat.le_of_ble_eq_true rfl), (Nat.le_of_ble_eq_true rfl)⟩ dX12_isLetIn_33) (fun r33 I33 J33 H locs h hW => ?_)
      refine lv_if_ne (tgt := 43) hx hb dX12_isLetIn_36 (by decide) (fun c36 => ?_) (fun c36 => ?_)
      · have h := h.1 c36
        refine lv_iconst (v := 0) hx hb dX12_isLetIn_43 (by decide) ?_
        exact bX12_isLetIn_44 X a1 a2 0 _ _ _ _ _  h hW (lv_sub hl [0, 1, 2] rfl)
      · have h := h.2 c36
        refine lv_iconst (v := 1) hx hb dX12_isLetIn_39 (by decide) ?_
        refine lv_goto (tgt := 44) hx hb dX12_isLetIn_40 (by decide) ?_
        exact bX12_isLetIn_44 X a1 a2 1 _ _ _ _ _  h hW (lv_sub hl [0, 1, 2] rfl)
    · have h := h.2 c17
      refine lv_iconst (v := 0) hx hb dX12_isLetIn_20 (by decide) ?_
      exact e_z X hW rfl h dX12_isLetIn_21
def wX12_unlike_b4 (g : GS) (Q : Int32 → MI → MJ → Prop) : Nat → Int32 → Int32 → MI → MJ → Prop
  | 0, _, _, _, _ => False
  | n + 1, v1, v2, I, J => (((I 17 0 34) ≤ v2 → wX12_ones g v1 I J (fun r30 I30 J30 => Q r30 I30 J30)) ∧ (¬ (I 17 0 34) ≤ v2 → vp_in v2 9 ∧ (wX12_unlike_b4 g Q n (v1 ||| (1 <<< ((I 33 0 (Int32.toNatClampNeg v2)) &&& 31))) (v2 + 1) I J)))
set_option maxHeartbeats 4000000 in
set_option maxRecDepth 100000 in
theorem bX12_unlike_4 {p : Program} {l : Launch} {e : Env} {s : State} {m : MethodId} {args : Array Value} {below : List Frame} {meth : Method} {c : Code} {E : WE} {Q : Int32 → MI → MJ → Prop} (X : Cx E cX12_unlike 3 RX12 ((Option.some FieldType.int)) p s m args c meth) (n : Nat) : ∀ (v1 : Int32) (v2 : Int32) (I : MI) (J : MJ) (H : Heap) (locs : List Loc) (ls : Array Slot), wX12_unlike_b4 (wg E) Q n v1 v2 I J → Wd E I J s H locs → lv_has ls 3 [(0, .ref (wa E 17 0)), (1, .int v1), (2, .int v2)] → W p l e (rmO 1 22) s m args below meth c H locs 0 0 (MQ below (QI E Q) args s 0 0 (AA E)) (F0 m 4 ls []) := by
  have hx := X.1.1
  have hb := X.1.2.1
  induction n with
  | zero => intro v1 v2 I J H locs ls h hW hl; exact h.elim
  | succ n ih =>
    intro v1 v2 I J H locs ls h hW hl
    refine lv_iload_n hx hb dX12_unlike_4 rfl (lv_at hl 2 rfl) ?_
    refine lv_aload_n hx hb dX12_unlike_5 rfl (lv_at hl 0 rfl) ?_
    refine r_get X hW 34 (okS hW sc17_0) rfl rfl inX12 (Nat.le_of_ble_eq_true rfl) tw868 rfl dX12_unlike_6 ?_
    refine lv_icmp_ge (tgt := 29) hx hb dX12_unlike_9 (by decide) (fun c9 => ?_) (fun c9 => ?_)
    · have h := h.1 c9
      refine lv_iload_n hx hb dX12_unlike_29 rfl (lv_at hl 1 rfl) ?_
      refine af_i hW (rn_S X hW (As := [.int v1]) (rest := []) (kX12_ones h) mbX12_ones tw1058 tw1059 rfl hl.1 (Nat.le_of_ble_eq_true rfl) ⟨(Nat.le_of_ble_eq_true rfl), (Nat.le_of_ble_eq_true rfl)⟩ dX12_unlike_30) (fun r30 I30 J30 H locs h hW => ?_)
      exact e_i X hW h dX12_unlike_33
    · have h := h.2 c9
      refine lv_iload_n hx hb dX12_unlike_12 rfl (lv_at hl 1 rfl) ?_
      refine lv_iconst (v := 1) hx hb dX12_unlike_13 (by decide) ?_
      refine lv_aload_n hx hb dX12_unlike_14 rfl (lv_at hl 0 rfl) ?_
      refine r_get X hW 35 (okS hW sc17_0) rfl rfl inX12 (Nat.le_of_ble_eq_true rfl) tw869 rfl dX12_unlike_15 ?_
      refine lv_iload_n hx hb dX12_unlike_18 rfl (lv_at hl 2 rfl) ?_
      refine r_iald X hW (okS hW sc33_0) rfl h.1 dX12_unlike_19 ?_
      have h := h.2
      refine lv_ishl hx hb dX12_unlike_20 ?_
      refine lv_ior hx hb dX12_unlike_21 ?_
      refine lv_istore_n (lv' := [(1, .int (v1 ||| (1 <<< ((I 33 0 (Int32.toNatClampNeg v2)) &&& 31)))), (0, .ref (wa E 17 0)), (2, .int v2)]) hx hb dX12_unlike_22 rfl hl (by decide) rfl (fun ls hl => ?_)
      refine lv_iinc (v := v2 + 1) (lv' := [(2, .int (v2 + 1)), (1, .int (v1 ||| (1 <<< ((I 33 0 (Int32.toNatClampNeg v2)) &&& 31)))), (0, .ref (wa E 17 0))]) hx hb dX12_unlike_23 hl (k := 2) rfl rfl (by decide) rfl (fun ls hl => ?_)
      refine lv_goto (tgt := 4) hx hb dX12_unlike_26 (by decide) ?_
      exact ih (v1 ||| (1 <<< ((I 33 0 (Int32.toNatClampNeg v2)) &&& 31))) (v2 + 1) _ _ _ _ _  h hW (lv_sub hl [2, 1, 0] rfl)
def wX12_unlike (g : GS) (I : MI) (J : MJ) (Q : Int32 → MI → MJ → Prop) : Prop :=
  ∃ n4, wX12_unlike_b4 g Q n4 0 0 I J
theorem mbX12_unlike : MB yX12_unlike cX12_unlike 3 ((Option.some FieldType.int)) 0 := ⟨tw1218, tw7, ⟨by decide, by decide⟩, by decide +kernel, by decide +kernel⟩
set_option maxHeartbeats 4000000 in
set_option maxRecDepth 100000 in
theorem kX12_unlike {l : Launch} {E : WE} {I : MI} {J : MJ} {Q : Int32 → MI → MJ → Prop} (h : wX12_unlike (wg E) I J Q) : Met l yX12_unlike (wsM yX12_unlike cX12_unlike 3 ((Option.some FieldType.int))) (rmO 1 22) (va_Pc [.ref (wa E 17 0)] (Wp E I J)) (QI E Q) 0 0 (AA E) := by
  refine m_entry mbX12_unlike (Nat.le_of_ble_eq_true rfl) ?_
  intro p e s m args below meth c X ls hW hl
  have X : Cx E cX12_unlike 3 RX12 ((Option.some FieldType.int)) p s m args c meth := X
  have hx := X.1.1
  have hb := X.1.2.1
  have hl : lv_has ls 3 [(0, .ref (wa E 17 0))] := hl
  refine lv_iconst (v := 0) hx hb dX12_unlike_0 (by decide) ?_
  refine lv_istore_n (lv' := [(1, .int 0), (0, .ref (wa E 17 0))]) hx hb dX12_unlike_1 rfl hl (by decide) rfl (fun ls hl => ?_)
  refine lv_iconst (v := 0) hx hb dX12_unlike_2 (by decide) ?_
  refine lv_istore_n (lv' := [(2, .int 0), (1, .int 0), (0, .ref (wa E 17 0))]) hx hb dX12_unlike_3 rfl hl (by decide) rfl (fun ls hl => ?_)
  obtain ⟨n4, h⟩ := h
  exact bX12_unlike_4 X n4 0 0 _ _ _ _ _  h hW (lv_sub hl [2, 1, 0] rfl)
def wX12_years_b188 (g : GS) (ko85 : Int32 → Int32 → Int32 → Int32 → Int32 → MI → MJ → Prop) (Q : Int32 → MI → MJ → Prop) (v1 : Int32) (v2 : Int32) (v4 : Int32) (v5 : Int32) (v6 : Int32) (I : MI) (J : MJ) : Prop :=
  ko85 v1 v2 v4 v5 (v6 + 1) I J
set_option maxHeartbeats 4000000 in
set_option maxRecDepth 100000 in
theorem bX12_years_188 {p : Program} {l : Launch} {e : Env} {s : State} {m : MethodId} {args : Array Value} {below : List Frame} {meth : Method} {c : Code} {E : WE} {Q : Int32 → MI → MJ → Prop} {ko85 : Int32 → Int32 → Int32 → Int32 → Int32 → MI → MJ → Prop} (X : Cx E cX12_years 8 RX12 ((Option.some FieldType.int)) p s m args c meth)
    (hk85 : ∀ (v1 : Int32) (v2 : Int32) (v4 : Int32) (v5 : Int32) (v6 : Int32) (I : MI) (J : MJ) (H : Heap) (locs : List Loc) (ls : Array Slot), ko85 v1 v2 v4 v5 v6 I J → Wd E I J s H locs → lv_has ls 8 [(0, .ref (wa E 17 0)), (1, .int v1), (2, .int v2), (4, .int v4), (5, .int v5), (6, .int v6)] → W p l e (rmO 3 68) s m args below meth c H locs 0 0 (MQ below (QI E Q) args s 0 0 (AA E)) (F0 m 85 ls [])) : ∀ (v1 : Int32) (v2 : Int32) (v4 : Int32) (v5 : Int32) (v6 : Int32) (I : MI) (J : MJ) (H : Heap) (locs : List Loc) (ls : Array Slot), wX12_years_b188 (wg E) ko85 Q v1 v2 v4 v5 v6 I J → Wd E I J s H locs → lv_has ls 8 [(0, .ref (wa E 17 0)), (1, .int v1), (2, .int v2), (4, .int v4), (5, .int v5), (6, .int v6)] → W p l e (rmO 3 68) s m args below meth c H locs 0 0 (MQ below (QI E Q) args s 0 0 (AA E)) (F0 m 188 ls []) := by
  have hx := X.1.1
  have hb := X.1.2.1
  intro v1 v2 v4 v5 v6 I J H locs ls h hW hl
  refine lv_iinc (v := v6 + 1) (lv' := [(6, .int (v6 + 1)), (0, .ref (wa E 17 0)), (1, .int v1), (2, .int v2), (4, .int v4), (5, .int v5)]) hx hb dX12_years_188 hl (k := 5) rfl rfl (by decide) rfl (fun ls hl => ?_)
  refine lv_goto (tgt := 85) hx hb dX12_years_191 (by decide) ?_
  exact hk85 v1 v2 v4 v5 (v6 + 1) _ _ _ _ _  h hW (lv_sub hl [1, 2, 3, 4, 5, 0] rfl)
def wX12_years_b142 (g : GS) (ko85 : Int32 → Int32 → Int32 → Int32 → Int32 → MI → MJ → Prop) (Q : Int32 → MI → MJ → Prop) (v1 : Int32) (v2 : Int32) (v4 : Int32) (v5 : Int32) (v6 : Int32) (t0 : Int32) (t1 : Int32) (I : MI) (J : MJ) : Prop :=
  wX12_draw g 10 (u3 I 17 0 (upd (I 17 0) 34 (t1 - t0))) J (fun r149 I149 J149 => wX12_isLetIn g v1 r149 I149 J149 (fun r158 I158 J158 => ((r158 = 0 → wX12_years_b188 g ko85 Q v1 v2 v4 v5 v6 I158 J158) ∧ (¬ r158 = 0 → vp_in (I158 17 0 34) 9 ∧ (∀ I182 : MI, I182 = u3 (u3 I158 33 0 (upd (I158 33 0) (Int32.toNatClampNeg (I158 17 0 34)) r149)) 17 0 (upd ((u3 I158 33 0 (upd (I158 33 0) (Int32.toNatClampNeg (I158 17 0 34)) r149)) 17 0) 34 (((u3 I158 33 0 (upd (I158 33 0) (Int32.toNatClampNeg (I158 17 0 34)) r149)) 17 0 34) + 1)) → wX12_years_b188 g ko85 Q v1 v2 v4 (v5 + 1) v6 I182 J158)))))
set_option maxHeartbeats 4000000 in
set_option maxRecDepth 100000 in
theorem bX12_years_142 {p : Program} {l : Launch} {e : Env} {s : State} {m : MethodId} {args : Array Value} {below : List Frame} {meth : Method} {c : Code} {E : WE} {Q : Int32 → MI → MJ → Prop} {ko85 : Int32 → Int32 → Int32 → Int32 → Int32 → MI → MJ → Prop} (X : Cx E cX12_years 8 RX12 ((Option.some FieldType.int)) p s m args c meth)
    (hk85 : ∀ (v1 : Int32) (v2 : Int32) (v4 : Int32) (v5 : Int32) (v6 : Int32) (I : MI) (J : MJ) (H : Heap) (locs : List Loc) (ls : Array Slot), ko85 v1 v2 v4 v5 v6 I J → Wd E I J s H locs → lv_has ls 8 [(0, .ref (wa E 17 0)), (1, .int v1), (2, .int v2), (4, .int v4), (5, .int v5), (6, .int v6)] → W p l e (rmO 3 68) s m args below meth c H locs 0 0 (MQ below (QI E Q) args s 0 0 (AA E)) (F0 m 85 ls [])) : ∀ (v1 : Int32) (v2 : Int32) (v4 : Int32) (v5 : Int32) (v6 : Int32) (t0 : Int32) (t1 : Int32) (I : MI) (J : MJ) (H : Heap) (locs : List Loc) (ls : Array Slot), wX12_years_b142 (wg E) ko85 Q v1 v2 v4 v5 v6 t0 t1 I J → Wd E I J s H locs → lv_has ls 8 [(0, .ref (wa E 17 0)), (1, .int v1), (2, .int v2), (4, .int v4), (5, .int v5), (6, .int v6)] → W p l e (rmO 3 68) s m args below meth c H locs 0 0 (MQ below (QI E Q) args s 0 0 (AA E)) (F0 m 142 ls [.int t0, .int t1, .ref (wa E 17 0)]) := by
  have hx := X.1.1
  have hb := X.1.2.1
  intro v1 v2 v4 v5 v6 t0 t1 I J H locs ls h hW hl
  refine lv_isub hx hb dX12_years_142 ?_
  refine r_putI X hW 34 (okS hW sc17_0) rfl rfl inX12 tyX12 tyX12_ok nmX12 (Nat.le_of_ble_eq_true rfl) tw868 rfl rfl rfl rfl (Nat.le_of_ble_eq_true rfl) rfl dX12_years_143 (fun H locs hW => ?_)
  refine lv_aload_n hx hb dX12_years_146 rfl (lv_at hl 0 rfl) ?_
  refine lv_bipush (v := 10) hx hb dX12_years_147 (by decide) ?_
  refine af_i hW (rn_V X hW (As := [.int 10]) (rest := []) (okS hW sc17_0) rfl rfl (kX12_draw h) mbX12_draw tw1163 tw1165 tp48 rfl hl.1 (Nat.le_of_ble_eq_true rfl) ⟨(Nat.le_of_ble_eq_true rfl), (Nat.le_of_ble_eq_true rfl)⟩ dX12_years_149) (fun r149 I149 J149 H locs h hW => ?_)
  refine lv_istore (lv' := [(7, .int r149), (0, .ref (wa E 17 0)), (1, .int v1), (2, .int v2), (4, .int v4), (5, .int v5), (6, .int v6)]) hx hb dX12_years_152 hl (by decide) rfl (fun ls hl => ?_)
  refine lv_aload_n hx hb dX12_years_154 rfl (lv_at hl 1 rfl) ?_
  refine lv_iload_n hx hb dX12_years_155 rfl (lv_at hl 2 rfl) ?_
  refine lv_iload hx hb dX12_years_156 (lv_at hl 0 rfl) ?_
  refine af_i hW (rn_V X hW (As := [.int v1, .int r149]) (rest := []) (okS hW sc17_0) rfl rfl (kX12_isLetIn h) mbX12_isLetIn tw1207 tw1209 tp53 rfl hl.1 (Nat.le_of_ble_eq_true rfl) ⟨(Nat.le_of_ble_eq_true rfl), (Nat.le_of_ble_eq_true rfl)⟩ dX12_years_158) (fun r158 I158 J158 H locs h hW => ?_)
  refine lv_if_eq (tgt := 188) hx hb dX12_years_161 (by decide) (fun c161 => ?_) (fun c161 => ?_)
  · have h := h.1 c161
    exact bX12_years_188 X hk85 v1 v2 v4 v5 v6 _ _ _ _ _  h hW (lv_sub hl [1, 2, 3, 4, 5, 6] rfl)
  · have h := h.2 c161
    refine lv_aload_n hx hb dX12_years_164 rfl (lv_at hl 1 rfl) ?_
    refine r_get X hW 35 (okS hW sc17_0) rfl rfl inX12 (Nat.le_of_ble_eq_true rfl) tw869 rfl dX12_years_165 ?_
    refine lv_aload_n hx hb dX12_years_168 rfl (lv_at hl 1 rfl) ?_
    refine r_get X hW 34 (okS hW sc17_0) rfl rfl inX12 (Nat.le_of_ble_eq_true rfl) tw868 rfl dX12_years_169 ?_
    refine lv_iload hx hb dX12_years_172 (lv_at hl 0 rfl) ?_
    refine r_iast X hW (okS hW sc33_0) (fun _ => rfl) h.1 dX12_years_174 (fun H locs hW => ?_)
    have h := h.2
    refine lv_aload_n hx hb dX12_years_175 rfl (lv_at hl 1 rfl) ?_
    refine lv_dup hx hb dX12_years_176 rfl ?_
    refine r_get X hW 34 (okS hW sc17_0) rfl rfl inX12 (Nat.le_of_ble_eq_true rfl) tw868 rfl dX12_years_177 ?_
    refine lv_iconst (v := 1) hx hb dX12_years_180 (by decide) ?_
    refine lv_iadd hx hb dX12_years_181 ?_
    refine r_putI X hW 34 (okS hW sc17_0) rfl rfl inX12 tyX12 tyX12_ok nmX12 (Nat.le_of_ble_eq_true rfl) tw868 rfl rfl rfl rfl (Nat.le_of_ble_eq_true rfl) rfl dX12_years_182 (fun H locs hW => ?_)
    obtain ⟨I182, eI182⟩ : ∃ z : MI, z = u3 (u3 I158 33 0 (upd (I158 33 0) (Int32.toNatClampNeg (I158 17 0 34)) r149)) 17 0 (upd ((u3 I158 33 0 (upd (I158 33 0) (Int32.toNatClampNeg (I158 17 0 34)) r149)) 17 0) 34 (((u3 I158 33 0 (upd (I158 33 0) (Int32.toNatClampNeg (I158 17 0 34)) r149)) 17 0 34) + 1)) := ⟨_, rfl⟩
    rw [← eI182] at hW
    have h := h I182 eI182
    refine lv_iinc (v := v5 + 1) (lv' := [(5, .int (v5 + 1)), (7, .int r149), (0, .ref (wa E 17 0)), (1, .int v1), (2, .int v2), (4, .int v4), (6, .int v6)]) hx hb dX12_years_185 hl (k := 5) rfl rfl (by decide) rfl (fun ls hl => ?_)
    exact bX12_years_188 X hk85 v1 v2 v4 (v5 + 1) v6 _ _ _ _ _  h hW (lv_sub hl [2, 3, 4, 5, 0, 6] rfl)
def wX12_years_b94 (g : GS) (ko85 : Int32 → Int32 → Int32 → Int32 → Int32 → MI → MJ → Prop) (Q : Int32 → MI → MJ → Prop) : Nat → Int32 → Int32 → Int32 → Int32 → Int32 → Int32 → MI → MJ → Prop
  | 0, _, _, _, _, _, _, _, _ => False
  | n + 1, v1, v2, v4, v5, v6, v7, I, J => (((I 17 0 34) ≤ v7 → (((I 17 0 34) ≤ 0 → wX12_years_b142 g ko85 Q v1 v2 v4 v5 v6 0 (I 17 0 34) I J) ∧ (¬ (I 17 0 34) ≤ 0 → wX12_years_b142 g ko85 Q v1 v2 v4 v5 v6 1 (I 17 0 34) I J))) ∧ (¬ (I 17 0 34) ≤ v7 → vp_in v7 9 ∧ (vp_in (v7 - 1) 9 ∧ (wX12_years_b94 g ko85 Q n v1 v2 v4 v5 v6 (v7 + 1) (u3 I 33 0 (upd (I 33 0) (Int32.toNatClampNeg (v7 - 1)) (I 33 0 (Int32.toNatClampNeg v7)))) J))))
set_option maxHeartbeats 4000000 in
set_option maxRecDepth 100000 in
theorem bX12_years_94 {p : Program} {l : Launch} {e : Env} {s : State} {m : MethodId} {args : Array Value} {below : List Frame} {meth : Method} {c : Code} {E : WE} {Q : Int32 → MI → MJ → Prop} {ko85 : Int32 → Int32 → Int32 → Int32 → Int32 → MI → MJ → Prop} (X : Cx E cX12_years 8 RX12 ((Option.some FieldType.int)) p s m args c meth)
    (hk85 : ∀ (v1 : Int32) (v2 : Int32) (v4 : Int32) (v5 : Int32) (v6 : Int32) (I : MI) (J : MJ) (H : Heap) (locs : List Loc) (ls : Array Slot), ko85 v1 v2 v4 v5 v6 I J → Wd E I J s H locs → lv_has ls 8 [(0, .ref (wa E 17 0)), (1, .int v1), (2, .int v2), (4, .int v4), (5, .int v5), (6, .int v6)] → W p l e (rmO 3 68) s m args below meth c H locs 0 0 (MQ below (QI E Q) args s 0 0 (AA E)) (F0 m 85 ls [])) (n : Nat) : ∀ (v1 : Int32) (v2 : Int32) (v4 : Int32) (v5 : Int32) (v6 : Int32) (v7 : Int32) (I : MI) (J : MJ) (H : Heap) (locs : List Loc) (ls : Array Slot), wX12_years_b94 (wg E) ko85 Q n v1 v2 v4 v5 v6 v7 I J → Wd E I J s H locs → lv_has ls 8 [(0, .ref (wa E 17 0)), (1, .int v1), (2, .int v2), (4, .int v4), (5, .int v5), (6, .int v6), (7, .int v7)] → W p l e (rmO 3 68) s m args below meth c H locs 0 0 (MQ below (QI E Q) args s 0 0 (AA E)) (F0 m 94 ls []) := by
  have hx := X.1.1
  have hb := X.1.2.1
  induction n with
  | zero => intro v1 v2 v4 v5 v6 v7 I J H locs ls h hW hl; exact h.elim
  | succ n ih =>
    intro v1 v2 v4 v5 v6 v7 I J H locs ls h hW hl
    refine lv_iload hx hb dX12_years_94 (lv_at hl 6 rfl) ?_
    refine lv_aload_n hx hb dX12_years_96 rfl (lv_at hl 0 rfl) ?_
    refine r_get X hW 34 (okS hW sc17_0) rfl rfl inX12 (Nat.le_of_ble_eq_true rfl) tw868 rfl dX12_years_97 ?_
    refine lv_icmp_ge (tgt := 125) hx hb dX12_years_100 (by decide) (fun c100 => ?_) (fun c100 => ?_)
    · have h := h.1 c100
      refine lv_aload_n hx hb dX12_years_125 rfl (lv_at hl 0 rfl) ?_
      refine lv_dup hx hb dX12_years_126 rfl ?_
      refine r_get X hW 34 (okS hW sc17_0) rfl rfl inX12 (Nat.le_of_ble_eq_true rfl) tw868 rfl dX12_years_127 ?_
      refine lv_aload_n hx hb dX12_years_130 rfl (lv_at hl 0 rfl) ?_
      refine r_get X hW 34 (okS hW sc17_0) rfl rfl inX12 (Nat.le_of_ble_eq_true rfl) tw868 rfl dX12_years_131 ?_
      refine lv_if_le (tgt := 141) hx hb dX12_years_134 (by decide) (fun c134 => ?_) (fun c134 => ?_)
      · have h := h.1 c134
        refine lv_iconst (v := 0) hx hb dX12_years_141 (by decide) ?_
        exact bX12_years_142 X hk85 v1 v2 v4 v5 v6 0 (I 17 0 34) _ _ _ _ _  h hW (lv_sub hl [0, 1, 2, 3, 4, 5] rfl)
      · have h := h.2 c134
        refine lv_iconst (v := 1) hx hb dX12_years_137 (by decide) ?_
        refine lv_goto (tgt := 142) hx hb dX12_years_138 (by decide) ?_
        exact bX12_years_142 X hk85 v1 v2 v4 v5 v6 1 (I 17 0 34) _ _ _ _ _  h hW (lv_sub hl [0, 1, 2, 3, 4, 5] rfl)
    · have h := h.2 c100
      refine lv_aload_n hx hb dX12_years_103 rfl (lv_at hl 0 rfl) ?_
      refine r_get X hW 35 (okS hW sc17_0) rfl rfl inX12 (Nat.le_of_ble_eq_true rfl) tw869 rfl dX12_years_104 ?_
      refine lv_iload hx hb dX12_years_107 (lv_at hl 6 rfl) ?_
      refine lv_iconst (v := 1) hx hb dX12_years_109 (by decide) ?_
      refine lv_isub hx hb dX12_years_110 ?_
      refine lv_aload_n hx hb dX12_years_111 rfl (lv_at hl 0 rfl) ?_
      refine r_get X hW 35 (okS hW sc17_0) rfl rfl inX12 (Nat.le_of_ble_eq_true rfl) tw869 rfl dX12_years_112 ?_
      refine lv_iload hx hb dX12_years_115 (lv_at hl 6 rfl) ?_
      refine r_iald X hW (okS hW sc33_0) rfl h.1 dX12_years_117 ?_
      have h := h.2
      refine r_iast X hW (okS hW sc33_0) (fun _ => rfl) h.1 dX12_years_118 (fun H locs hW => ?_)
      have h := h.2
      refine lv_iinc (v := v7 + 1) (lv' := [(7, .int (v7 + 1)), (0, .ref (wa E 17 0)), (1, .int v1), (2, .int v2), (4, .int v4), (5, .int v5), (6, .int v6)]) hx hb dX12_years_119 hl (k := 6) rfl rfl (by decide) rfl (fun ls hl => ?_)
      refine lv_goto (tgt := 94) hx hb dX12_years_122 (by decide) ?_
      exact ih v1 v2 v4 v5 v6 (v7 + 1) _ _ _ _ _  h hW (lv_sub hl [1, 2, 3, 4, 5, 6, 0] rfl)
def wX12_years_b85 (g : GS) (Q : Int32 → MI → MJ → Prop) : Nat → Int32 → Int32 → Int32 → Int32 → Int32 → MI → MJ → Prop
  | 0, _, _, _, _, _, _, _ => False
  | n + 1, v1, v2, v4, v5, v6, I, J => ((v2 ≤ v6 → ((¬ v4 = 0 → ((¬ v4 = 1 → ((¬ v4 = 2 → Q (Int64.toInt32 (J 17 0 28)) I J) ∧ (v4 = 2 → Q v5 I J))) ∧ (v4 = 1 → wX12_unlike g I J (fun r213 I213 J213 => Q r213 I213 J213)))) ∧ (v4 = 0 → Q (I 17 0 34) I J))) ∧ (¬ v2 ≤ v6 → ∃ n94, wX12_years_b94 g (fun v1 v2 v4 v5 v6 I J => wX12_years_b85 g Q n v1 v2 v4 v5 v6 I J) Q n94 v1 v2 v4 v5 v6 1 I J))
set_option maxHeartbeats 4000000 in
set_option maxRecDepth 100000 in
theorem bX12_years_85 {p : Program} {l : Launch} {e : Env} {s : State} {m : MethodId} {args : Array Value} {below : List Frame} {meth : Method} {c : Code} {E : WE} {Q : Int32 → MI → MJ → Prop} (X : Cx E cX12_years 8 RX12 ((Option.some FieldType.int)) p s m args c meth) (n : Nat) : ∀ (v1 : Int32) (v2 : Int32) (v4 : Int32) (v5 : Int32) (v6 : Int32) (I : MI) (J : MJ) (H : Heap) (locs : List Loc) (ls : Array Slot), wX12_years_b85 (wg E) Q n v1 v2 v4 v5 v6 I J → Wd E I J s H locs → lv_has ls 8 [(0, .ref (wa E 17 0)), (1, .int v1), (2, .int v2), (4, .int v4), (5, .int v5), (6, .int v6)] → W p l e (rmO 3 68) s m args below meth c H locs 0 0 (MQ below (QI E Q) args s 0 0 (AA E)) (F0 m 85 ls []) := by
  have hx := X.1.1
  have hb := X.1.2.1
  induction n with
  | zero => intro v1 v2 v4 v5 v6 I J H locs ls h hW hl; exact h.elim
  | succ n ih =>
    intro v1 v2 v4 v5 v6 I J H locs ls h hW hl
    refine lv_iload hx hb dX12_years_85 (lv_at hl 5 rfl) ?_
    refine lv_iload_n hx hb dX12_years_87 rfl (lv_at hl 2 rfl) ?_
    refine lv_icmp_ge (tgt := 194) hx hb dX12_years_88 (by decide) (fun c88 => ?_) (fun c88 => ?_)
    · have h := h.1 c88
      refine lv_iload hx hb dX12_years_194 (lv_at hl 3 rfl) ?_
      refine lv_if_ne (tgt := 206) hx hb dX12_years_196 (by decide) (fun c196 => ?_) (fun c196 => ?_)
      · have h := h.1 c196
        refine lv_iload hx hb dX12_years_206 (lv_at hl 3 rfl) ?_
        refine lv_iconst (v := 1) hx hb dX12_years_208 (by decide) ?_
        refine lv_icmp_ne (tgt := 219) hx hb dX12_years_209 (by decide) (fun c209 => ?_) (fun c209 => ?_)
        · have h := h.1 c209
          refine lv_iload hx hb dX12_years_219 (lv_at hl 3 rfl) ?_
          refine lv_iconst (v := 2) hx hb dX12_years_221 (by decide) ?_
          refine lv_icmp_ne (tgt := 230) hx hb dX12_years_222 (by decide) (fun c222 => ?_) (fun c222 => ?_)
          · have h := h.1 c222
            refine lv_aload_n hx hb dX12_years_230 rfl (lv_at hl 0 rfl) ?_
            refine r_get X hW 28 (okS hW sc17_0) rfl rfl inX12 (Nat.le_of_ble_eq_true rfl) tw862 rfl dX12_years_231 ?_
            refine lv_l2i hx hb dX12_years_234 rfl ?_
            exact e_i X hW h dX12_years_235
          · have h := h.2 c222
            refine lv_iload hx hb dX12_years_225 (lv_at hl 4 rfl) ?_
            refine lv_goto (tgt := 235) hx hb dX12_years_227 (by decide) ?_
            exact e_i X hW h dX12_years_235
        · have h := h.2 c209
          refine lv_aload_n hx hb dX12_years_212 rfl (lv_at hl 0 rfl) ?_
          refine af_i hW (rn_V X hW (As := []) (rest := []) (okS hW sc17_0) rfl rfl (kX12_unlike h) mbX12_unlike tw1215 tw1217 tp55 rfl hl.1 (Nat.le_of_ble_eq_true rfl) ⟨(Nat.le_of_ble_eq_true rfl), (Nat.le_of_ble_eq_true rfl)⟩ dX12_years_213) (fun r213 I213 J213 H locs h hW => ?_)
          refine lv_goto (tgt := 235) hx hb dX12_years_216 (by decide) ?_
          exact e_i X hW h dX12_years_235
      · have h := h.2 c196
        refine lv_aload_n hx hb dX12_years_199 rfl (lv_at hl 0 rfl) ?_
        refine r_get X hW 34 (okS hW sc17_0) rfl rfl inX12 (Nat.le_of_ble_eq_true rfl) tw868 rfl dX12_years_200 ?_
        refine lv_goto (tgt := 235) hx hb dX12_years_203 (by decide) ?_
        exact e_i X hW h dX12_years_235
    · have h := h.2 c88
      refine lv_iconst (v := 1) hx hb dX12_years_91 (by decide) ?_
      refine lv_istore (lv' := [(7, .int 1), (0, .ref (wa E 17 0)), (1, .int v1), (2, .int v2), (4, .int v4), (5, .int v5), (6, .int v6)]) hx hb dX12_years_92 hl (by decide) rfl (fun ls hl => ?_)
      obtain ⟨n94, h⟩ := h
      exact bX12_years_94 X ih n94 v1 v2 v4 v5 v6 1 _ _ _ _ _  h hW (lv_sub hl [1, 2, 3, 4, 5, 6, 0] rfl)
def wX12_years_b53 (g : GS) (Q : Int32 → MI → MJ → Prop) : Nat → Int32 → Int32 → Int32 → Int32 → MI → MJ → Prop
  | 0, _, _, _, _, _, _ => False
  | n + 1, v1, v2, v4, v5, I, J => ((8 ≤ v5 → ∃ n85, wX12_years_b85 g Q n85 v1 v2 v4 0 0 I J) ∧ (¬ 8 ≤ v5 → wX12_draw g 10 I J (fun r69 I69 J69 => vp_in v5 9 ∧ (wX12_years_b53 g Q n v1 v2 v4 (v5 + 1) (u3 I69 33 0 (upd (I69 33 0) (Int32.toNatClampNeg v5) r69)) J69))))
set_option maxHeartbeats 4000000 in
set_option maxRecDepth 100000 in
theorem bX12_years_53 {p : Program} {l : Launch} {e : Env} {s : State} {m : MethodId} {args : Array Value} {below : List Frame} {meth : Method} {c : Code} {E : WE} {Q : Int32 → MI → MJ → Prop} (X : Cx E cX12_years 8 RX12 ((Option.some FieldType.int)) p s m args c meth) (n : Nat) : ∀ (v1 : Int32) (v2 : Int32) (v4 : Int32) (v5 : Int32) (I : MI) (J : MJ) (H : Heap) (locs : List Loc) (ls : Array Slot), wX12_years_b53 (wg E) Q n v1 v2 v4 v5 I J → Wd E I J s H locs → lv_has ls 8 [(0, .ref (wa E 17 0)), (1, .int v1), (2, .int v2), (4, .int v4), (5, .int v5)] → W p l e (rmO 3 68) s m args below meth c H locs 0 0 (MQ below (QI E Q) args s 0 0 (AA E)) (F0 m 53 ls []) := by
  have hx := X.1.1
  have hb := X.1.2.1
  induction n with
  | zero => intro v1 v2 v4 v5 I J H locs ls h hW hl; exact h.elim
  | succ n ih =>
    intro v1 v2 v4 v5 I J H locs ls h hW hl
    refine lv_iload hx hb dX12_years_53 (lv_at hl 4 rfl) ?_
    refine lv_bipush (v := 8) hx hb dX12_years_55 (by decide) ?_
    refine lv_icmp_ge (tgt := 79) hx hb dX12_years_57 (by decide) (fun c57 => ?_) (fun c57 => ?_)
    · have h := h.1 c57
      refine lv_iconst (v := 0) hx hb dX12_years_79 (by decide) ?_
      refine lv_istore (lv' := [(5, .int 0), (0, .ref (wa E 17 0)), (1, .int v1), (2, .int v2), (4, .int v4)]) hx hb dX12_years_80 hl (by decide) rfl (fun ls hl => ?_)
      refine lv_iconst (v := 0) hx hb dX12_years_82 (by decide) ?_
      refine lv_istore (lv' := [(6, .int 0), (5, .int 0), (0, .ref (wa E 17 0)), (1, .int v1), (2, .int v2), (4, .int v4)]) hx hb dX12_years_83 hl (by decide) rfl (fun ls hl => ?_)
      obtain ⟨n85, h⟩ := h
      exact bX12_years_85 X n85 v1 v2 v4 0 0 _ _ _ _ _  h hW (lv_sub hl [2, 3, 4, 5, 1, 0] rfl)
    · have h := h.2 c57
      refine lv_aload_n hx hb dX12_years_60 rfl (lv_at hl 0 rfl) ?_
      refine r_get X hW 35 (okS hW sc17_0) rfl rfl inX12 (Nat.le_of_ble_eq_true rfl) tw869 rfl dX12_years_61 ?_
      refine lv_iload hx hb dX12_years_64 (lv_at hl 4 rfl) ?_
      refine lv_aload_n hx hb dX12_years_66 rfl (lv_at hl 0 rfl) ?_
      refine lv_bipush (v := 10) hx hb dX12_years_67 (by decide) ?_
      refine af_i hW (rn_V X hW (As := [.int 10]) (rest := [.int v5, .ref (wa E 33 0)]) (okS hW sc17_0) rfl rfl (kX12_draw h) mbX12_draw tw1163 tw1165 tp48 rfl hl.1 (Nat.le_of_ble_eq_true rfl) ⟨(Nat.le_of_ble_eq_true rfl), (Nat.le_of_ble_eq_true rfl)⟩ dX12_years_69) (fun r69 I69 J69 H locs h hW => ?_)
      refine r_iast X hW (okS hW sc33_0) (fun _ => rfl) h.1 dX12_years_72 (fun H locs hW => ?_)
      have h := h.2
      refine lv_iinc (v := v5 + 1) (lv' := [(5, .int (v5 + 1)), (0, .ref (wa E 17 0)), (1, .int v1), (2, .int v2), (4, .int v4)]) hx hb dX12_years_73 hl (k := 4) rfl rfl (by decide) rfl (fun ls hl => ?_)
      refine lv_goto (tgt := 53) hx hb dX12_years_76 (by decide) ?_
      exact ih v1 v2 v4 (v5 + 1) _ _ _ _ _  h hW (lv_sub hl [1, 2, 3, 4, 0] rfl)
def wX12_years (g : GS) (a1 : Int32) (a2 : Int32) (a3 : Int32) (a4 : Int32) (I : MI) (J : MJ) (Q : Int32 → MI → MJ → Prop) : Prop :=
  wX12_isRule g a1 I J (fun r2 I2 J2 => ((¬ r2 = 0 → wX12_within g a2 0 60 I2 J2 (fun r15 I15 J15 => ((r15 = 0 → Q ((-102)) I15 J15) ∧ (¬ r15 = 0 → ((a3 < 0 → Q ((-102)) I15 J15) ∧ (¬ a3 < 0 → wX12_within g a4 0 3 I15 J15 (fun r29 I29 J29 => ((¬ r29 = 0 → ∃ n53, wX12_years_b53 g Q n53 a1 a2 a4 0 (u3 I29 17 0 (upd (I29 17 0) 34 8)) (u3 J29 17 0 (vp_updL (J29 17 0) 28 (Int32.toInt64 a3)))) ∧ (r29 = 0 → Q ((-102)) I29 J29))))))))) ∧ (r2 = 0 → Q ((-101)) I2 J2)))
theorem mbX12_years : MB yX12_years cX12_years 8 ((Option.some FieldType.int)) 4 := ⟨tw1206, tw7, ⟨by decide, by decide⟩, by decide +kernel, by decide +kernel⟩
set_option maxHeartbeats 4000000 in
set_option maxRecDepth 100000 in
theorem kX12_years {l : Launch} {E : WE} {a1 : Int32} {a2 : Int32} {a3 : Int32} {a4 : Int32} {I : MI} {J : MJ} {Q : Int32 → MI → MJ → Prop} (h : wX12_years (wg E) a1 a2 a3 a4 I J Q) : Met l yX12_years (wsM yX12_years cX12_years 8 ((Option.some FieldType.int))) (rmO 3 68) (va_Pc [.ref (wa E 17 0), .int a1, .int a2, .int a3, .int a4] (Wp E I J)) (QI E Q) 0 0 (AA E) := by
  refine m_entry mbX12_years (Nat.le_of_ble_eq_true rfl) ?_
  intro p e s m args below meth c X ls hW hl
  have X : Cx E cX12_years 8 RX12 ((Option.some FieldType.int)) p s m args c meth := X
  have hx := X.1.1
  have hb := X.1.2.1
  have hl : lv_has ls 8 [(0, .ref (wa E 17 0)), (1, .int a1), (2, .int a2), (3, .int a3), (4, .int a4)] := hl
  refine lv_aload_n hx hb dX12_years_0 rfl (lv_at hl 0 rfl) ?_
  refine lv_iload_n hx hb dX12_years_1 rfl (lv_at hl 1 rfl) ?_
  refine af_i hW (rn_V X hW (As := [.int a1]) (rest := []) (okS hW sc17_0) rfl rfl (kX12_isRule h) mbX12_isRule tw987 tw989 tp28 rfl hl.1 (Nat.le_of_ble_eq_true rfl) ⟨(Nat.le_of_ble_eq_true rfl), (Nat.le_of_ble_eq_true rfl)⟩ dX12_years_2) (fun r2 I2 J2 H locs h hW => ?_)
  refine lv_if_ne (tgt := 11) hx hb dX12_years_5 (by decide) (fun c5 => ?_) (fun c5 => ?_)
  · have h := h.1 c5
    refine lv_iload_n hx hb dX12_years_11 rfl (lv_at hl 2 rfl) ?_
    refine lv_iconst (v := 0) hx hb dX12_years_12 (by decide) ?_
    refine lv_bipush (v := 60) hx hb dX12_years_13 (by decide) ?_
    refine af_i hW (rn_S X hW (As := [.int a2, .int 0, .int 60]) (rest := []) (kX12_within h) mbX12_within tw969 tw970 rfl hl.1 (Nat.le_of_ble_eq_true rfl) ⟨(Nat.le_of_ble_eq_true rfl), (Nat.le_of_ble_eq_true rfl)⟩ dX12_years_15) (fun r15 I15 J15 H locs h hW => ?_)
    refine lv_if_eq (tgt := 35) hx hb dX12_years_18 (by decide) (fun c18 => ?_) (fun c18 => ?_)
    · have h := h.1 c18
      refine lv_bipush (v := (-102)) hx hb dX12_years_35 (by decide) ?_
      exact e_i X hW h dX12_years_37
    · have h := h.2 c18
      refine lv_iload_n hx hb dX12_years_21 rfl (lv_at hl 3 rfl) ?_
      refine lv_if_lt (tgt := 35) hx hb dX12_years_22 (by decide) (fun c22 => ?_) (fun c22 => ?_)
      · have h := h.1 c22
        refine lv_bipush (v := (-102)) hx hb dX12_years_35 (by decide) ?_
        exact e_i X hW h dX12_years_37
      · have h := h.2 c22
        refine lv_iload hx hb dX12_years_25 (lv_at hl 4 rfl) ?_
        refine lv_iconst (v := 0) hx hb dX12_years_27 (by decide) ?_
        refine lv_iconst (v := 3) hx hb dX12_years_28 (by decide) ?_
        refine af_i hW (rn_S X hW (As := [.int a4, .int 0, .int 3]) (rest := []) (kX12_within h) mbX12_within tw969 tw970 rfl hl.1 (Nat.le_of_ble_eq_true rfl) ⟨(Nat.le_of_ble_eq_true rfl), (Nat.le_of_ble_eq_true rfl)⟩ dX12_years_29) (fun r29 I29 J29 H locs h hW => ?_)
        refine lv_if_ne (tgt := 38) hx hb dX12_years_32 (by decide) (fun c32 => ?_) (fun c32 => ?_)
        · have h := h.1 c32
          refine lv_aload_n hx hb dX12_years_38 rfl (lv_at hl 0 rfl) ?_
          refine lv_iload_n hx hb dX12_years_39 rfl (lv_at hl 3 rfl) ?_
          refine lv_i2l hx hb dX12_years_40 rfl ?_
          refine r_putL X hW 28 (okS hW sc17_0) rfl rfl inX12 tyX12 tyX12_ok nmX12 (Nat.le_of_ble_eq_true rfl) tw862 rfl rfl rfl rfl (Nat.le_of_ble_eq_true rfl) rfl dX12_years_41 (fun H locs hW => ?_)
          refine lv_aload_n hx hb dX12_years_44 rfl (lv_at hl 0 rfl) ?_
          refine lv_bipush (v := 8) hx hb dX12_years_45 (by decide) ?_
          refine r_putI X hW 34 (okS hW sc17_0) rfl rfl inX12 tyX12 tyX12_ok nmX12 (Nat.le_of_ble_eq_true rfl) tw868 rfl rfl rfl rfl (Nat.le_of_ble_eq_true rfl) rfl dX12_years_47 (fun H locs hW => ?_)
          refine lv_iconst (v := 0) hx hb dX12_years_50 (by decide) ?_
          refine lv_istore (lv' := [(5, .int 0), (0, .ref (wa E 17 0)), (1, .int a1), (2, .int a2), (3, .int a3), (4, .int a4)]) hx hb dX12_years_51 hl (by decide) rfl (fun ls hl => ?_)
          obtain ⟨n53, h⟩ := h
          exact bX12_years_53 X n53 a1 a2 a4 0 _ _ _ _ _  h hW (lv_sub hl [1, 2, 3, 5, 0] rfl)
        · have h := h.2 c32
          refine lv_bipush (v := (-102)) hx hb dX12_years_35 (by decide) ?_
          exact e_i X hW h dX12_years_37
  · have h := h.2 c5
    refine lv_bipush (v := (-101)) hx hb dX12_years_8 (by decide) ?_
    exact e_i X hW h dX12_years_10
def wX12_mindedMany_b26 (g : GS) (ko4 : Int32 → Int32 → MI → MJ → Prop) (Q : Int32 → MI → MJ → Prop) (v2 : Int32) (t0 : Int32) (t1 : Int32) (I : MI) (J : MJ) : Prop :=
  ko4 (t1 + t0) (v2 + 1) I J
set_option maxHeartbeats 4000000 in
set_option maxRecDepth 100000 in
theorem bX12_mindedMany_26 {p : Program} {l : Launch} {e : Env} {s : State} {m : MethodId} {args : Array Value} {below : List Frame} {meth : Method} {c : Code} {E : WE} {Q : Int32 → MI → MJ → Prop} {ko4 : Int32 → Int32 → MI → MJ → Prop} (X : Cx E cX12_mindedMany 3 RX12 ((Option.some FieldType.int)) p s m args c meth)
    (hk4 : ∀ (v1 : Int32) (v2 : Int32) (I : MI) (J : MJ) (H : Heap) (locs : List Loc) (ls : Array Slot), ko4 v1 v2 I J → Wd E I J s H locs → lv_has ls 3 [(0, .ref (wa E 17 0)), (1, .int v1), (2, .int v2)] → W p l e (rmO 2 44) s m args below meth c H locs 0 0 (MQ below (QI E Q) args s 0 0 (AA E)) (F0 m 4 ls [])) : ∀ (v2 : Int32) (t0 : Int32) (t1 : Int32) (I : MI) (J : MJ) (H : Heap) (locs : List Loc) (ls : Array Slot), wX12_mindedMany_b26 (wg E) ko4 Q v2 t0 t1 I J → Wd E I J s H locs → lv_has ls 3 [(0, .ref (wa E 17 0)), (2, .int v2)] → W p l e (rmO 2 44) s m args below meth c H locs 0 0 (MQ below (QI E Q) args s 0 0 (AA E)) (F0 m 26 ls [.int t0, .int t1]) := by
  have hx := X.1.1
  have hb := X.1.2.1
  intro v2 t0 t1 I J H locs ls h hW hl
  refine lv_iadd hx hb dX12_mindedMany_26 ?_
  refine lv_istore_n (lv' := [(1, .int (t1 + t0)), (0, .ref (wa E 17 0)), (2, .int v2)]) hx hb dX12_mindedMany_27 rfl hl (by decide) rfl (fun ls hl => ?_)
  refine lv_iinc (v := v2 + 1) (lv' := [(2, .int (v2 + 1)), (1, .int (t1 + t0)), (0, .ref (wa E 17 0))]) hx hb dX12_mindedMany_28 hl (k := 2) rfl rfl (by decide) rfl (fun ls hl => ?_)
  refine lv_goto (tgt := 4) hx hb dX12_mindedMany_31 (by decide) ?_
  exact hk4 (t1 + t0) (v2 + 1) _ _ _ _ _  h hW (lv_sub hl [2, 1, 0] rfl)
def wX12_mindedMany_b4 (g : GS) (Q : Int32 → MI → MJ → Prop) : Nat → Int32 → Int32 → MI → MJ → Prop
  | 0, _, _, _, _ => False
  | n + 1, v1, v2, I, J => (((I 17 0 4) ≤ v2 → Q v1 I J) ∧ (¬ (I 17 0 4) ≤ v2 → wX12_isMinded g v2 I J (fun r15 I15 J15 => ((r15 = 0 → wX12_mindedMany_b26 g (fun v1 v2 I J => wX12_mindedMany_b4 g Q n v1 v2 I J) Q v2 0 v1 I15 J15) ∧ (¬ r15 = 0 → wX12_mindedMany_b26 g (fun v1 v2 I J => wX12_mindedMany_b4 g Q n v1 v2 I J) Q v2 1 v1 I15 J15)))))
set_option maxHeartbeats 4000000 in
set_option maxRecDepth 100000 in
theorem bX12_mindedMany_4 {p : Program} {l : Launch} {e : Env} {s : State} {m : MethodId} {args : Array Value} {below : List Frame} {meth : Method} {c : Code} {E : WE} {Q : Int32 → MI → MJ → Prop} (X : Cx E cX12_mindedMany 3 RX12 ((Option.some FieldType.int)) p s m args c meth) (n : Nat) : ∀ (v1 : Int32) (v2 : Int32) (I : MI) (J : MJ) (H : Heap) (locs : List Loc) (ls : Array Slot), wX12_mindedMany_b4 (wg E) Q n v1 v2 I J → Wd E I J s H locs → lv_has ls 3 [(0, .ref (wa E 17 0)), (1, .int v1), (2, .int v2)] → W p l e (rmO 2 44) s m args below meth c H locs 0 0 (MQ below (QI E Q) args s 0 0 (AA E)) (F0 m 4 ls []) := by
  have hx := X.1.1
  have hb := X.1.2.1
  induction n with
  | zero => intro v1 v2 I J H locs ls h hW hl; exact h.elim
  | succ n ih =>
    intro v1 v2 I J H locs ls h hW hl
    refine lv_iload_n hx hb dX12_mindedMany_4 rfl (lv_at hl 2 rfl) ?_
    refine lv_aload_n hx hb dX12_mindedMany_5 rfl (lv_at hl 0 rfl) ?_
    refine r_get X hW 4 (okS hW sc17_0) rfl rfl inX12 (Nat.le_of_ble_eq_true rfl) tw838 rfl dX12_mindedMany_6 ?_
    refine lv_icmp_ge (tgt := 34) hx hb dX12_mindedMany_9 (by decide) (fun c9 => ?_) (fun c9 => ?_)
    · have h := h.1 c9
      refine lv_iload_n hx hb dX12_mindedMany_34 rfl (lv_at hl 1 rfl) ?_
      exact e_i X hW h dX12_mindedMany_35
    · have h := h.2 c9
      refine lv_iload_n hx hb dX12_mindedMany_12 rfl (lv_at hl 1 rfl) ?_
      refine lv_aload_n hx hb dX12_mindedMany_13 rfl (lv_at hl 0 rfl) ?_
      refine lv_iload_n hx hb dX12_mindedMany_14 rfl (lv_at hl 2 rfl) ?_
      refine af_i hW (rn_V X hW (As := [.int v2]) (rest := [.int v1]) (okS hW sc17_0) rfl rfl (kX12_isMinded h) mbX12_isMinded tw1039 tw1041 tp34 rfl hl.1 (Nat.le_of_ble_eq_true rfl) ⟨(Nat.le_of_ble_eq_true rfl), (Nat.le_of_ble_eq_true rfl)⟩ dX12_mindedMany_15) (fun r15 I15 J15 H locs h hW => ?_)
      refine lv_if_eq (tgt := 25) hx hb dX12_mindedMany_18 (by decide) (fun c18 => ?_) (fun c18 => ?_)
      · have h := h.1 c18
        refine lv_iconst (v := 0) hx hb dX12_mindedMany_25 (by decide) ?_
        exact bX12_mindedMany_26 X ih v2 0 v1 _ _ _ _ _  h hW (lv_sub hl [0, 2] rfl)
      · have h := h.2 c18
        refine lv_iconst (v := 1) hx hb dX12_mindedMany_21 (by decide) ?_
        refine lv_goto (tgt := 26) hx hb dX12_mindedMany_22 (by decide) ?_
        exact bX12_mindedMany_26 X ih v2 1 v1 _ _ _ _ _  h hW (lv_sub hl [0, 2] rfl)
def wX12_mindedMany (g : GS) (I : MI) (J : MJ) (Q : Int32 → MI → MJ → Prop) : Prop :=
  ∃ n4, wX12_mindedMany_b4 g Q n4 0 0 I J
theorem mbX12_mindedMany : MB yX12_mindedMany cX12_mindedMany 3 ((Option.some FieldType.int)) 0 := ⟨tw1226, tw7, ⟨by decide, by decide⟩, by decide +kernel, by decide +kernel⟩
set_option maxHeartbeats 4000000 in
set_option maxRecDepth 100000 in
theorem kX12_mindedMany {l : Launch} {E : WE} {I : MI} {J : MJ} {Q : Int32 → MI → MJ → Prop} (h : wX12_mindedMany (wg E) I J Q) : Met l yX12_mindedMany (wsM yX12_mindedMany cX12_mindedMany 3 ((Option.some FieldType.int))) (rmO 2 44) (va_Pc [.ref (wa E 17 0)] (Wp E I J)) (QI E Q) 0 0 (AA E) := by
  refine m_entry mbX12_mindedMany (Nat.le_of_ble_eq_true rfl) ?_
  intro p e s m args below meth c X ls hW hl
  have X : Cx E cX12_mindedMany 3 RX12 ((Option.some FieldType.int)) p s m args c meth := X
  have hx := X.1.1
  have hb := X.1.2.1
  have hl : lv_has ls 3 [(0, .ref (wa E 17 0))] := hl
  refine lv_iconst (v := 0) hx hb dX12_mindedMany_0 (by decide) ?_
  refine lv_istore_n (lv' := [(1, .int 0), (0, .ref (wa E 17 0))]) hx hb dX12_mindedMany_1 rfl hl (by decide) rfl (fun ls hl => ?_)
  refine lv_iconst (v := 0) hx hb dX12_mindedMany_2 (by decide) ?_
  refine lv_istore_n (lv' := [(2, .int 0), (1, .int 0), (0, .ref (wa E 17 0))]) hx hb dX12_mindedMany_3 rfl hl (by decide) rfl (fun ls hl => ?_)
  obtain ⟨n4, h⟩ := h
  exact bX12_mindedMany_4 X n4 0 0 _ _ _ _ _  h hW (lv_sub hl [2, 1, 0] rfl)
def wX12_lot (g : GS) (a1 : Int32) (a2 : Int32) (I : MI) (J : MJ) (Q : Int32 → MI → MJ → Prop) : Prop :=
  wX12_isCandidate g a1 I J (fun r2 I2 J2 => ((¬ r2 = 0 → wX12_isPart g a2 I2 J2 (fun r12 I12 J12 => ((¬ r12 = 0 → wX12_isMinded g a1 I12 J12 (fun r23 I23 J23 => ((r23 = 0 → ((¬ a2 = 0 → wX12_mindedMany g I23 J23 (fun r46 I46 J46 => Q ((I23 17 0 4) - r46) I46 J46)) ∧ (a2 = 0 → Q 1 I23 J23))) ∧ (¬ r23 = 0 → Q a2 I23 J23)))) ∧ (r12 = 0 → Q ((-102)) I12 J12)))) ∧ (r2 = 0 → Q ((-101)) I2 J2)))
theorem mbX12_lot : MB yX12_lot cX12_lot 3 ((Option.some FieldType.int)) 2 := ⟨tw1222, tw7, ⟨by decide, by decide⟩, by decide +kernel, by decide +kernel⟩
set_option maxHeartbeats 4000000 in
set_option maxRecDepth 100000 in
theorem kX12_lot {l : Launch} {E : WE} {a1 : Int32} {a2 : Int32} {I : MI} {J : MJ} {Q : Int32 → MI → MJ → Prop} (h : wX12_lot (wg E) a1 a2 I J Q) : Met l yX12_lot (wsM yX12_lot cX12_lot 3 ((Option.some FieldType.int))) (rmO 3 66) (va_Pc [.ref (wa E 17 0), .int a1, .int a2] (Wp E I J)) (QI E Q) 0 0 (AA E) := by
  refine m_entry mbX12_lot (Nat.le_of_ble_eq_true rfl) ?_
  intro p e s m args below meth c X ls hW hl
  have X : Cx E cX12_lot 3 RX12 ((Option.some FieldType.int)) p s m args c meth := X
  have hx := X.1.1
  have hb := X.1.2.1
  have hl : lv_has ls 3 [(0, .ref (wa E 17 0)), (1, .int a1), (2, .int a2)] := hl
  refine lv_aload_n hx hb dX12_lot_0 rfl (lv_at hl 0 rfl) ?_
  refine lv_iload_n hx hb dX12_lot_1 rfl (lv_at hl 1 rfl) ?_
  refine af_i hW (rn_V X hW (As := [.int a1]) (rest := []) (okS hW sc17_0) rfl rfl (kX12_isCandidate h) mbX12_isCandidate tw1027 tw1029 tp32 rfl hl.1 (Nat.le_of_ble_eq_true rfl) ⟨(Nat.le_of_ble_eq_true rfl), (Nat.le_of_ble_eq_true rfl)⟩ dX12_lot_2) (fun r2 I2 J2 H locs h hW => ?_)
  refine lv_if_ne (tgt := 11) hx hb dX12_lot_5 (by decide) (fun c5 => ?_) (fun c5 => ?_)
  · have h := h.1 c5
    refine lv_iload_n hx hb dX12_lot_11 rfl (lv_at hl 2 rfl) ?_
    refine af_i hW (rn_S X hW (As := [.int a2]) (rest := []) (kX12_isPart h) mbX12_isPart tw1073 tw1074 rfl hl.1 (Nat.le_of_ble_eq_true rfl) ⟨(Nat.le_of_ble_eq_true rfl), (Nat.le_of_ble_eq_true rfl)⟩ dX12_lot_12) (fun r12 I12 J12 H locs h hW => ?_)
    refine lv_if_ne (tgt := 21) hx hb dX12_lot_15 (by decide) (fun c15 => ?_) (fun c15 => ?_)
    · have h := h.1 c15
      refine lv_aload_n hx hb dX12_lot_21 rfl (lv_at hl 0 rfl) ?_
      refine lv_iload_n hx hb dX12_lot_22 rfl (lv_at hl 1 rfl) ?_
      refine af_i hW (rn_V X hW (As := [.int a1]) (rest := []) (okS hW sc17_0) rfl rfl (kX12_isMinded h) mbX12_isMinded tw1039 tw1041 tp34 rfl hl.1 (Nat.le_of_ble_eq_true rfl) ⟨(Nat.le_of_ble_eq_true rfl), (Nat.le_of_ble_eq_true rfl)⟩ dX12_lot_23) (fun r23 I23 J23 H locs h hW => ?_)
      refine lv_if_eq (tgt := 33) hx hb dX12_lot_26 (by decide) (fun c26 => ?_) (fun c26 => ?_)
      · have h := h.1 c26
        refine lv_iload_n hx hb dX12_lot_33 rfl (lv_at hl 2 rfl) ?_
        refine lv_if_ne (tgt := 41) hx hb dX12_lot_34 (by decide) (fun c34 => ?_) (fun c34 => ?_)
        · have h := h.1 c34
          refine lv_aload_n hx hb dX12_lot_41 rfl (lv_at hl 0 rfl) ?_
          refine r_get X hW 4 (okS hW sc17_0) rfl rfl inX12 (Nat.le_of_ble_eq_true rfl) tw838 rfl dX12_lot_42 ?_
          refine lv_aload_n hx hb dX12_lot_45 rfl (lv_at hl 0 rfl) ?_
          refine af_i hW (rn_V X hW (As := []) (rest := [.int (I23 17 0 4)]) (okS hW sc17_0) rfl rfl (kX12_mindedMany h) mbX12_mindedMany tw1223 tw1225 tp56 rfl hl.1 (Nat.le_of_ble_eq_true rfl) ⟨(Nat.le_of_ble_eq_true rfl), (Nat.le_of_ble_eq_true rfl)⟩ dX12_lot_46) (fun r46 I46 J46 H locs h hW => ?_)
          refine lv_isub hx hb dX12_lot_49 ?_
          exact e_i X hW h dX12_lot_50
        · have h := h.2 c34
          refine lv_iconst (v := 1) hx hb dX12_lot_37 (by decide) ?_
          refine lv_goto (tgt := 50) hx hb dX12_lot_38 (by decide) ?_
          exact e_i X hW h dX12_lot_50
      · have h := h.2 c26
        refine lv_iload_n hx hb dX12_lot_29 rfl (lv_at hl 2 rfl) ?_
        refine lv_goto (tgt := 50) hx hb dX12_lot_30 (by decide) ?_
        exact e_i X hW h dX12_lot_50
    · have h := h.2 c15
      refine lv_bipush (v := (-102)) hx hb dX12_lot_18 (by decide) ?_
      exact e_i X hW h dX12_lot_20
  · have h := h.2 c5
    refine lv_bipush (v := (-101)) hx hb dX12_lot_8 (by decide) ?_
    exact e_i X hW h dX12_lot_10
def wX12_image_b51 (g : GS) (Q : Int32 → MI → MJ → Prop) : Nat → Int32 → MI → MJ → Prop
  | 0, _, _, _ => False
  | n + 1, v1, I, J => ((48 ≤ v1 → Q (I 17 0 0) I J) ∧ (¬ 48 ≤ v1 → vp_in v1 48 ∧ (vp_in v1 48 ∧ (wX12_image_b51 g Q n (v1 + 1) (u3 I 30 0 (upd (I 30 0) (Int32.toNatClampNeg v1) (I 22 0 (Int32.toNatClampNeg v1)))) J))))
set_option maxHeartbeats 4000000 in
set_option maxRecDepth 100000 in
theorem bX12_image_51 {p : Program} {l : Launch} {e : Env} {s : State} {m : MethodId} {args : Array Value} {below : List Frame} {meth : Method} {c : Code} {E : WE} {Q : Int32 → MI → MJ → Prop} (X : Cx E cX12_image 2 RX12 ((Option.some FieldType.int)) p s m args c meth) (n : Nat) : ∀ (v1 : Int32) (I : MI) (J : MJ) (H : Heap) (locs : List Loc) (ls : Array Slot), wX12_image_b51 (wg E) Q n v1 I J → Wd E I J s H locs → lv_has ls 2 [(0, .ref (wa E 17 0)), (1, .int v1)] → W p l e (rmO 0 0) s m args below meth c H locs 0 0 (MQ below (QI E Q) args s 0 0 (AA E)) (F0 m 51 ls []) := by
  have hx := X.1.1
  have hb := X.1.2.1
  induction n with
  | zero => intro v1 I J H locs ls h hW hl; exact h.elim
  | succ n ih =>
    intro v1 I J H locs ls h hW hl
    refine lv_iload_n hx hb dX12_image_51 rfl (lv_at hl 1 rfl) ?_
    refine lv_bipush (v := 48) hx hb dX12_image_52 (by decide) ?_
    refine lv_icmp_ge (tgt := 75) hx hb dX12_image_54 (by decide) (fun c54 => ?_) (fun c54 => ?_)
    · have h := h.1 c54
      refine lv_aload_n hx hb dX12_image_75 rfl (lv_at hl 0 rfl) ?_
      refine r_get X hW 0 (okS hW sc17_0) rfl rfl inX12 (Nat.le_of_ble_eq_true rfl) tw834 rfl dX12_image_76 ?_
      exact e_i X hW h dX12_image_79
    · have h := h.2 c54
      refine lv_aload_n hx hb dX12_image_57 rfl (lv_at hl 0 rfl) ?_
      refine r_get X hW 19 (okS hW sc17_0) rfl rfl inX12 (Nat.le_of_ble_eq_true rfl) tw853 rfl dX12_image_58 ?_
      refine lv_iload_n hx hb dX12_image_61 rfl (lv_at hl 1 rfl) ?_
      refine lv_aload_n hx hb dX12_image_62 rfl (lv_at hl 0 rfl) ?_
      refine r_get X hW 6 (okS hW sc17_0) rfl rfl inX12 (Nat.le_of_ble_eq_true rfl) tw840 rfl dX12_image_63 ?_
      refine lv_iload_n hx hb dX12_image_66 rfl (lv_at hl 1 rfl) ?_
      refine r_iald X hW (okS hW sc22_0) rfl h.1 dX12_image_67 ?_
      have h := h.2
      refine r_iast X hW (okS hW sc30_0) (fun _ => rfl) h.1 dX12_image_68 (fun H locs hW => ?_)
      have h := h.2
      refine lv_iinc (v := v1 + 1) (lv' := [(1, .int (v1 + 1)), (0, .ref (wa E 17 0))]) hx hb dX12_image_69 hl (k := 1) rfl rfl (by decide) rfl (fun ls hl => ?_)
      refine lv_goto (tgt := 51) hx hb dX12_image_72 (by decide) ?_
      exact ih (v1 + 1) _ _ _ _ _  h hW (lv_sub hl [1, 0] rfl)
def wX12_image_b23 (g : GS) (Q : Int32 → MI → MJ → Prop) : Nat → Int32 → MI → MJ → Prop
  | 0, _, _, _ => False
  | n + 1, v1, I, J => (((I 17 0 0) ≤ v1 → ∃ n51, wX12_image_b51 g Q n51 0 I J) ∧ (¬ (I 17 0 0) ≤ v1 → vp_in v1 8 ∧ (vp_in v1 8 ∧ (wX12_image_b23 g Q n (v1 + 1) (u3 I 29 0 (upd (I 29 0) (Int32.toNatClampNeg v1) (I 20 0 (Int32.toNatClampNeg v1)))) J))))
set_option maxHeartbeats 4000000 in
set_option maxRecDepth 100000 in
theorem bX12_image_23 {p : Program} {l : Launch} {e : Env} {s : State} {m : MethodId} {args : Array Value} {below : List Frame} {meth : Method} {c : Code} {E : WE} {Q : Int32 → MI → MJ → Prop} (X : Cx E cX12_image 2 RX12 ((Option.some FieldType.int)) p s m args c meth) (n : Nat) : ∀ (v1 : Int32) (I : MI) (J : MJ) (H : Heap) (locs : List Loc) (ls : Array Slot), wX12_image_b23 (wg E) Q n v1 I J → Wd E I J s H locs → lv_has ls 2 [(0, .ref (wa E 17 0)), (1, .int v1)] → W p l e (rmO 0 0) s m args below meth c H locs 0 0 (MQ below (QI E Q) args s 0 0 (AA E)) (F0 m 23 ls []) := by
  have hx := X.1.1
  have hb := X.1.2.1
  induction n with
  | zero => intro v1 I J H locs ls h hW hl; exact h.elim
  | succ n ih =>
    intro v1 I J H locs ls h hW hl
    refine lv_iload_n hx hb dX12_image_23 rfl (lv_at hl 1 rfl) ?_
    refine lv_aload_n hx hb dX12_image_24 rfl (lv_at hl 0 rfl) ?_
    refine r_get X hW 0 (okS hW sc17_0) rfl rfl inX12 (Nat.le_of_ble_eq_true rfl) tw834 rfl dX12_image_25 ?_
    refine lv_icmp_ge (tgt := 49) hx hb dX12_image_28 (by decide) (fun c28 => ?_) (fun c28 => ?_)
    · have h := h.1 c28
      refine lv_iconst (v := 0) hx hb dX12_image_49 (by decide) ?_
      refine lv_istore_n (lv' := [(1, .int 0), (0, .ref (wa E 17 0))]) hx hb dX12_image_50 rfl hl (by decide) rfl (fun ls hl => ?_)
      obtain ⟨n51, h⟩ := h
      exact bX12_image_51 X n51 0 _ _ _ _ _  h hW (lv_sub hl [1, 0] rfl)
    · have h := h.2 c28
      refine lv_aload_n hx hb dX12_image_31 rfl (lv_at hl 0 rfl) ?_
      refine r_get X hW 18 (okS hW sc17_0) rfl rfl inX12 (Nat.le_of_ble_eq_true rfl) tw852 rfl dX12_image_32 ?_
      refine lv_iload_n hx hb dX12_image_35 rfl (lv_at hl 1 rfl) ?_
      refine lv_aload_n hx hb dX12_image_36 rfl (lv_at hl 0 rfl) ?_
      refine r_get X hW 3 (okS hW sc17_0) rfl rfl inX12 (Nat.le_of_ble_eq_true rfl) tw837 rfl dX12_image_37 ?_
      refine lv_iload_n hx hb dX12_image_40 rfl (lv_at hl 1 rfl) ?_
      refine r_iald X hW (okS hW sc20_0) rfl h.1 dX12_image_41 ?_
      have h := h.2
      refine r_iast X hW (okS hW sc29_0) (fun _ => rfl) h.1 dX12_image_42 (fun H locs hW => ?_)
      have h := h.2
      refine lv_iinc (v := v1 + 1) (lv' := [(1, .int (v1 + 1)), (0, .ref (wa E 17 0))]) hx hb dX12_image_43 hl (k := 1) rfl rfl (by decide) rfl (fun ls hl => ?_)
      refine lv_goto (tgt := 23) hx hb dX12_image_46 (by decide) ?_
      exact ih (v1 + 1) _ _ _ _ _  h hW (lv_sub hl [1, 0] rfl)
def wX12_image (g : GS) (I : MI) (J : MJ) (Q : Int32 → MI → MJ → Prop) : Prop :=
  ∀ I10 : MI, I10 = u3 (u3 I 17 0 (upd (I 17 0) 15 1)) 17 0 (upd ((u3 I 17 0 (upd (I 17 0) 15 1)) 17 0) 16 ((u3 I 17 0 (upd (I 17 0) 15 1)) 17 0 0)) → ∃ n23, wX12_image_b23 g Q n23 0 (u3 I10 17 0 (upd (I10 17 0) 17 (I10 17 0 4))) J
theorem mbX12_image : MB yX12_image cX12_image 2 ((Option.some FieldType.int)) 0 := ⟨tw1230, tw7, ⟨by decide, by decide⟩, by decide +kernel, by decide +kernel⟩
set_option maxHeartbeats 4000000 in
set_option maxRecDepth 100000 in
theorem kX12_image {l : Launch} {E : WE} {I : MI} {J : MJ} {Q : Int32 → MI → MJ → Prop} (h : wX12_image (wg E) I J Q) : Met l yX12_image (wsM yX12_image cX12_image 2 ((Option.some FieldType.int))) (rmO 0 0) (va_Pc [.ref (wa E 17 0)] (Wp E I J)) (QI E Q) 0 0 (AA E) := by
  refine m_entry mbX12_image (Nat.le_of_ble_eq_true rfl) ?_
  intro p e s m args below meth c X ls hW hl
  have X : Cx E cX12_image 2 RX12 ((Option.some FieldType.int)) p s m args c meth := X
  have hx := X.1.1
  have hb := X.1.2.1
  have hl : lv_has ls 2 [(0, .ref (wa E 17 0))] := hl
  refine lv_aload_n hx hb dX12_image_0 rfl (lv_at hl 0 rfl) ?_
  refine lv_iconst (v := 1) hx hb dX12_image_1 (by decide) ?_
  refine r_putI X hW 15 (okS hW sc17_0) rfl rfl inX12 tyX12 tyX12_ok nmX12 (Nat.le_of_ble_eq_true rfl) tw849 rfl rfl rfl rfl (Nat.le_of_ble_eq_true rfl) rfl dX12_image_2 (fun H locs hW => ?_)
  refine lv_aload_n hx hb dX12_image_5 rfl (lv_at hl 0 rfl) ?_
  refine lv_aload_n hx hb dX12_image_6 rfl (lv_at hl 0 rfl) ?_
  refine r_get X hW 0 (okS hW sc17_0) rfl rfl inX12 (Nat.le_of_ble_eq_true rfl) tw834 rfl dX12_image_7 ?_
  refine r_putI X hW 16 (okS hW sc17_0) rfl rfl inX12 tyX12 tyX12_ok nmX12 (Nat.le_of_ble_eq_true rfl) tw850 rfl rfl rfl rfl (Nat.le_of_ble_eq_true rfl) rfl dX12_image_10 (fun H locs hW => ?_)
  obtain ⟨I10, eI10⟩ : ∃ z : MI, z = u3 (u3 I 17 0 (upd (I 17 0) 15 1)) 17 0 (upd ((u3 I 17 0 (upd (I 17 0) 15 1)) 17 0) 16 ((u3 I 17 0 (upd (I 17 0) 15 1)) 17 0 0)) := ⟨_, rfl⟩
  rw [← eI10] at hW
  have h := h I10 eI10
  refine lv_aload_n hx hb dX12_image_13 rfl (lv_at hl 0 rfl) ?_
  refine lv_aload_n hx hb dX12_image_14 rfl (lv_at hl 0 rfl) ?_
  refine r_get X hW 4 (okS hW sc17_0) rfl rfl inX12 (Nat.le_of_ble_eq_true rfl) tw838 rfl dX12_image_15 ?_
  refine r_putI X hW 17 (okS hW sc17_0) rfl rfl inX12 tyX12 tyX12_ok nmX12 (Nat.le_of_ble_eq_true rfl) tw851 rfl rfl rfl rfl (Nat.le_of_ble_eq_true rfl) rfl dX12_image_18 (fun H locs hW => ?_)
  refine lv_iconst (v := 0) hx hb dX12_image_21 (by decide) ?_
  refine lv_istore_n (lv' := [(1, .int 0), (0, .ref (wa E 17 0))]) hx hb dX12_image_22 rfl hl (by decide) rfl (fun ls hl => ?_)
  obtain ⟨n23, h⟩ := h
  exact bX12_image_23 X n23 0 _ _ _ _ _  h hW (lv_sub hl [1, 0] rfl)
def wX12_restore_b34 (g : GS) (ko12 : Int32 → MI → MJ → Prop) (Q : Int32 → MI → MJ → Prop) : Nat → Int32 → Int32 → MI → MJ → Prop
  | 0, _, _, _, _ => False
  | n + 1, v1, v2, I, J => (((I 17 0 17) ≤ v2 → ko12 (v1 + 1) I J) ∧ (¬ (I 17 0 17) ≤ v2 → vp_in ((6 * v1) + v2) 48 ∧ (vp_in ((6 * v1) + v2) 48 ∧ (wX12_restore_b34 g ko12 Q n v1 (v2 + 1) (u3 I 22 0 (upd (I 22 0) (Int32.toNatClampNeg ((6 * v1) + v2)) (I 30 0 (Int32.toNatClampNeg ((6 * v1) + v2))))) J))))
set_option maxHeartbeats 4000000 in
set_option maxRecDepth 100000 in
theorem bX12_restore_34 {p : Program} {l : Launch} {e : Env} {s : State} {m : MethodId} {args : Array Value} {below : List Frame} {meth : Method} {c : Code} {E : WE} {Q : Int32 → MI → MJ → Prop} {ko12 : Int32 → MI → MJ → Prop} (X : Cx E cX12_restore 3 RX12 ((Option.some FieldType.int)) p s m args c meth)
    (hk12 : ∀ (v1 : Int32) (I : MI) (J : MJ) (H : Heap) (locs : List Loc) (ls : Array Slot), ko12 v1 I J → Wd E I J s H locs → lv_has ls 3 [(0, .ref (wa E 17 0)), (1, .int v1)] → W p l e (rmO 0 0) s m args below meth c H locs 0 0 (MQ below (QI E Q) args s 0 0 (AA E)) (F0 m 12 ls [])) (n : Nat) : ∀ (v1 : Int32) (v2 : Int32) (I : MI) (J : MJ) (H : Heap) (locs : List Loc) (ls : Array Slot), wX12_restore_b34 (wg E) ko12 Q n v1 v2 I J → Wd E I J s H locs → lv_has ls 3 [(0, .ref (wa E 17 0)), (1, .int v1), (2, .int v2)] → W p l e (rmO 0 0) s m args below meth c H locs 0 0 (MQ below (QI E Q) args s 0 0 (AA E)) (F0 m 34 ls []) := by
  have hx := X.1.1
  have hb := X.1.2.1
  induction n with
  | zero => intro v1 v2 I J H locs ls h hW hl; exact h.elim
  | succ n ih =>
    intro v1 v2 I J H locs ls h hW hl
    refine lv_iload_n hx hb dX12_restore_34 rfl (lv_at hl 2 rfl) ?_
    refine lv_aload_n hx hb dX12_restore_35 rfl (lv_at hl 0 rfl) ?_
    refine r_get X hW 17 (okS hW sc17_0) rfl rfl inX12 (Nat.le_of_ble_eq_true rfl) tw851 rfl dX12_restore_36 ?_
    refine lv_icmp_ge (tgt := 70) hx hb dX12_restore_39 (by decide) (fun c39 => ?_) (fun c39 => ?_)
    · have h := h.1 c39
      refine lv_iinc (v := v1 + 1) (lv' := [(1, .int (v1 + 1)), (0, .ref (wa E 17 0)), (2, .int v2)]) hx hb dX12_restore_70 hl (k := 1) rfl rfl (by decide) rfl (fun ls hl => ?_)
      refine lv_goto (tgt := 12) hx hb dX12_restore_73 (by decide) ?_
      exact hk12 (v1 + 1) _ _ _ _ _  h hW (lv_sub hl [1, 0] rfl)
    · have h := h.2 c39
      refine lv_aload_n hx hb dX12_restore_42 rfl (lv_at hl 0 rfl) ?_
      refine r_get X hW 6 (okS hW sc17_0) rfl rfl inX12 (Nat.le_of_ble_eq_true rfl) tw840 rfl dX12_restore_43 ?_
      refine lv_bipush (v := 6) hx hb dX12_restore_46 (by decide) ?_
      refine lv_iload_n hx hb dX12_restore_48 rfl (lv_at hl 1 rfl) ?_
      refine lv_imul hx hb dX12_restore_49 ?_
      refine lv_iload_n hx hb dX12_restore_50 rfl (lv_at hl 2 rfl) ?_
      refine lv_iadd hx hb dX12_restore_51 ?_
      refine lv_aload_n hx hb dX12_restore_52 rfl (lv_at hl 0 rfl) ?_
      refine r_get X hW 19 (okS hW sc17_0) rfl rfl inX12 (Nat.le_of_ble_eq_true rfl) tw853 rfl dX12_restore_53 ?_
      refine lv_bipush (v := 6) hx hb dX12_restore_56 (by decide) ?_
      refine lv_iload_n hx hb dX12_restore_58 rfl (lv_at hl 1 rfl) ?_
      refine lv_imul hx hb dX12_restore_59 ?_
      refine lv_iload_n hx hb dX12_restore_60 rfl (lv_at hl 2 rfl) ?_
      refine lv_iadd hx hb dX12_restore_61 ?_
      refine r_iald X hW (okS hW sc30_0) rfl h.1 dX12_restore_62 ?_
      have h := h.2
      refine r_iast X hW (okS hW sc22_0) (fun _ => rfl) h.1 dX12_restore_63 (fun H locs hW => ?_)
      have h := h.2
      refine lv_iinc (v := v2 + 1) (lv' := [(2, .int (v2 + 1)), (0, .ref (wa E 17 0)), (1, .int v1)]) hx hb dX12_restore_64 hl (k := 2) rfl rfl (by decide) rfl (fun ls hl => ?_)
      refine lv_goto (tgt := 34) hx hb dX12_restore_67 (by decide) ?_
      exact ih v1 (v2 + 1) _ _ _ _ _  h hW (lv_sub hl [1, 2, 0] rfl)
def wX12_restore_b12 (g : GS) (Q : Int32 → MI → MJ → Prop) : Nat → Int32 → MI → MJ → Prop
  | 0, _, _, _ => False
  | n + 1, v1, I, J => (((I 17 0 16) ≤ v1 → Q (I 17 0 0) I J) ∧ (¬ (I 17 0 16) ≤ v1 → vp_in v1 8 ∧ (vp_in v1 8 ∧ (∃ n34, wX12_restore_b34 g (fun v1 I J => wX12_restore_b12 g Q n v1 I J) Q n34 v1 0 (u3 I 20 0 (upd (I 20 0) (Int32.toNatClampNeg v1) (I 29 0 (Int32.toNatClampNeg v1)))) J))))
set_option maxHeartbeats 4000000 in
set_option maxRecDepth 100000 in
theorem bX12_restore_12 {p : Program} {l : Launch} {e : Env} {s : State} {m : MethodId} {args : Array Value} {below : List Frame} {meth : Method} {c : Code} {E : WE} {Q : Int32 → MI → MJ → Prop} (X : Cx E cX12_restore 3 RX12 ((Option.some FieldType.int)) p s m args c meth) (n : Nat) : ∀ (v1 : Int32) (I : MI) (J : MJ) (H : Heap) (locs : List Loc) (ls : Array Slot), wX12_restore_b12 (wg E) Q n v1 I J → Wd E I J s H locs → lv_has ls 3 [(0, .ref (wa E 17 0)), (1, .int v1)] → W p l e (rmO 0 0) s m args below meth c H locs 0 0 (MQ below (QI E Q) args s 0 0 (AA E)) (F0 m 12 ls []) := by
  have hx := X.1.1
  have hb := X.1.2.1
  induction n with
  | zero => intro v1 I J H locs ls h hW hl; exact h.elim
  | succ n ih =>
    intro v1 I J H locs ls h hW hl
    refine lv_iload_n hx hb dX12_restore_12 rfl (lv_at hl 1 rfl) ?_
    refine lv_aload_n hx hb dX12_restore_13 rfl (lv_at hl 0 rfl) ?_
    refine r_get X hW 16 (okS hW sc17_0) rfl rfl inX12 (Nat.le_of_ble_eq_true rfl) tw850 rfl dX12_restore_14 ?_
    refine lv_icmp_ge (tgt := 76) hx hb dX12_restore_17 (by decide) (fun c17 => ?_) (fun c17 => ?_)
    · have h := h.1 c17
      refine lv_aload_n hx hb dX12_restore_76 rfl (lv_at hl 0 rfl) ?_
      refine r_get X hW 0 (okS hW sc17_0) rfl rfl inX12 (Nat.le_of_ble_eq_true rfl) tw834 rfl dX12_restore_77 ?_
      exact e_i X hW h dX12_restore_80
    · have h := h.2 c17
      refine lv_aload_n hx hb dX12_restore_20 rfl (lv_at hl 0 rfl) ?_
      refine r_get X hW 3 (okS hW sc17_0) rfl rfl inX12 (Nat.le_of_ble_eq_true rfl) tw837 rfl dX12_restore_21 ?_
      refine lv_iload_n hx hb dX12_restore_24 rfl (lv_at hl 1 rfl) ?_
      refine lv_aload_n hx hb dX12_restore_25 rfl (lv_at hl 0 rfl) ?_
      refine r_get X hW 18 (okS hW sc17_0) rfl rfl inX12 (Nat.le_of_ble_eq_true rfl) tw852 rfl dX12_restore_26 ?_
      refine lv_iload_n hx hb dX12_restore_29 rfl (lv_at hl 1 rfl) ?_
      refine r_iald X hW (okS hW sc29_0) rfl h.1 dX12_restore_30 ?_
      have h := h.2
      refine r_iast X hW (okS hW sc20_0) (fun _ => rfl) h.1 dX12_restore_31 (fun H locs hW => ?_)
      have h := h.2
      refine lv_iconst (v := 0) hx hb dX12_restore_32 (by decide) ?_
      refine lv_istore_n (lv' := [(2, .int 0), (0, .ref (wa E 17 0)), (1, .int v1)]) hx hb dX12_restore_33 rfl hl (by decide) rfl (fun ls hl => ?_)
      obtain ⟨n34, h⟩ := h
      exact bX12_restore_34 X ih n34 v1 0 _ _ _ _ _  h hW (lv_sub hl [1, 2, 0] rfl)
def wX12_restore (g : GS) (I : MI) (J : MJ) (Q : Int32 → MI → MJ → Prop) : Prop :=
  ((¬ (I 17 0 15) = 0 → ∃ n12, wX12_restore_b12 g Q n12 0 I J) ∧ ((I 17 0 15) = 0 → Q ((-103)) I J))
theorem mbX12_restore : MB yX12_restore cX12_restore 3 ((Option.some FieldType.int)) 0 := ⟨tw1234, tw7, ⟨by decide, by decide⟩, by decide +kernel, by decide +kernel⟩
set_option maxHeartbeats 4000000 in
set_option maxRecDepth 100000 in
theorem kX12_restore {l : Launch} {E : WE} {I : MI} {J : MJ} {Q : Int32 → MI → MJ → Prop} (h : wX12_restore (wg E) I J Q) : Met l yX12_restore (wsM yX12_restore cX12_restore 3 ((Option.some FieldType.int))) (rmO 0 0) (va_Pc [.ref (wa E 17 0)] (Wp E I J)) (QI E Q) 0 0 (AA E) := by
  refine m_entry mbX12_restore (Nat.le_of_ble_eq_true rfl) ?_
  intro p e s m args below meth c X ls hW hl
  have X : Cx E cX12_restore 3 RX12 ((Option.some FieldType.int)) p s m args c meth := X
  have hx := X.1.1
  have hb := X.1.2.1
  have hl : lv_has ls 3 [(0, .ref (wa E 17 0))] := hl
  refine lv_aload_n hx hb dX12_restore_0 rfl (lv_at hl 0 rfl) ?_
  refine r_get X hW 15 (okS hW sc17_0) rfl rfl inX12 (Nat.le_of_ble_eq_true rfl) tw849 rfl dX12_restore_1 ?_
  refine lv_if_ne (tgt := 10) hx hb dX12_restore_4 (by decide) (fun c4 => ?_) (fun c4 => ?_)
  · have h := h.1 c4
    refine lv_iconst (v := 0) hx hb dX12_restore_10 (by decide) ?_
    refine lv_istore_n (lv' := [(1, .int 0), (0, .ref (wa E 17 0))]) hx hb dX12_restore_11 rfl hl (by decide) rfl (fun ls hl => ?_)
    obtain ⟨n12, h⟩ := h
    exact bX12_restore_12 X n12 0 _ _ _ _ _  h hW (lv_sub hl [1, 0] rfl)
  · have h := h.2 c4
    refine lv_bipush (v := (-103)) hx hb dX12_restore_7 (by decide) ?_
    exact e_i X hW h dX12_restore_9
def wX12_howMany (g : GS) (a1 : Int32) (I : MI) (J : MJ) (Q : Int32 → MI → MJ → Prop) : Prop :=
  ((a1 = 0 → Q (I 17 0 0) I J) ∧ (¬ a1 = 0 → ((a1 = 1 → Q (I 17 0 4) I J) ∧ (¬ a1 = 1 → ((a1 = 2 → Q (I 17 0 7) I J) ∧ (¬ a1 = 2 → ((a1 = 3 → Q (I 17 0 13) I J) ∧ (¬ a1 = 3 → ((a1 = 4 → wX12_mindedMany g I J (fun r57 I57 J57 => Q r57 I57 J57)) ∧ (¬ a1 = 4 → Q ((-102)) I J))))))))))
theorem mbX12_howMany : MB yX12_howMany cX12_howMany 2 ((Option.some FieldType.int)) 1 := ⟨tw1242, tw7, ⟨by decide, by decide⟩, by decide +kernel, by decide +kernel⟩
set_option maxHeartbeats 4000000 in
set_option maxRecDepth 100000 in
theorem kX12_howMany {l : Launch} {E : WE} {a1 : Int32} {I : MI} {J : MJ} {Q : Int32 → MI → MJ → Prop} (h : wX12_howMany (wg E) a1 I J Q) : Met l yX12_howMany (wsM yX12_howMany cX12_howMany 2 ((Option.some FieldType.int))) (rmO 3 66) (va_Pc [.ref (wa E 17 0), .int a1] (Wp E I J)) (QI E Q) 0 0 (AA E) := by
  refine m_entry mbX12_howMany (Nat.le_of_ble_eq_true rfl) ?_
  intro p e s m args below meth c X ls hW hl
  have X : Cx E cX12_howMany 2 RX12 ((Option.some FieldType.int)) p s m args c meth := X
  have hx := X.1.1
  have hb := X.1.2.1
  have hl : lv_has ls 2 [(0, .ref (wa E 17 0)), (1, .int a1)] := hl
  refine lv_iload_n hx hb dX12_howMany_0 rfl (lv_at hl 1 rfl) ?_
  by_cases s1_0 : a1 = 0
  · have h := h.1 s1_0
    refine sw_in (tgt := 36) (off := 35) hx hb dX12_howMany_1 s1_0 (by decide) (by decide) (by decide) (by decide) ?_
    refine lv_aload_n hx hb dX12_howMany_36 rfl (lv_at hl 0 rfl) ?_
    refine r_get X hW 0 (okS hW sc17_0) rfl rfl inX12 (Nat.le_of_ble_eq_true rfl) tw834 rfl dX12_howMany_37 ?_
    exact e_i X hW h dX12_howMany_40
  · have h := h.2 s1_0
    by_cases s1_1 : a1 = 1
    · have h := h.1 s1_1
      refine sw_in (tgt := 41) (off := 40) hx hb dX12_howMany_1 s1_1 (by decide) (by decide) (by decide) (by decide) ?_
      refine lv_aload_n hx hb dX12_howMany_41 rfl (lv_at hl 0 rfl) ?_
      refine r_get X hW 4 (okS hW sc17_0) rfl rfl inX12 (Nat.le_of_ble_eq_true rfl) tw838 rfl dX12_howMany_42 ?_
      exact e_i X hW h dX12_howMany_45
    · have h := h.2 s1_1
      by_cases s1_2 : a1 = 2
      · have h := h.1 s1_2
        refine sw_in (tgt := 46) (off := 45) hx hb dX12_howMany_1 s1_2 (by decide) (by decide) (by decide) (by decide) ?_
        refine lv_aload_n hx hb dX12_howMany_46 rfl (lv_at hl 0 rfl) ?_
        refine r_get X hW 7 (okS hW sc17_0) rfl rfl inX12 (Nat.le_of_ble_eq_true rfl) tw841 rfl dX12_howMany_47 ?_
        exact e_i X hW h dX12_howMany_50
      · have h := h.2 s1_2
        by_cases s1_3 : a1 = 3
        · have h := h.1 s1_3
          refine sw_in (tgt := 51) (off := 50) hx hb dX12_howMany_1 s1_3 (by decide) (by decide) (by decide) (by decide) ?_
          refine lv_aload_n hx hb dX12_howMany_51 rfl (lv_at hl 0 rfl) ?_
          refine r_get X hW 13 (okS hW sc17_0) rfl rfl inX12 (Nat.le_of_ble_eq_true rfl) tw847 rfl dX12_howMany_52 ?_
          exact e_i X hW h dX12_howMany_55
        · have h := h.2 s1_3
          by_cases s1_4 : a1 = 4
          · have h := h.1 s1_4
            refine sw_in (tgt := 56) (off := 55) hx hb dX12_howMany_1 s1_4 (by decide) (by decide) (by decide) (by decide) ?_
            refine lv_aload_n hx hb dX12_howMany_56 rfl (lv_at hl 0 rfl) ?_
            refine af_i hW (rn_V X hW (As := []) (rest := []) (okS hW sc17_0) rfl rfl (kX12_mindedMany h) mbX12_mindedMany tw1223 tw1225 tp56 rfl hl.1 (Nat.le_of_ble_eq_true rfl) ⟨(Nat.le_of_ble_eq_true rfl), (Nat.le_of_ble_eq_true rfl)⟩ dX12_howMany_57) (fun r57 I57 J57 H locs h hW => ?_)
            exact e_i X hW h dX12_howMany_60
          · have h := h.2 s1_4
            have z1 : Int32.toInt a1 < 0 ∨ 4 < Int32.toInt a1 := by
              have := ne_ti s1_0 (a := 0) (by decide)
              have := ne_ti s1_1 (a := 1) (by decide)
              have := ne_ti s1_2 (a := 2) (by decide)
              have := ne_ti s1_3 (a := 3) (by decide)
              have := ne_ti s1_4 (a := 4) (by decide)
              omega
            refine lv_tableOut (tgt := 61) hx hb dX12_howMany_1 z1 (by decide) ?_
            refine lv_bipush (v := (-102)) hx hb dX12_howMany_61 (by decide) ?_
            exact e_i X hW h dX12_howMany_63
