def wX11_howManyMindMuch_b28 (g : GS) (ko4 : Int32 → Int32 → Int32 → MI → MJ → Prop) (Q : Int32 → MI → MJ → Prop) (v1 : Int32) (v2 : Int32) (v3 : Int32) (I : MI) (J : MJ) : Prop :=
  ko4 v1 v2 (v3 + 1) I J
set_option maxHeartbeats 4000000 in
set_option maxRecDepth 100000 in
theorem bX11_howManyMindMuch_28 {p : Program} {l : Launch} {e : Env} {s : State} {m : MethodId} {args : Array Value} {below : List Frame} {meth : Method} {c : Code} {E : WE} {Q : Int32 → MI → MJ → Prop} {ko4 : Int32 → Int32 → Int32 → MI → MJ → Prop} (X : Cx E cX11_howManyMindMuch 4 RX11 ((Option.some FieldType.int)) p s m args c meth)
    (hk4 : ∀ (v1 : Int32) (v2 : Int32) (v3 : Int32) (I : MI) (J : MJ) (H : Heap) (locs : List Loc) (ls : Array Slot), ko4 v1 v2 v3 I J → Wd E I J s H locs → lv_has ls 4 [(0, .ref (wa E 0 0)), (1, .int v1), (2, .int v2), (3, .int v3)] → W p l e (rmO 2 42) s m args below meth c H locs 0 0 (MQ below (QI E Q) args s 0 0 (AA E)) (F0 m 4 ls [])) : ∀ (v1 : Int32) (v2 : Int32) (v3 : Int32) (I : MI) (J : MJ) (H : Heap) (locs : List Loc) (ls : Array Slot), wX11_howManyMindMuch_b28 (wg E) ko4 Q v1 v2 v3 I J → Wd E I J s H locs → lv_has ls 4 [(0, .ref (wa E 0 0)), (1, .int v1), (2, .int v2), (3, .int v3)] → W p l e (rmO 2 42) s m args below meth c H locs 0 0 (MQ below (QI E Q) args s 0 0 (AA E)) (F0 m 28 ls []) := by
  have hx := X.1.1
  have hb := X.1.2.1
  intro v1 v2 v3 I J H locs ls h hW hl
  refine lv_iinc (v := v3 + 1) (lv' := [(3, .int (v3 + 1)), (0, .ref (wa E 0 0)), (1, .int v1), (2, .int v2)]) hx hb dX11_howManyMindMuch_28 hl (k := 3) rfl rfl (by decide) rfl (fun ls hl => ?_)
  refine lv_goto (tgt := 4) hx hb dX11_howManyMindMuch_31 (by decide) ?_
  exact hk4 v1 v2 (v3 + 1) _ _ _ _ _  h hW (lv_sub hl [1, 2, 3, 0] rfl)
def wX11_howManyMindMuch_b4 (g : GS) (Q : Int32 → MI → MJ → Prop) : Nat → Int32 → Int32 → Int32 → MI → MJ → Prop
  | 0, _, _, _, _, _ => False
  | n + 1, v1, v2, v3, I, J => (((I 0 0 10) ≤ v3 → Q v2 I J) ∧ (¬ (I 0 0 10) ≤ v3 → vp_in v3 8 ∧ ((¬ (Int32.toNatClampNeg v3) < g.2.1 → False) ∧ ((Int32.toNatClampNeg v3) < g.2.1 → wX5_mindsMuch g ((Int32.toNatClampNeg v3)) v1 I J (fun r19 I19 J19 => ((r19 = 0 → wX11_howManyMindMuch_b28 g (fun v1 v2 v3 I J => wX11_howManyMindMuch_b4 g Q n v1 v2 v3 I J) Q v1 v2 v3 I19 J19) ∧ (¬ r19 = 0 → wX11_howManyMindMuch_b28 g (fun v1 v2 v3 I J => wX11_howManyMindMuch_b4 g Q n v1 v2 v3 I J) Q v1 (v2 + 1) v3 I19 J19)))))))
set_option maxHeartbeats 4000000 in
set_option maxRecDepth 100000 in
theorem bX11_howManyMindMuch_4 {p : Program} {l : Launch} {e : Env} {s : State} {m : MethodId} {args : Array Value} {below : List Frame} {meth : Method} {c : Code} {E : WE} {Q : Int32 → MI → MJ → Prop} (X : Cx E cX11_howManyMindMuch 4 RX11 ((Option.some FieldType.int)) p s m args c meth) (n : Nat) : ∀ (v1 : Int32) (v2 : Int32) (v3 : Int32) (I : MI) (J : MJ) (H : Heap) (locs : List Loc) (ls : Array Slot), wX11_howManyMindMuch_b4 (wg E) Q n v1 v2 v3 I J → Wd E I J s H locs → lv_has ls 4 [(0, .ref (wa E 0 0)), (1, .int v1), (2, .int v2), (3, .int v3)] → W p l e (rmO 2 42) s m args below meth c H locs 0 0 (MQ below (QI E Q) args s 0 0 (AA E)) (F0 m 4 ls []) := by
  have hx := X.1.1
  have hb := X.1.2.1
  induction n with
  | zero => intro v1 v2 v3 I J H locs ls h hW hl; exact h.elim
  | succ n ih =>
    intro v1 v2 v3 I J H locs ls h hW hl
    refine lv_iload_n hx hb dX11_howManyMindMuch_4 rfl (lv_at hl 3 rfl) ?_
    refine lv_aload_n hx hb dX11_howManyMindMuch_5 rfl (lv_at hl 0 rfl) ?_
    refine r_get X hW 10 (okS hW sc0_0) rfl rfl inX11 (Nat.le_of_ble_eq_true rfl) tw142 rfl dX11_howManyMindMuch_6 ?_
    refine lv_icmp_ge (tgt := 34) hx hb dX11_howManyMindMuch_9 (by decide) (fun c9 => ?_) (fun c9 => ?_)
    · have h := h.1 c9
      refine lv_iload_n hx hb dX11_howManyMindMuch_34 rfl (lv_at hl 2 rfl) ?_
      exact e_i X hW h dX11_howManyMindMuch_35
    · have h := h.2 c9
      refine lv_aload_n hx hb dX11_howManyMindMuch_12 rfl (lv_at hl 0 rfl) ?_
      refine r_get X hW 2 (okS hW sc0_0) rfl rfl inX11 (Nat.le_of_ble_eq_true rfl) tw134 rfl dX11_howManyMindMuch_13 ?_
      refine lv_iload_n hx hb dX11_howManyMindMuch_16 rfl (lv_at hl 3 rfl) ?_
      refine r_aaP X hW h.1 dX11_howManyMindMuch_17 (fun c17 => ?_) (fun c17 => ?_)
      · have h := h.2.1 c17
        refine lv_iload_n hx hb dX11_howManyMindMuch_18 rfl (lv_at hl 1 rfl) ?_
        exact h.elim
      · have h := h.2.2 c17
        refine lv_iload_n hx hb dX11_howManyMindMuch_18 rfl (lv_at hl 1 rfl) ?_
        refine af_i hW (rn_P X hW (As := [.int v1]) (rest := []) c17 (kX5_mindsMuch c17 h) mbX5_mindsMuch tw455 tw456 tw459 tw460 tw461 tw462 tw457 rfl hl.1 (Nat.le_of_ble_eq_true rfl) ⟨(Nat.le_of_ble_eq_true rfl), (Nat.le_of_ble_eq_true rfl)⟩ dX11_howManyMindMuch_19) (fun r19 I19 J19 H locs h hW => ?_)
        refine lv_if_eq (tgt := 28) hx hb dX11_howManyMindMuch_22 (by decide) (fun c22 => ?_) (fun c22 => ?_)
        · have h := h.1 c22
          exact bX11_howManyMindMuch_28 X ih v1 v2 v3 _ _ _ _ _  h hW (lv_sub hl [0, 1, 2, 3] rfl)
        · have h := h.2 c22
          refine lv_iinc (v := v2 + 1) (lv' := [(2, .int (v2 + 1)), (0, .ref (wa E 0 0)), (1, .int v1), (3, .int v3)]) hx hb dX11_howManyMindMuch_25 hl (k := 2) rfl rfl (by decide) rfl (fun ls hl => ?_)
          exact bX11_howManyMindMuch_28 X ih v1 (v2 + 1) v3 _ _ _ _ _  h hW (lv_sub hl [1, 2, 0, 3] rfl)
def wX11_howManyMindMuch (g : GS) (a1 : Int32) (I : MI) (J : MJ) (Q : Int32 → MI → MJ → Prop) : Prop :=
  ∃ n4, wX11_howManyMindMuch_b4 g Q n4 a1 0 0 I J
theorem mbX11_howManyMindMuch : MB yX11_howManyMindMuch cX11_howManyMindMuch 4 ((Option.some FieldType.int)) 1 := ⟨tw454, tw1, ⟨by decide, by decide⟩, by decide +kernel, by decide +kernel⟩
set_option maxHeartbeats 4000000 in
set_option maxRecDepth 100000 in
theorem kX11_howManyMindMuch {l : Launch} {E : WE} {a1 : Int32} {I : MI} {J : MJ} {Q : Int32 → MI → MJ → Prop} (h : wX11_howManyMindMuch (wg E) a1 I J Q) : Met l yX11_howManyMindMuch (wsM yX11_howManyMindMuch cX11_howManyMindMuch 4 ((Option.some FieldType.int))) (rmO 2 42) (va_Pc [.ref (wa E 0 0), .int a1] (Wp E I J)) (QI E Q) 0 0 (AA E) := by
  refine m_entry mbX11_howManyMindMuch (Nat.le_of_ble_eq_true rfl) ?_
  intro p e s m args below meth c X ls hW hl
  have X : Cx E cX11_howManyMindMuch 4 RX11 ((Option.some FieldType.int)) p s m args c meth := X
  have hx := X.1.1
  have hb := X.1.2.1
  have hl : lv_has ls 4 [(0, .ref (wa E 0 0)), (1, .int a1)] := hl
  refine lv_iconst (v := 0) hx hb dX11_howManyMindMuch_0 (by decide) ?_
  refine lv_istore_n (lv' := [(2, .int 0), (0, .ref (wa E 0 0)), (1, .int a1)]) hx hb dX11_howManyMindMuch_1 rfl hl (by decide) rfl (fun ls hl => ?_)
  refine lv_iconst (v := 0) hx hb dX11_howManyMindMuch_2 (by decide) ?_
  refine lv_istore_n (lv' := [(3, .int 0), (2, .int 0), (0, .ref (wa E 0 0)), (1, .int a1)]) hx hb dX11_howManyMindMuch_3 rfl hl (by decide) rfl (fun ls hl => ?_)
  obtain ⟨n4, h⟩ := h
  exact bX11_howManyMindMuch_4 X n4 a1 0 0 _ _ _ _ _  h hW (lv_sub hl [2, 3, 1, 0] rfl)
def wX11_isMinded (g : GS) (a1 : Int32) (I : MI) (J : MJ) (Q : Int32 → MI → MJ → Prop) : Prop :=
  wX11_howManyMindMuch g a1 I J (fun r2 I2 J2 => ((r2 < 2 → Q 0 I2 J2) ∧ (¬ r2 < 2 → Q 1 I2 J2)))
theorem mbX11_isMinded : MB yX11_isMinded cX11_isMinded 2 ((Option.some FieldType.boolean)) 1 := ⟨tw450, tw1, ⟨by decide, by decide⟩, by decide +kernel, by decide +kernel⟩
set_option maxHeartbeats 4000000 in
set_option maxRecDepth 100000 in
theorem kX11_isMinded {l : Launch} {E : WE} {a1 : Int32} {I : MI} {J : MJ} {Q : Int32 → MI → MJ → Prop} (h : wX11_isMinded (wg E) a1 I J Q) : Met l yX11_isMinded (wsM yX11_isMinded cX11_isMinded 2 ((Option.some FieldType.boolean))) (rmO 3 65) (va_Pc [.ref (wa E 0 0), .int a1] (Wp E I J)) (QI E Q) 0 0 (AA E) := by
  refine m_entry mbX11_isMinded (Nat.le_of_ble_eq_true rfl) ?_
  intro p e s m args below meth c X ls hW hl
  have X : Cx E cX11_isMinded 2 RX11 ((Option.some FieldType.boolean)) p s m args c meth := X
  have hx := X.1.1
  have hb := X.1.2.1
  have hl : lv_has ls 2 [(0, .ref (wa E 0 0)), (1, .int a1)] := hl
  refine lv_aload_n hx hb dX11_isMinded_0 rfl (lv_at hl 0 rfl) ?_
  refine lv_iload_n hx hb dX11_isMinded_1 rfl (lv_at hl 1 rfl) ?_
  refine af_i hW (rn_V X hW (As := [.int a1]) (rest := []) (okS hW sc0_0) rfl rfl (kX11_howManyMindMuch h) mbX11_howManyMindMuch tw451 tw453 tp7 rfl hl.1 (Nat.le_of_ble_eq_true rfl) ⟨(Nat.le_of_ble_eq_true rfl), (Nat.le_of_ble_eq_true rfl)⟩ dX11_isMinded_2) (fun r2 I2 J2 H locs h hW => ?_)
  refine lv_iconst (v := 2) hx hb dX11_isMinded_5 (by decide) ?_
  refine lv_icmp_lt (tgt := 13) hx hb dX11_isMinded_6 (by decide) (fun c6 => ?_) (fun c6 => ?_)
  · have h := h.1 c6
    refine lv_iconst (v := 0) hx hb dX11_isMinded_13 (by decide) ?_
    exact e_z X hW rfl h dX11_isMinded_14
  · have h := h.2 c6
    refine lv_iconst (v := 1) hx hb dX11_isMinded_9 (by decide) ?_
    refine lv_goto (tgt := 14) hx hb dX11_isMinded_10 (by decide) ?_
    exact e_z X hW rfl h dX11_isMinded_14
def wX11_friend (g : GS) (a1 : Int32) (a2 : Int32) (I : MI) (J : MJ) (Q : Int32 → MI → MJ → Prop) : Prop :=
  wX11_isCandidate g a1 I J (fun r2 I2 J2 => ((¬ r2 = 0 → ((a2 = 0 → wX11_friendOf g a1 I2 J2 (fun r42 I42 J42 => Q r42 I42 J42)) ∧ (¬ a2 = 0 → ((a2 = 1 → wX11_isMinded g a1 I2 J2 (fun r48 I48 J48 => ((r48 = 0 → Q 0 I48 J48) ∧ (¬ r48 = 0 → Q 1 I48 J48)))) ∧ (¬ a2 = 1 → ((a2 = 2 → wX11_howManyMindMuch g a1 I2 J2 (fun r62 I62 J62 => Q r62 I62 J62)) ∧ (¬ a2 = 2 → Q ((-102)) I2 J2))))))) ∧ (r2 = 0 → Q ((-101)) I2 J2)))
theorem mbX11_friend : MB yX11_friend cX11_friend 3 ((Option.some FieldType.int)) 2 := ⟨tw442, tw1, ⟨by decide, by decide⟩, by decide +kernel, by decide +kernel⟩
set_option maxHeartbeats 4000000 in
set_option maxRecDepth 100000 in
theorem kX11_friend {l : Launch} {E : WE} {a1 : Int32} {a2 : Int32} {I : MI} {J : MJ} {Q : Int32 → MI → MJ → Prop} (h : wX11_friend (wg E) a1 a2 I J Q) : Met l yX11_friend (wsM yX11_friend cX11_friend 3 ((Option.some FieldType.int))) (rmO 4 86) (va_Pc [.ref (wa E 0 0), .int a1, .int a2] (Wp E I J)) (QI E Q) 0 0 (AA E) := by
  refine m_entry mbX11_friend (Nat.le_of_ble_eq_true rfl) ?_
  intro p e s m args below meth c X ls hW hl
  have X : Cx E cX11_friend 3 RX11 ((Option.some FieldType.int)) p s m args c meth := X
  have hx := X.1.1
  have hb := X.1.2.1
  have hl : lv_has ls 3 [(0, .ref (wa E 0 0)), (1, .int a1), (2, .int a2)] := hl
  refine lv_aload_n hx hb dX11_friend_0 rfl (lv_at hl 0 rfl) ?_
  refine lv_iload_n hx hb dX11_friend_1 rfl (lv_at hl 1 rfl) ?_
  refine af_i hW (rn_V X hW (As := [.int a1]) (rest := []) (okS hW sc0_0) rfl rfl (kX11_isCandidate h) mbX11_isCandidate tw417 tw419 tp4 rfl hl.1 (Nat.le_of_ble_eq_true rfl) ⟨(Nat.le_of_ble_eq_true rfl), (Nat.le_of_ble_eq_true rfl)⟩ dX11_friend_2) (fun r2 I2 J2 H locs h hW => ?_)
  refine lv_if_ne (tgt := 11) hx hb dX11_friend_5 (by decide) (fun c5 => ?_) (fun c5 => ?_)
  · have h := h.1 c5
    refine lv_iload_n hx hb dX11_friend_11 rfl (lv_at hl 2 rfl) ?_
    by_cases s12_0 : a2 = 0
    · have h := h.1 s12_0
      refine sw_in (tgt := 40) (off := 28) hx hb dX11_friend_12 s12_0 (by decide) (by decide) (by decide) (by decide) ?_
      refine lv_aload_n hx hb dX11_friend_40 rfl (lv_at hl 0 rfl) ?_
      refine lv_iload_n hx hb dX11_friend_41 rfl (lv_at hl 1 rfl) ?_
      refine af_i hW (rn_V X hW (As := [.int a1]) (rest := []) (okS hW sc0_0) rfl rfl (kX11_friendOf h) mbX11_friendOf tw443 tw445 tp5 rfl hl.1 (Nat.le_of_ble_eq_true rfl) ⟨(Nat.le_of_ble_eq_true rfl), (Nat.le_of_ble_eq_true rfl)⟩ dX11_friend_42) (fun r42 I42 J42 H locs h hW => ?_)
      exact e_i X hW h dX11_friend_45
    · have h := h.2 s12_0
      by_cases s12_1 : a2 = 1
      · have h := h.1 s12_1
        refine sw_in (tgt := 46) (off := 34) hx hb dX11_friend_12 s12_1 (by decide) (by decide) (by decide) (by decide) ?_
        refine lv_aload_n hx hb dX11_friend_46 rfl (lv_at hl 0 rfl) ?_
        refine lv_iload_n hx hb dX11_friend_47 rfl (lv_at hl 1 rfl) ?_
        refine af_i hW (rn_V X hW (As := [.int a1]) (rest := []) (okS hW sc0_0) rfl rfl (kX11_isMinded h) mbX11_isMinded tw447 tw449 tp6 rfl hl.1 (Nat.le_of_ble_eq_true rfl) ⟨(Nat.le_of_ble_eq_true rfl), (Nat.le_of_ble_eq_true rfl)⟩ dX11_friend_48) (fun r48 I48 J48 H locs h hW => ?_)
        refine lv_if_eq (tgt := 58) hx hb dX11_friend_51 (by decide) (fun c51 => ?_) (fun c51 => ?_)
        · have h := h.1 c51
          refine lv_iconst (v := 0) hx hb dX11_friend_58 (by decide) ?_
          exact e_i X hW h dX11_friend_59
        · have h := h.2 c51
          refine lv_iconst (v := 1) hx hb dX11_friend_54 (by decide) ?_
          refine lv_goto (tgt := 59) hx hb dX11_friend_55 (by decide) ?_
          exact e_i X hW h dX11_friend_59
      · have h := h.2 s12_1
        by_cases s12_2 : a2 = 2
        · have h := h.1 s12_2
          refine sw_in (tgt := 60) (off := 48) hx hb dX11_friend_12 s12_2 (by decide) (by decide) (by decide) (by decide) ?_
          refine lv_aload_n hx hb dX11_friend_60 rfl (lv_at hl 0 rfl) ?_
          refine lv_iload_n hx hb dX11_friend_61 rfl (lv_at hl 1 rfl) ?_
          refine af_i hW (rn_V X hW (As := [.int a1]) (rest := []) (okS hW sc0_0) rfl rfl (kX11_howManyMindMuch h) mbX11_howManyMindMuch tw451 tw453 tp7 rfl hl.1 (Nat.le_of_ble_eq_true rfl) ⟨(Nat.le_of_ble_eq_true rfl), (Nat.le_of_ble_eq_true rfl)⟩ dX11_friend_62) (fun r62 I62 J62 H locs h hW => ?_)
          exact e_i X hW h dX11_friend_65
        · have h := h.2 s12_2
          have z12 : Int32.toInt a2 < 0 ∨ 2 < Int32.toInt a2 := by
            have := ne_ti s12_0 (a := 0) (by decide)
            have := ne_ti s12_1 (a := 1) (by decide)
            have := ne_ti s12_2 (a := 2) (by decide)
            omega
          refine lv_tableOut (tgt := 66) hx hb dX11_friend_12 z12 (by decide) ?_
          refine lv_bipush (v := (-102)) hx hb dX11_friend_66 (by decide) ?_
          exact e_i X hW h dX11_friend_68
  · have h := h.2 c5
    refine lv_bipush (v := (-101)) hx hb dX11_friend_8 (by decide) ?_
    exact e_i X hW h dX11_friend_10
def wX11_everybody (g : GS) (I : MI) (J : MJ) (Q : Int32 → MI → MJ → Prop) : Prop :=
  Q ((1 <<< ((I 0 0 10) &&& 31)) - 1) I J
theorem mbX11_everybody : MB yX11_everybody cX11_everybody 1 ((Option.some FieldType.int)) 0 := ⟨tw476, tw1, ⟨by decide, by decide⟩, by decide +kernel, by decide +kernel⟩
set_option maxHeartbeats 4000000 in
set_option maxRecDepth 100000 in
theorem kX11_everybody {l : Launch} {E : WE} {I : MI} {J : MJ} {Q : Int32 → MI → MJ → Prop} (h : wX11_everybody (wg E) I J Q) : Met l yX11_everybody (wsM yX11_everybody cX11_everybody 1 ((Option.some FieldType.int))) (rmO 0 0) (va_Pc [.ref (wa E 0 0)] (Wp E I J)) (QI E Q) 0 0 (AA E) := by
  refine m_entry mbX11_everybody (Nat.le_of_ble_eq_true rfl) ?_
  intro p e s m args below meth c X ls hW hl
  have X : Cx E cX11_everybody 1 RX11 ((Option.some FieldType.int)) p s m args c meth := X
  have hx := X.1.1
  have hb := X.1.2.1
  have hl : lv_has ls 1 [(0, .ref (wa E 0 0))] := hl
  refine lv_iconst (v := 1) hx hb dX11_everybody_0 (by decide) ?_
  refine lv_aload_n hx hb dX11_everybody_1 rfl (lv_at hl 0 rfl) ?_
  refine r_get X hW 10 (okS hW sc0_0) rfl rfl inX11 (Nat.le_of_ble_eq_true rfl) tw142 rfl dX11_everybody_2 ?_
  refine lv_ishl hx hb dX11_everybody_5 ?_
  refine lv_iconst (v := 1) hx hb dX11_everybody_6 (by decide) ?_
  refine lv_isub hx hb dX11_everybody_7 ?_
  exact e_i X hW h dX11_everybody_8
def wX11_areComers (g : GS) (a1 : Int32) (I : MI) (J : MJ) (Q : Int32 → MI → MJ → Prop) : Prop :=
  ((a1 ≤ 0 → Q 0 I J) ∧ (¬ a1 ≤ 0 → wX11_everybody g I J (fun r6 I6 J6 => ((r6 < a1 → Q 0 I6 J6) ∧ (¬ r6 < a1 → Q 1 I6 J6)))))
theorem mbX11_areComers : MB yX11_areComers cX11_areComers 2 ((Option.some FieldType.boolean)) 1 := ⟨tw472, tw1, ⟨by decide, by decide⟩, by decide +kernel, by decide +kernel⟩
set_option maxHeartbeats 4000000 in
set_option maxRecDepth 100000 in
theorem kX11_areComers {l : Launch} {E : WE} {a1 : Int32} {I : MI} {J : MJ} {Q : Int32 → MI → MJ → Prop} (h : wX11_areComers (wg E) a1 I J Q) : Met l yX11_areComers (wsM yX11_areComers cX11_areComers 2 ((Option.some FieldType.boolean))) (rmO 1 20) (va_Pc [.ref (wa E 0 0), .int a1] (Wp E I J)) (QI E Q) 0 0 (AA E) := by
  refine m_entry mbX11_areComers (Nat.le_of_ble_eq_true rfl) ?_
  intro p e s m args below meth c X ls hW hl
  have X : Cx E cX11_areComers 2 RX11 ((Option.some FieldType.boolean)) p s m args c meth := X
  have hx := X.1.1
  have hb := X.1.2.1
  have hl : lv_has ls 2 [(0, .ref (wa E 0 0)), (1, .int a1)] := hl
  refine lv_iload_n hx hb dX11_areComers_0 rfl (lv_at hl 1 rfl) ?_
  refine lv_if_le (tgt := 16) hx hb dX11_areComers_1 (by decide) (fun c1 => ?_) (fun c1 => ?_)
  · have h := h.1 c1
    refine lv_iconst (v := 0) hx hb dX11_areComers_16 (by decide) ?_
    exact e_z X hW rfl h dX11_areComers_17
  · have h := h.2 c1
    refine lv_iload_n hx hb dX11_areComers_4 rfl (lv_at hl 1 rfl) ?_
    refine lv_aload_n hx hb dX11_areComers_5 rfl (lv_at hl 0 rfl) ?_
    refine af_i hW (rn_V X hW (As := []) (rest := [.int a1]) (okS hW sc0_0) rfl rfl (kX11_everybody h) mbX11_everybody tw473 tw475 tp9 rfl hl.1 (Nat.le_of_ble_eq_true rfl) ⟨(Nat.le_of_ble_eq_true rfl), (Nat.le_of_ble_eq_true rfl)⟩ dX11_areComers_6) (fun r6 I6 J6 H locs h hW => ?_)
    refine lv_icmp_gt (tgt := 16) hx hb dX11_areComers_9 (by decide) (fun c9 => ?_) (fun c9 => ?_)
    · have h := h.1 c9
      refine lv_iconst (v := 0) hx hb dX11_areComers_16 (by decide) ?_
      exact e_z X hW rfl h dX11_areComers_17
    · have h := h.2 c9
      refine lv_iconst (v := 1) hx hb dX11_areComers_12 (by decide) ?_
      refine lv_goto (tgt := 17) hx hb dX11_areComers_13 (by decide) ?_
      exact e_z X hW rfl h dX11_areComers_17
def wX11_blackOf (g : GS) (a1 : Nat) (a2 : Int32) (a3 : Int32) (I : MI) (J : MJ) (Q : Int32 → MI → MJ → Prop) : Prop :=
  wX11_friendOf g a2 I J (fun r4 I4 J4 => wX5_blackFor g a1 a2 r4 a3 I4 J4 (fun r8 I8 J8 => Q r8 I8 J8))
theorem mbX11_blackOf : MB yX11_blackOf cX11_blackOf 4 ((Option.some FieldType.int)) 3 := ⟨tw492, tw1, ⟨by decide, by decide⟩, by decide +kernel, by decide +kernel⟩
set_option maxHeartbeats 4000000 in
set_option maxRecDepth 100000 in
theorem kX11_blackOf {l : Launch} {E : WE} {a1 : Nat} {a2 : Int32} {a3 : Int32} {I : MI} {J : MJ} {Q : Int32 → MI → MJ → Prop} (hp_a1 : a1 < (wg E).2.1) (h : wX11_blackOf (wg E) a1 a2 a3 I J Q) : Met l yX11_blackOf (wsM yX11_blackOf cX11_blackOf 4 ((Option.some FieldType.int))) (rmO 3 66) (va_Pc [.ref (wa E 0 0), .ref (wa E 40 a1), .int a2, .int a3] (Wp E I J)) (QI E Q) 0 0 (AA E) := by
  refine m_entry mbX11_blackOf (Nat.le_of_ble_eq_true rfl) ?_
  intro p e s m args below meth c X ls hW hl
  have X : Cx E cX11_blackOf 4 RX11 ((Option.some FieldType.int)) p s m args c meth := X
  have hx := X.1.1
  have hb := X.1.2.1
  have hl : lv_has ls 4 [(0, .ref (wa E 0 0)), (1, .ref (wa E 40 a1)), (2, .int a2), (3, .int a3)] := hl
  refine lv_aload_n hx hb dX11_blackOf_0 rfl (lv_at hl 1 rfl) ?_
  refine lv_iload_n hx hb dX11_blackOf_1 rfl (lv_at hl 2 rfl) ?_
  refine lv_aload_n hx hb dX11_blackOf_2 rfl (lv_at hl 0 rfl) ?_
  refine lv_iload_n hx hb dX11_blackOf_3 rfl (lv_at hl 2 rfl) ?_
  refine af_i hW (rn_V X hW (As := [.int a2]) (rest := [.int a2, .ref (wa E 40 a1)]) (okS hW sc0_0) rfl rfl (kX11_friendOf h) mbX11_friendOf tw443 tw445 tp5 rfl hl.1 (Nat.le_of_ble_eq_true rfl) ⟨(Nat.le_of_ble_eq_true rfl), (Nat.le_of_ble_eq_true rfl)⟩ dX11_blackOf_4) (fun r4 I4 J4 H locs h hW => ?_)
  refine lv_iload_n hx hb dX11_blackOf_7 rfl (lv_at hl 3 rfl) ?_
  refine af_i hW (rn_P X hW (As := [.int a2, .int r4, .int a3]) (rest := []) hp_a1 (kX5_blackFor hp_a1 h) mbX5_blackFor tw493 tw494 tw497 tw498 tw499 tw500 tw495 rfl hl.1 (Nat.le_of_ble_eq_true rfl) ⟨(Nat.le_of_ble_eq_true rfl), (Nat.le_of_ble_eq_true rfl)⟩ dX11_blackOf_8) (fun r8 I8 J8 H locs h hW => ?_)
  exact e_i X hW h dX11_blackOf_11
def wX11_isOneOf (g : GS) (a0 : Int32) (a1 : Int32) (I : MI) (J : MJ) (Q : Int32 → MI → MJ → Prop) : Prop :=
  ((a1 < 0 → Q 0 I J) ∧ (¬ a1 < 0 → ((8 ≤ a1 → Q 0 I J) ∧ (¬ 8 ≤ a1 → ((¬ ((a0 >>> (a1 &&& 31)) &&& 1) = 1 → Q 0 I J) ∧ (((a0 >>> (a1 &&& 31)) &&& 1) = 1 → Q 1 I J))))))
theorem mbX11_isOneOf : MB yX11_isOneOf cX11_isOneOf 2 ((Option.some FieldType.boolean)) 2 := ⟨tw479, tw1, ⟨by decide, by decide⟩, by decide +kernel, by decide +kernel⟩
set_option maxHeartbeats 4000000 in
set_option maxRecDepth 100000 in
theorem kX11_isOneOf {l : Launch} {E : WE} {a0 : Int32} {a1 : Int32} {I : MI} {J : MJ} {Q : Int32 → MI → MJ → Prop} (h : wX11_isOneOf (wg E) a0 a1 I J Q) : Met l yX11_isOneOf (wsM yX11_isOneOf cX11_isOneOf 2 ((Option.some FieldType.boolean))) (rmO 0 0) (va_Pc [.int a0, .int a1] (Wp E I J)) (QI E Q) 0 0 (AA E) := by
  refine m_entry mbX11_isOneOf (Nat.le_of_ble_eq_true rfl) ?_
  intro p e s m args below meth c X ls hW hl
  have X : Cx E cX11_isOneOf 2 RX11 ((Option.some FieldType.boolean)) p s m args c meth := X
  have hx := X.1.1
  have hb := X.1.2.1
  have hl : lv_has ls 2 [(0, .int a0), (1, .int a1)] := hl
  refine lv_iload_n hx hb dX11_isOneOf_0 rfl (lv_at hl 1 rfl) ?_
  refine lv_if_lt (tgt := 23) hx hb dX11_isOneOf_1 (by decide) (fun c1 => ?_) (fun c1 => ?_)
  · have h := h.1 c1
    refine lv_iconst (v := 0) hx hb dX11_isOneOf_23 (by decide) ?_
    exact e_z X hW rfl h dX11_isOneOf_24
  · have h := h.2 c1
    refine lv_iload_n hx hb dX11_isOneOf_4 rfl (lv_at hl 1 rfl) ?_
    refine lv_bipush (v := 8) hx hb dX11_isOneOf_5 (by decide) ?_
    refine lv_icmp_ge (tgt := 23) hx hb dX11_isOneOf_7 (by decide) (fun c7 => ?_) (fun c7 => ?_)
    · have h := h.1 c7
      refine lv_iconst (v := 0) hx hb dX11_isOneOf_23 (by decide) ?_
      exact e_z X hW rfl h dX11_isOneOf_24
    · have h := h.2 c7
      refine lv_iload_n hx hb dX11_isOneOf_10 rfl (lv_at hl 0 rfl) ?_
      refine lv_iload_n hx hb dX11_isOneOf_11 rfl (lv_at hl 1 rfl) ?_
      refine lv_ishr hx hb dX11_isOneOf_12 ?_
      refine lv_iconst (v := 1) hx hb dX11_isOneOf_13 (by decide) ?_
      refine lv_iand hx hb dX11_isOneOf_14 ?_
      refine lv_iconst (v := 1) hx hb dX11_isOneOf_15 (by decide) ?_
      refine lv_icmp_ne (tgt := 23) hx hb dX11_isOneOf_16 (by decide) (fun c16 => ?_) (fun c16 => ?_)
      · have h := h.1 c16
        refine lv_iconst (v := 0) hx hb dX11_isOneOf_23 (by decide) ?_
        exact e_z X hW rfl h dX11_isOneOf_24
      · have h := h.2 c16
        refine lv_iconst (v := 1) hx hb dX11_isOneOf_19 (by decide) ?_
        refine lv_goto (tgt := 24) hx hb dX11_isOneOf_20 (by decide) ?_
        exact e_z X hW rfl h dX11_isOneOf_24
def wX11_isWatched (g : GS) (a0 : Nat) (a1 : Int32) (I : MI) (J : MJ) (Q : Int32 → MI → MJ → Prop) : Prop :=
  ((¬ (I 43 a0 4) = 0 → Q 1 I J) ∧ ((I 43 a0 4) = 0 → wJ6_bitCount_0f7a4 g a1 I J (fun r8 I8 J8 => ((4 ≤ r8 → Q 0 I8 J8) ∧ (¬ 4 ≤ r8 → Q 1 I8 J8)))))
theorem mbX11_isWatched : MB yX11_isWatched cX11_isWatched 2 ((Option.some FieldType.boolean)) 2 := ⟨tw482, tw1, ⟨by decide, by decide⟩, by decide +kernel, by decide +kernel⟩
set_option maxHeartbeats 4000000 in
set_option maxRecDepth 100000 in
theorem kX11_isWatched {l : Launch} {E : WE} {a0 : Nat} {a1 : Int32} {I : MI} {J : MJ} {Q : Int32 → MI → MJ → Prop} (hp_a0 : a0 < (wg E).2.2) (h : wX11_isWatched (wg E) a0 a1 I J Q) : Met l yX11_isWatched (wsM yX11_isWatched cX11_isWatched 2 ((Option.some FieldType.boolean))) (rmO 1 20) (va_Pc [.ref (wa E 43 a0), .int a1] (Wp E I J)) (QI E Q) 0 0 (AA E) := by
  refine m_entry mbX11_isWatched (Nat.le_of_ble_eq_true rfl) ?_
  intro p e s m args below meth c X ls hW hl
  have X : Cx E cX11_isWatched 2 RX11 ((Option.some FieldType.boolean)) p s m args c meth := X
  have hx := X.1.1
  have hb := X.1.2.1
  have hl : lv_has ls 2 [(0, .ref (wa E 43 a0)), (1, .int a1)] := hl
  refine lv_aload_n hx hb dX11_isWatched_0 rfl (lv_at hl 0 rfl) ?_
  refine r_getN X hW 4 (okR hW hp_a0) rfl rfl inX6 (Nat.le_of_ble_eq_true rfl) nw242 rfl dX11_isWatched_1 ?_
  refine lv_if_ne (tgt := 15) hx hb dX11_isWatched_4 (by decide) (fun c4 => ?_) (fun c4 => ?_)
  · have h := h.1 c4
    refine lv_iconst (v := 1) hx hb dX11_isWatched_15 (by decide) ?_
    refine lv_goto (tgt := 20) hx hb dX11_isWatched_16 (by decide) ?_
    exact e_z X hW rfl h dX11_isWatched_20
  · have h := h.2 c4
    refine lv_iload_n hx hb dX11_isWatched_7 rfl (lv_at hl 1 rfl) ?_
    refine af_i hW (rn_S X hW (As := [.int a1]) (rest := []) (kJ6_bitCount_0f7a4 h) mbJ6_bitCount_0f7a4 tw483 tw484 rfl hl.1 (Nat.le_of_ble_eq_true rfl) ⟨(Nat.le_of_ble_eq_true rfl), (Nat.le_of_ble_eq_true rfl)⟩ dX11_isWatched_8) (fun r8 I8 J8 H locs h hW => ?_)
    refine lv_iconst (v := 4) hx hb dX11_isWatched_11 (by decide) ?_
    refine lv_icmp_ge (tgt := 19) hx hb dX11_isWatched_12 (by decide) (fun c12 => ?_) (fun c12 => ?_)
    · have h := h.1 c12
      refine lv_iconst (v := 0) hx hb dX11_isWatched_19 (by decide) ?_
      exact e_z X hW rfl h dX11_isWatched_20
    · have h := h.2 c12
      refine lv_iconst (v := 1) hx hb dX11_isWatched_15 (by decide) ?_
      refine lv_goto (tgt := 20) hx hb dX11_isWatched_16 (by decide) ?_
      exact e_z X hW rfl h dX11_isWatched_20
def wX11_black (g : GS) (a1 : Int32) (a2 : Int32) (a3 : Int32) (a4 : Int32) (I : MI) (J : MJ) (Q : Int32 → MI → MJ → Prop) : Prop :=
  wX11_ruleAt g a1 I J (fun o2 I2 J2 => (o2 = none → wX11_personAt g a4 I2 J2 (fun o10 I10 J10 => (o10 = none → Q ((-101)) I10 J10) ∧ (∀ r10, o10 = some r10 → Q ((-101)) I10 J10))) ∧ (∀ r2, o2 = some r2 → wX11_personAt g a4 I2 J2 (fun o10 I10 J10 => (o10 = none → Q ((-101)) I10 J10) ∧ (∀ r10, o10 = some r10 → wX11_isCandidate g a2 I10 J10 (fun r27 I27 J27 => ((¬ r27 = 0 → wX11_areComers g a3 I27 J27 (fun r38 I38 J38 => ((r38 = 0 → Q ((-102)) I38 J38) ∧ (¬ r38 = 0 → wX11_isOneOf g a3 a4 I38 J38 (fun r47 I47 J47 => ((¬ r47 = 0 → wX11_isWatched g r2 a3 I47 J47 (fun r63 I63 J63 => wX11_blackOf g r10 a2 r63 I63 J63 (fun r66 I66 J66 => Q r66 I66 J66))) ∧ (r47 = 0 → Q ((-102)) I47 J47))))))) ∧ (r27 = 0 → Q ((-101)) I27 J27)))))))
theorem mbX11_black : MB yX11_black cX11_black 7 ((Option.some FieldType.int)) 4 := ⟨tw468, tw1, ⟨by decide, by decide⟩, by decide +kernel, by decide +kernel⟩
set_option maxHeartbeats 4000000 in
set_option maxRecDepth 100000 in
theorem kX11_black {l : Launch} {E : WE} {a1 : Int32} {a2 : Int32} {a3 : Int32} {a4 : Int32} {I : MI} {J : MJ} {Q : Int32 → MI → MJ → Prop} (h : wX11_black (wg E) a1 a2 a3 a4 I J Q) : Met l yX11_black (wsM yX11_black cX11_black 7 ((Option.some FieldType.int))) (rmO 4 89) (va_Pc [.ref (wa E 0 0), .int a1, .int a2, .int a3, .int a4] (Wp E I J)) (QI E Q) 0 0 (AA E) := by
  refine m_entry mbX11_black (Nat.le_of_ble_eq_true rfl) ?_
  intro p e s m args below meth c X ls hW hl
  have X : Cx E cX11_black 7 RX11 ((Option.some FieldType.int)) p s m args c meth := X
  have hx := X.1.1
  have hb := X.1.2.1
  have hl : lv_has ls 7 [(0, .ref (wa E 0 0)), (1, .int a1), (2, .int a2), (3, .int a3), (4, .int a4)] := hl
  refine lv_aload_n hx hb dX11_black_0 rfl (lv_at hl 0 rfl) ?_
  refine lv_iload_n hx hb dX11_black_1 rfl (lv_at hl 1 rfl) ?_
  refine af_r hW (rn_V X hW (As := [.int a1]) (rest := []) (okS hW sc0_0) rfl rfl (kX11_ruleAt h) mbX11_ruleAt tw258 tw260 tp1 rfl hl.1 (Nat.le_of_ble_eq_true rfl) ⟨(Nat.le_of_ble_eq_true rfl), (Nat.le_of_ble_eq_true rfl)⟩ dX11_black_2) (fun I2 J2 H locs h hW => ?_) (fun r2 I2 J2 H locs c2 h hW => ?_)
  · have h := h.1 rfl
    refine lv_astoreN (lv' := [(5, .null), (0, .ref (wa E 0 0)), (1, .int a1), (2, .int a2), (3, .int a3), (4, .int a4)]) hx hb dX11_black_5 hl (by decide) rfl (fun ls hl => ?_)
    refine lv_aload_n hx hb dX11_black_7 rfl (lv_at hl 1 rfl) ?_
    refine lv_iload hx hb dX11_black_8 (lv_at hl 5 rfl) ?_
    refine af_r hW (rn_V X hW (As := [.int a4]) (rest := []) (okS hW sc0_0) rfl rfl (kX11_personAt h) mbX11_personAt tw271 tw273 tp2 rfl hl.1 (Nat.le_of_ble_eq_true rfl) ⟨(Nat.le_of_ble_eq_true rfl), (Nat.le_of_ble_eq_true rfl)⟩ dX11_black_10) (fun I10 J10 H locs h hW => ?_) (fun r10 I10 J10 H locs c10 h hW => ?_)
    · have h := h.1 rfl
      refine lv_astoreN (lv' := [(6, .null), (5, .null), (0, .ref (wa E 0 0)), (1, .int a1), (2, .int a2), (3, .int a3), (4, .int a4)]) hx hb dX11_black_13 hl (by decide) rfl (fun ls hl => ?_)
      refine lv_aloadN hx hb dX11_black_15 (lv_at hl 1 rfl) ?_
      refine lv_ifnullN (tgt := 33) hx hb dX11_black_17 (by decide) ?_
      refine lv_bipush (v := (-101)) hx hb dX11_black_33 (by decide) ?_
      exact e_i X hW h dX11_black_35
    · have h := h.2 r10 rfl
      refine lv_astore (lv' := [(6, .ref (wa E 40 r10)), (5, .null), (0, .ref (wa E 0 0)), (1, .int a1), (2, .int a2), (3, .int a3), (4, .int a4)]) hx hb dX11_black_13 hl (by decide) rfl (fun ls hl => ?_)
      refine lv_aloadN hx hb dX11_black_15 (lv_at hl 1 rfl) ?_
      refine lv_ifnullN (tgt := 33) hx hb dX11_black_17 (by decide) ?_
      refine lv_bipush (v := (-101)) hx hb dX11_black_33 (by decide) ?_
      exact e_i X hW h dX11_black_35
  · have h := h.2 r2 rfl
    refine lv_astore (lv' := [(5, .ref (wa E 43 r2)), (0, .ref (wa E 0 0)), (1, .int a1), (2, .int a2), (3, .int a3), (4, .int a4)]) hx hb dX11_black_5 hl (by decide) rfl (fun ls hl => ?_)
    refine lv_aload_n hx hb dX11_black_7 rfl (lv_at hl 1 rfl) ?_
    refine lv_iload hx hb dX11_black_8 (lv_at hl 5 rfl) ?_
    refine af_r hW (rn_V X hW (As := [.int a4]) (rest := []) (okS hW sc0_0) rfl rfl (kX11_personAt h) mbX11_personAt tw271 tw273 tp2 rfl hl.1 (Nat.le_of_ble_eq_true rfl) ⟨(Nat.le_of_ble_eq_true rfl), (Nat.le_of_ble_eq_true rfl)⟩ dX11_black_10) (fun I10 J10 H locs h hW => ?_) (fun r10 I10 J10 H locs c10 h hW => ?_)
    · have h := h.1 rfl
      refine lv_astoreN (lv' := [(6, .null), (5, .ref (wa E 43 r2)), (0, .ref (wa E 0 0)), (1, .int a1), (2, .int a2), (3, .int a3), (4, .int a4)]) hx hb dX11_black_13 hl (by decide) rfl (fun ls hl => ?_)
      refine lv_aload hx hb dX11_black_15 (lv_at hl 1 rfl) ?_
      refine lv_ifnull hx hb dX11_black_17 ?_
      refine lv_aloadN hx hb dX11_black_20 (lv_at hl 0 rfl) ?_
      refine lv_ifnullN (tgt := 33) hx hb dX11_black_22 (by decide) ?_
      refine lv_bipush (v := (-101)) hx hb dX11_black_33 (by decide) ?_
      exact e_i X hW h dX11_black_35
    · have h := h.2 r10 rfl
      refine lv_astore (lv' := [(6, .ref (wa E 40 r10)), (5, .ref (wa E 43 r2)), (0, .ref (wa E 0 0)), (1, .int a1), (2, .int a2), (3, .int a3), (4, .int a4)]) hx hb dX11_black_13 hl (by decide) rfl (fun ls hl => ?_)
      refine lv_aload hx hb dX11_black_15 (lv_at hl 1 rfl) ?_
      refine lv_ifnull hx hb dX11_black_17 ?_
      refine lv_aload hx hb dX11_black_20 (lv_at hl 0 rfl) ?_
      refine lv_ifnull hx hb dX11_black_22 ?_
      refine lv_aload_n hx hb dX11_black_25 rfl (lv_at hl 2 rfl) ?_
      refine lv_iload_n hx hb dX11_black_26 rfl (lv_at hl 4 rfl) ?_
      refine af_i hW (rn_V X hW (As := [.int a2]) (rest := []) (okS hW sc0_0) rfl rfl (kX11_isCandidate h) mbX11_isCandidate tw417 tw419 tp4 rfl hl.1 (Nat.le_of_ble_eq_true rfl) ⟨(Nat.le_of_ble_eq_true rfl), (Nat.le_of_ble_eq_true rfl)⟩ dX11_black_27) (fun r27 I27 J27 H locs h hW => ?_)
      refine lv_if_ne (tgt := 36) hx hb dX11_black_30 (by decide) (fun c30 => ?_) (fun c30 => ?_)
      · have h := h.1 c30
        refine lv_aload_n hx hb dX11_black_36 rfl (lv_at hl 2 rfl) ?_
        refine lv_iload_n hx hb dX11_black_37 rfl (lv_at hl 5 rfl) ?_
        refine af_i hW (rn_V X hW (As := [.int a3]) (rest := []) (okS hW sc0_0) rfl rfl (kX11_areComers h) mbX11_areComers tw469 tw471 tp8 rfl hl.1 (Nat.le_of_ble_eq_true rfl) ⟨(Nat.le_of_ble_eq_true rfl), (Nat.le_of_ble_eq_true rfl)⟩ dX11_black_38) (fun r38 I38 J38 H locs h hW => ?_)
        refine lv_if_eq (tgt := 53) hx hb dX11_black_41 (by decide) (fun c41 => ?_) (fun c41 => ?_)
        · have h := h.1 c41
          refine lv_bipush (v := (-102)) hx hb dX11_black_53 (by decide) ?_
          exact e_i X hW h dX11_black_55
        · have h := h.2 c41
          refine lv_iload_n hx hb dX11_black_44 rfl (lv_at hl 5 rfl) ?_
          refine lv_iload hx hb dX11_black_45 (lv_at hl 6 rfl) ?_
          refine af_i hW (rn_S X hW (As := [.int a3, .int a4]) (rest := []) (kX11_isOneOf h) mbX11_isOneOf tw477 tw478 rfl hl.1 (Nat.le_of_ble_eq_true rfl) ⟨(Nat.le_of_ble_eq_true rfl), (Nat.le_of_ble_eq_true rfl)⟩ dX11_black_47) (fun r47 I47 J47 H locs h hW => ?_)
          refine lv_if_ne (tgt := 56) hx hb dX11_black_50 (by decide) (fun c50 => ?_) (fun c50 => ?_)
          · have h := h.1 c50
            refine lv_aload_n hx hb dX11_black_56 rfl (lv_at hl 2 rfl) ?_
            refine lv_aload hx hb dX11_black_57 (lv_at hl 0 rfl) ?_
            refine lv_iload_n hx hb dX11_black_59 rfl (lv_at hl 4 rfl) ?_
            refine lv_aload hx hb dX11_black_60 (lv_at hl 1 rfl) ?_
            refine lv_iload_n hx hb dX11_black_62 rfl (lv_at hl 5 rfl) ?_
            refine af_i hW (rn_S X hW (As := [.ref (wa E 43 r2), .int a3]) (rest := [.int a2, .ref (wa E 40 r10), .ref (wa E 0 0)]) (kX11_isWatched c2 h) mbX11_isWatched tw480 tw481 rfl hl.1 (Nat.le_of_ble_eq_true rfl) ⟨(Nat.le_of_ble_eq_true rfl), (Nat.le_of_ble_eq_true rfl)⟩ dX11_black_63) (fun r63 I63 J63 H locs h hW => ?_)
            refine af_i hW (rn_V X hW (As := [.ref (wa E 40 r10), .int a2, .int r63]) (rest := []) (okS hW sc0_0) rfl rfl (kX11_blackOf c10 h) mbX11_blackOf tw489 tw491 tp10 rfl hl.1 (Nat.le_of_ble_eq_true rfl) ⟨(Nat.le_of_ble_eq_true rfl), (Nat.le_of_ble_eq_true rfl)⟩ dX11_black_66) (fun r66 I66 J66 H locs h hW => ?_)
            exact e_i X hW h dX11_black_69
          · have h := h.2 c50
            refine lv_bipush (v := (-102)) hx hb dX11_black_53 (by decide) ?_
            exact e_i X hW h dX11_black_55
      · have h := h.2 c30
        refine lv_bipush (v := (-101)) hx hb dX11_black_33 (by decide) ?_
        exact e_i X hW h dX11_black_35
def wX11_isPart (g : GS) (a0 : Int32) (I : MI) (J : MJ) (Q : Int32 → MI → MJ → Prop) : Prop :=
  ((a0 = 0 → Q 1 I J) ∧ (¬ a0 = 0 → ((¬ a0 = 1 → Q 0 I J) ∧ (a0 = 1 → Q 1 I J))))
theorem mbX11_isPart : MB yX11_isPart cX11_isPart 1 ((Option.some FieldType.boolean)) 1 := ⟨tw529, tw1, ⟨by decide, by decide⟩, by decide +kernel, by decide +kernel⟩
set_option maxHeartbeats 4000000 in
set_option maxRecDepth 100000 in
theorem kX11_isPart {l : Launch} {E : WE} {a0 : Int32} {I : MI} {J : MJ} {Q : Int32 → MI → MJ → Prop} (h : wX11_isPart (wg E) a0 I J Q) : Met l yX11_isPart (wsM yX11_isPart cX11_isPart 1 ((Option.some FieldType.boolean))) (rmO 0 0) (va_Pc [.int a0] (Wp E I J)) (QI E Q) 0 0 (AA E) := by
  refine m_entry mbX11_isPart (Nat.le_of_ble_eq_true rfl) ?_
  intro p e s m args below meth c X ls hW hl
  have X : Cx E cX11_isPart 1 RX11 ((Option.some FieldType.boolean)) p s m args c meth := X
  have hx := X.1.1
  have hb := X.1.2.1
  have hl : lv_has ls 1 [(0, .int a0)] := hl
  refine lv_iload_n hx hb dX11_isPart_0 rfl (lv_at hl 0 rfl) ?_
  refine lv_if_eq (tgt := 9) hx hb dX11_isPart_1 (by decide) (fun c1 => ?_) (fun c1 => ?_)
  · have h := h.1 c1
    refine lv_iconst (v := 1) hx hb dX11_isPart_9 (by decide) ?_
    refine lv_goto (tgt := 14) hx hb dX11_isPart_10 (by decide) ?_
    exact e_z X hW rfl h dX11_isPart_14
  · have h := h.2 c1
    refine lv_iload_n hx hb dX11_isPart_4 rfl (lv_at hl 0 rfl) ?_
    refine lv_iconst (v := 1) hx hb dX11_isPart_5 (by decide) ?_
    refine lv_icmp_ne (tgt := 13) hx hb dX11_isPart_6 (by decide) (fun c6 => ?_) (fun c6 => ?_)
    · have h := h.1 c6
      refine lv_iconst (v := 0) hx hb dX11_isPart_13 (by decide) ?_
      exact e_z X hW rfl h dX11_isPart_14
    · have h := h.2 c6
      refine lv_iconst (v := 1) hx hb dX11_isPart_9 (by decide) ?_
      refine lv_goto (tgt := 14) hx hb dX11_isPart_10 (by decide) ?_
      exact e_z X hW rfl h dX11_isPart_14
def wX11_commonDivisor_b9 (g : GS) (Q : Int64 → MI → MJ → Prop) : Nat → Int64 → Int64 → Int32 → MI → MJ → Prop
  | 0, _, _, _, _, _ => False
  | n + 1, v4, v6, v8, I, J => ((1000 ≤ v8 → Q v4 I J) ∧ (¬ 1000 ≤ v8 → (((lg_cmp v6 0) = 0 → Q v4 I J) ∧ (¬ (lg_cmp v6 0) = 0 → ¬ v6 = 0 ∧ (wX11_commonDivisor_b9 g Q n v6 (v4 - v4 / v6 * v6) (v8 + 1) I J)))))
set_option maxHeartbeats 4000000 in
set_option maxRecDepth 100000 in
theorem bX11_commonDivisor_9 {p : Program} {l : Launch} {e : Env} {s : State} {m : MethodId} {args : Array Value} {below : List Frame} {meth : Method} {c : Code} {E : WE} {Q : Int64 → MI → MJ → Prop} (X : Cx E cX11_commonDivisor 11 RX11 ((Option.some FieldType.long)) p s m args c meth) (n : Nat) : ∀ (v4 : Int64) (v6 : Int64) (v8 : Int32) (I : MI) (J : MJ) (H : Heap) (locs : List Loc) (ls : Array Slot), wX11_commonDivisor_b9 (wg E) Q n v4 v6 v8 I J → Wd E I J s H locs → lv_has ls 11 [(4, .long v4), (6, .long v6), (8, .int v8)] → W p l e (rmO 0 0) s m args below meth c H locs 0 0 (MQ below (QL E Q) args s 0 0 (AA E)) (F0 m 9 ls []) := by
  have hx := X.1.1
  have hb := X.1.2.1
  induction n with
  | zero => intro v4 v6 v8 I J H locs ls h hW hl; exact h.elim
  | succ n ih =>
    intro v4 v6 v8 I J H locs ls h hW hl
    refine lv_iload hx hb dX11_commonDivisor_9 (lv_at hl 2 rfl) ?_
    refine lv_sipush (v := 1000) hx hb dX11_commonDivisor_11 (by decide) ?_
    refine lv_icmp_ge (tgt := 45) hx hb dX11_commonDivisor_14 (by decide) (fun c14 => ?_) (fun c14 => ?_)
    · have h := h.1 c14
      refine lv_lload hx hb dX11_commonDivisor_45 (lv_at hl 0 rfl) ?_
      exact e_l X hW h dX11_commonDivisor_47
    · have h := h.2 c14
      refine lv_lload hx hb dX11_commonDivisor_17 (lv_at hl 1 rfl) ?_
      refine lv_lconst (v := 0) hx hb dX11_commonDivisor_19 (by decide) ?_
      refine W.lcmp hx hb dX11_commonDivisor_20 ?_
      refine lv_if_eq (tgt := 45) hx hb dX11_commonDivisor_21 (by decide) (fun c21 => ?_) (fun c21 => ?_)
      · have h := h.1 c21
        refine lv_lload hx hb dX11_commonDivisor_45 (lv_at hl 0 rfl) ?_
        exact e_l X hW h dX11_commonDivisor_47
      · have h := h.2 c21
        refine lv_lload hx hb dX11_commonDivisor_24 (lv_at hl 0 rfl) ?_
        refine lv_lload hx hb dX11_commonDivisor_26 (lv_at hl 1 rfl) ?_
        refine lv_lrem hx hb dX11_commonDivisor_28 h.1 ?_
        have h := h.2
        refine lv_lstore (lv' := [(9, .long (v4 - v4 / v6 * v6)), (4, .long v4), (6, .long v6), (8, .int v8)]) hx hb dX11_commonDivisor_29 hl (by decide) rfl (fun ls hl => ?_)
        refine lv_lload hx hb dX11_commonDivisor_31 (lv_at hl 2 rfl) ?_
        refine lv_lstore (lv' := [(4, .long v6), (9, .long (v4 - v4 / v6 * v6)), (6, .long v6), (8, .int v8)]) hx hb dX11_commonDivisor_33 hl (by decide) rfl (fun ls hl => ?_)
        refine lv_lload hx hb dX11_commonDivisor_35 (lv_at hl 1 rfl) ?_
        refine lv_lstore (lv' := [(6, .long (v4 - v4 / v6 * v6)), (4, .long v6), (9, .long (v4 - v4 / v6 * v6)), (8, .int v8)]) hx hb dX11_commonDivisor_37 hl (by decide) rfl (fun ls hl => ?_)
        refine lv_iinc (v := v8 + 1) (lv' := [(8, .int (v8 + 1)), (6, .long (v4 - v4 / v6 * v6)), (4, .long v6), (9, .long (v4 - v4 / v6 * v6))]) hx hb dX11_commonDivisor_39 hl (k := 3) rfl rfl (by decide) rfl (fun ls hl => ?_)
        refine lv_goto (tgt := 9) hx hb dX11_commonDivisor_42 (by decide) ?_
        exact ih v6 (v4 - v4 / v6 * v6) (v8 + 1) _ _ _ _ _  h hW (lv_sub hl [2, 1, 0] rfl)
def wX11_commonDivisor (g : GS) (a0 : Int64) (a2 : Int64) (I : MI) (J : MJ) (Q : Int64 → MI → MJ → Prop) : Prop :=
  ∃ n9, wX11_commonDivisor_b9 g Q n9 a0 a2 0 I J
theorem mbX11_commonDivisor : MB yX11_commonDivisor cX11_commonDivisor 11 ((Option.some FieldType.long)) 2 := ⟨tw556, tw1, ⟨by decide, by decide⟩, by decide +kernel, by decide +kernel⟩
set_option maxHeartbeats 4000000 in
set_option maxRecDepth 100000 in
theorem kX11_commonDivisor {l : Launch} {E : WE} {a0 : Int64} {a2 : Int64} {I : MI} {J : MJ} {Q : Int64 → MI → MJ → Prop} (h : wX11_commonDivisor (wg E) a0 a2 I J Q) : Met l yX11_commonDivisor (wsM yX11_commonDivisor cX11_commonDivisor 11 ((Option.some FieldType.long))) (rmO 0 0) (va_Pc [.long a0, .long a2] (Wp E I J)) (QL E Q) 0 0 (AA E) := by
  refine m_entry mbX11_commonDivisor (Nat.le_of_ble_eq_true rfl) ?_
  intro p e s m args below meth c X ls hW hl
  have X : Cx E cX11_commonDivisor 11 RX11 ((Option.some FieldType.long)) p s m args c meth := X
  have hx := X.1.1
  have hb := X.1.2.1
  have hl : lv_has ls 11 [(0, .long a0), (2, .long a2)] := hl
  refine lv_lload_n hx hb dX11_commonDivisor_0 rfl (lv_at hl 0 rfl) ?_
  refine lv_lstore (lv' := [(4, .long a0), (0, .long a0), (2, .long a2)]) hx hb dX11_commonDivisor_1 hl (by decide) rfl (fun ls hl => ?_)
  refine lv_lload_n hx hb dX11_commonDivisor_3 rfl (lv_at hl 2 rfl) ?_
  refine lv_lstore (lv' := [(6, .long a2), (4, .long a0), (0, .long a0), (2, .long a2)]) hx hb dX11_commonDivisor_4 hl (by decide) rfl (fun ls hl => ?_)
  refine lv_iconst (v := 0) hx hb dX11_commonDivisor_6 (by decide) ?_
  refine lv_istore (lv' := [(8, .int 0), (6, .long a2), (4, .long a0), (0, .long a0), (2, .long a2)]) hx hb dX11_commonDivisor_7 hl (by decide) rfl (fun ls hl => ?_)
  obtain ⟨n9, h⟩ := h
  exact bX11_commonDivisor_9 X n9 a0 a2 0 _ _ _ _ _  h hW (lv_sub hl [2, 1, 0] rfl)
def wX11_lowest (g : GS) (a0 : Int64) (a2 : Int64) (a4 : Int32) (I : MI) (J : MJ) (Q : Int64 → MI → MJ → Prop) : Prop :=
  wX11_commonDivisor g a0 a2 I J (fun r2 I2 J2 => ((¬ (lg_cmp r2 0) = 0 → ((¬ a4 = 0 → ¬ r2 = 0 ∧ (Q (a2 / r2) I2 J2)) ∧ (a4 = 0 → ¬ r2 = 0 ∧ (Q (a0 / r2) I2 J2)))) ∧ ((lg_cmp r2 0) = 0 → Q ((-1)) I2 J2)))
theorem mbX11_lowest : MB yX11_lowest cX11_lowest 7 ((Option.some FieldType.long)) 3 := ⟨tw553, tw1, ⟨by decide, by decide⟩, by decide +kernel, by decide +kernel⟩
set_option maxHeartbeats 4000000 in
set_option maxRecDepth 100000 in
theorem kX11_lowest {l : Launch} {E : WE} {a0 : Int64} {a2 : Int64} {a4 : Int32} {I : MI} {J : MJ} {Q : Int64 → MI → MJ → Prop} (h : wX11_lowest (wg E) a0 a2 a4 I J Q) : Met l yX11_lowest (wsM yX11_lowest cX11_lowest 7 ((Option.some FieldType.long))) (rmO 1 30) (va_Pc [.long a0, .long a2, .int a4] (Wp E I J)) (QL E Q) 0 0 (AA E) := by
  refine m_entry mbX11_lowest (Nat.le_of_ble_eq_true rfl) ?_
  intro p e s m args below meth c X ls hW hl
  have X : Cx E cX11_lowest 7 RX11 ((Option.some FieldType.long)) p s m args c meth := X
  have hx := X.1.1
  have hb := X.1.2.1
  have hl : lv_has ls 7 [(0, .long a0), (2, .long a2), (4, .int a4)] := hl
  refine lv_lload_n hx hb dX11_lowest_0 rfl (lv_at hl 0 rfl) ?_
  refine lv_lload_n hx hb dX11_lowest_1 rfl (lv_at hl 1 rfl) ?_
  refine af_l hW (rn_S X hW (As := [.long a0, .long a2]) (rest := []) (kX11_commonDivisor h) mbX11_commonDivisor tw554 tw555 rfl hl.1 (Nat.le_of_ble_eq_true rfl) ⟨(Nat.le_of_ble_eq_true rfl), (Nat.le_of_ble_eq_true rfl)⟩ dX11_lowest_2) (fun r2 I2 J2 H locs h hW => ?_)
  refine lv_lstore (lv' := [(5, .long r2), (0, .long a0), (2, .long a2), (4, .int a4)]) hx hb dX11_lowest_5 hl (by decide) rfl (fun ls hl => ?_)
  refine lv_lload hx hb dX11_lowest_7 (lv_at hl 0 rfl) ?_
  refine lv_lconst (v := 0) hx hb dX11_lowest_9 (by decide) ?_
  refine W.lcmp hx hb dX11_lowest_10 ?_
  refine lv_if_ne (tgt := 18) hx hb dX11_lowest_11 (by decide) (fun c11 => ?_) (fun c11 => ?_)
  · have h := h.1 c11
    refine lv_iload hx hb dX11_lowest_18 (lv_at hl 3 rfl) ?_
    refine lv_if_ne (tgt := 27) hx hb dX11_lowest_20 (by decide) (fun c20 => ?_) (fun c20 => ?_)
    · have h := h.1 c20
      refine lv_lload_n hx hb dX11_lowest_27 rfl (lv_at hl 2 rfl) ?_
      refine lv_lload hx hb dX11_lowest_28 (lv_at hl 0 rfl) ?_
      refine lv_ldiv hx hb dX11_lowest_30 h.1 ?_
      have h := h.2
      exact e_l X hW h dX11_lowest_31
    · have h := h.2 c20
      refine lv_lload_n hx hb dX11_lowest_23 rfl (lv_at hl 1 rfl) ?_
      refine lv_goto (tgt := 28) hx hb dX11_lowest_24 (by decide) ?_
      refine lv_lload hx hb dX11_lowest_28 (lv_at hl 0 rfl) ?_
      refine lv_ldiv hx hb dX11_lowest_30 h.1 ?_
      have h := h.2
      exact e_l X hW h dX11_lowest_31
  · have h := h.2 c11
    refine lv_ldc2 hx hb X.1.2.2.2.1 (X.1.2.2.2.2 _ tw557) dX11_lowest_14 ?_
    exact e_l X hW h dX11_lowest_17
def wX11_tallyBalls_b48 (g : GS) (ko10 : Int32 → Int32 → Int32 → Int32 → MI → MJ → Prop) (Q : MI → MJ → Prop) (v1 : Int32) (v2 : Int32) (v3 : Int32) (v4 : Int32) (I : MI) (J : MJ) : Prop :=
  ko10 v1 v2 v3 (v4 + 1) I J
set_option maxHeartbeats 4000000 in
set_option maxRecDepth 100000 in
theorem bX11_tallyBalls_48 {p : Program} {l : Launch} {e : Env} {s : State} {m : MethodId} {args : Array Value} {below : List Frame} {meth : Method} {c : Code} {E : WE} {Q : MI → MJ → Prop} {ko10 : Int32 → Int32 → Int32 → Int32 → MI → MJ → Prop} (X : Cx E cX11_tallyBalls 5 RX11 ((Option.none : Option FieldType)) p s m args c meth)
    (hk10 : ∀ (v1 : Int32) (v2 : Int32) (v3 : Int32) (v4 : Int32) (I : MI) (J : MJ) (H : Heap) (locs : List Loc) (ls : Array Slot), ko10 v1 v2 v3 v4 I J → Wd E I J s H locs → lv_has ls 5 [(0, .ref (wa E 0 0)), (1, .int v1), (2, .int v2), (3, .int v3), (4, .int v4)] → W p l e (rmO 4 89) s m args below meth c H locs 0 0 (MQ below (QV E Q) args s 0 0 (AA E)) (F0 m 10 ls [])) : ∀ (v1 : Int32) (v2 : Int32) (v3 : Int32) (v4 : Int32) (I : MI) (J : MJ) (H : Heap) (locs : List Loc) (ls : Array Slot), wX11_tallyBalls_b48 (wg E) ko10 Q v1 v2 v3 v4 I J → Wd E I J s H locs → lv_has ls 5 [(0, .ref (wa E 0 0)), (1, .int v1), (2, .int v2), (3, .int v3), (4, .int v4)] → W p l e (rmO 4 89) s m args below meth c H locs 0 0 (MQ below (QV E Q) args s 0 0 (AA E)) (F0 m 48 ls []) := by
  have hx := X.1.1
  have hb := X.1.2.1
  intro v1 v2 v3 v4 I J H locs ls h hW hl
  refine lv_iinc (v := v4 + 1) (lv' := [(4, .int (v4 + 1)), (0, .ref (wa E 0 0)), (1, .int v1), (2, .int v2), (3, .int v3)]) hx hb dX11_tallyBalls_48 hl (k := 4) rfl rfl (by decide) rfl (fun ls hl => ?_)
  refine lv_goto (tgt := 10) hx hb dX11_tallyBalls_51 (by decide) ?_
  exact hk10 v1 v2 v3 (v4 + 1) _ _ _ _ _  h hW (lv_sub hl [1, 2, 3, 4, 0] rfl)
def wX11_tallyBalls_b10 (g : GS) (Q : MI → MJ → Prop) : Nat → Int32 → Int32 → Int32 → Int32 → MI → MJ → Prop
  | 0, _, _, _, _, _, _ => False
  | n + 1, v1, v2, v3, v4, I, J => (((I 0 0 10) ≤ v4 → Q I J) ∧ (¬ (I 0 0 10) ≤ v4 → wX11_isOneOf g v2 v4 I J (fun r22 I22 J22 => ((r22 = 0 → wX11_tallyBalls_b48 g (fun v1 v2 v3 v4 I J => wX11_tallyBalls_b10 g Q n v1 v2 v3 v4 I J) Q v1 v2 v3 v4 I22 J22) ∧ (¬ r22 = 0 → vp_in v4 8 ∧ ((¬ (Int32.toNatClampNeg v4) < g.2.1 → False) ∧ ((Int32.toNatClampNeg v4) < g.2.1 → wX11_blackOf g ((Int32.toNatClampNeg v4)) v1 v3 I22 J22 (fun r42 I42 J42 => wX7_put g r42 I42 J42 (fun I45 J45 => wX11_tallyBalls_b48 g (fun v1 v2 v3 v4 I J => wX11_tallyBalls_b10 g Q n v1 v2 v3 v4 I J) Q v1 v2 v3 v4 I45 J45)))))))))
set_option maxHeartbeats 4000000 in
set_option maxRecDepth 100000 in
theorem bX11_tallyBalls_10 {p : Program} {l : Launch} {e : Env} {s : State} {m : MethodId} {args : Array Value} {below : List Frame} {meth : Method} {c : Code} {E : WE} {Q : MI → MJ → Prop} (X : Cx E cX11_tallyBalls 5 RX11 ((Option.none : Option FieldType)) p s m args c meth) (n : Nat) : ∀ (v1 : Int32) (v2 : Int32) (v3 : Int32) (v4 : Int32) (I : MI) (J : MJ) (H : Heap) (locs : List Loc) (ls : Array Slot), wX11_tallyBalls_b10 (wg E) Q n v1 v2 v3 v4 I J → Wd E I J s H locs → lv_has ls 5 [(0, .ref (wa E 0 0)), (1, .int v1), (2, .int v2), (3, .int v3), (4, .int v4)] → W p l e (rmO 4 89) s m args below meth c H locs 0 0 (MQ below (QV E Q) args s 0 0 (AA E)) (F0 m 10 ls []) := by
  have hx := X.1.1
  have hb := X.1.2.1
  induction n with
  | zero => intro v1 v2 v3 v4 I J H locs ls h hW hl; exact h.elim
  | succ n ih =>
    intro v1 v2 v3 v4 I J H locs ls h hW hl
    refine lv_iload hx hb dX11_tallyBalls_10 (lv_at hl 4 rfl) ?_
    refine lv_aload_n hx hb dX11_tallyBalls_12 rfl (lv_at hl 0 rfl) ?_
    refine r_get X hW 10 (okS hW sc0_0) rfl rfl inX11 (Nat.le_of_ble_eq_true rfl) tw142 rfl dX11_tallyBalls_13 ?_
    refine lv_icmp_ge (tgt := 54) hx hb dX11_tallyBalls_16 (by decide) (fun c16 => ?_) (fun c16 => ?_)
    · have h := h.1 c16
      exact e_v X hW h dX11_tallyBalls_54
    · have h := h.2 c16
      refine lv_iload_n hx hb dX11_tallyBalls_19 rfl (lv_at hl 2 rfl) ?_
      refine lv_iload hx hb dX11_tallyBalls_20 (lv_at hl 4 rfl) ?_
      refine af_i hW (rn_S X hW (As := [.int v2, .int v4]) (rest := []) (kX11_isOneOf h) mbX11_isOneOf tw477 tw478 rfl hl.1 (Nat.le_of_ble_eq_true rfl) ⟨(Nat.le_of_ble_eq_true rfl), (Nat.le_of_ble_eq_true rfl)⟩ dX11_tallyBalls_22) (fun r22 I22 J22 H locs h hW => ?_)
      refine lv_if_eq (tgt := 48) hx hb dX11_tallyBalls_25 (by decide) (fun c25 => ?_) (fun c25 => ?_)
      · have h := h.1 c25
        exact bX11_tallyBalls_48 X ih v1 v2 v3 v4 _ _ _ _ _  h hW (lv_sub hl [0, 1, 2, 3, 4] rfl)
      · have h := h.2 c25
        refine lv_aload_n hx hb dX11_tallyBalls_28 rfl (lv_at hl 0 rfl) ?_
        refine r_get X hW 4 (okS hW sc0_0) rfl rfl inX11 (Nat.le_of_ble_eq_true rfl) tw136 rfl dX11_tallyBalls_29 ?_
        refine lv_aload_n hx hb dX11_tallyBalls_32 rfl (lv_at hl 0 rfl) ?_
        refine lv_aload_n hx hb dX11_tallyBalls_33 rfl (lv_at hl 0 rfl) ?_
        refine r_get X hW 2 (okS hW sc0_0) rfl rfl inX11 (Nat.le_of_ble_eq_true rfl) tw134 rfl dX11_tallyBalls_34 ?_
        refine lv_iload hx hb dX11_tallyBalls_37 (lv_at hl 4 rfl) ?_
        refine r_aaP X hW h.1 dX11_tallyBalls_39 (fun c39 => ?_) (fun c39 => ?_)
        · have h := h.2.1 c39
          refine lv_iload_n hx hb dX11_tallyBalls_40 rfl (lv_at hl 1 rfl) ?_
          refine lv_iload_n hx hb dX11_tallyBalls_41 rfl (lv_at hl 3 rfl) ?_
          exact h.elim
        · have h := h.2.2 c39
          refine lv_iload_n hx hb dX11_tallyBalls_40 rfl (lv_at hl 1 rfl) ?_
          refine lv_iload_n hx hb dX11_tallyBalls_41 rfl (lv_at hl 3 rfl) ?_
          refine af_i hW (rn_V X hW (As := [.ref (wa E 40 (Int32.toNatClampNeg v4)), .int v1, .int v3]) (rest := [.ref (wa E 6 0)]) (okS hW sc0_0) rfl rfl (kX11_blackOf c39 h) mbX11_blackOf tw489 tw491 tp10 rfl hl.1 (Nat.le_of_ble_eq_true rfl) ⟨(Nat.le_of_ble_eq_true rfl), (Nat.le_of_ble_eq_true rfl)⟩ dX11_tallyBalls_42) (fun r42 I42 J42 H locs h hW => ?_)
          refine af_v hW (rn_V X hW (As := [.int r42]) (rest := []) (okS hW sc6_0) rfl rfl (kX7_put h) mbX7_put tw538 tw539 tw540 rfl hl.1 (Nat.le_of_ble_eq_true rfl) ⟨(Nat.le_of_ble_eq_true rfl), (Nat.le_of_ble_eq_true rfl)⟩ dX11_tallyBalls_45) (fun I45 J45 H locs h hW => ?_)
          exact bX11_tallyBalls_48 X ih v1 v2 v3 v4 _ _ _ _ _  h hW (lv_sub hl [0, 1, 2, 3, 4] rfl)
def wX11_tallyBalls (g : GS) (a1 : Int32) (a2 : Int32) (a3 : Int32) (I : MI) (J : MJ) (Q : MI → MJ → Prop) : Prop :=
  wX7_begin g I J (fun I4 J4 => ∃ n10, wX11_tallyBalls_b10 g Q n10 a1 a2 a3 0 I4 J4)
theorem mbX11_tallyBalls : MB yX11_tallyBalls cX11_tallyBalls 5 ((Option.none : Option FieldType)) 3 := ⟨tw533, tw1, ⟨by decide, by decide⟩, by decide +kernel, by decide +kernel⟩
set_option maxHeartbeats 4000000 in
set_option maxRecDepth 100000 in
theorem kX11_tallyBalls {l : Launch} {E : WE} {a1 : Int32} {a2 : Int32} {a3 : Int32} {I : MI} {J : MJ} {Q : MI → MJ → Prop} (h : wX11_tallyBalls (wg E) a1 a2 a3 I J Q) : Met l yX11_tallyBalls (wsM yX11_tallyBalls cX11_tallyBalls 5 ((Option.none : Option FieldType))) (rmO 4 89) (va_Pc [.ref (wa E 0 0), .int a1, .int a2, .int a3] (Wp E I J)) (QV E Q) 0 0 (AA E) := by
  refine m_entry mbX11_tallyBalls (Nat.le_of_ble_eq_true rfl) ?_
  intro p e s m args below meth c X ls hW hl
  have X : Cx E cX11_tallyBalls 5 RX11 ((Option.none : Option FieldType)) p s m args c meth := X
  have hx := X.1.1
  have hb := X.1.2.1
  have hl : lv_has ls 5 [(0, .ref (wa E 0 0)), (1, .int a1), (2, .int a2), (3, .int a3)] := hl
  refine lv_aload_n hx hb dX11_tallyBalls_0 rfl (lv_at hl 0 rfl) ?_
  refine r_get X hW 4 (okS hW sc0_0) rfl rfl inX11 (Nat.le_of_ble_eq_true rfl) tw136 rfl dX11_tallyBalls_1 ?_
  refine af_v hW (rn_V X hW (As := []) (rest := []) (okS hW sc6_0) rfl rfl (kX7_begin h) mbX7_begin tw534 tw535 tw536 rfl hl.1 (Nat.le_of_ble_eq_true rfl) ⟨(Nat.le_of_ble_eq_true rfl), (Nat.le_of_ble_eq_true rfl)⟩ dX11_tallyBalls_4) (fun I4 J4 H locs h hW => ?_)
  refine lv_iconst (v := 0) hx hb dX11_tallyBalls_7 (by decide) ?_
  refine lv_istore (lv' := [(4, .int 0), (0, .ref (wa E 0 0)), (1, .int a1), (2, .int a2), (3, .int a3)]) hx hb dX11_tallyBalls_8 hl (by decide) rfl (fun ls hl => ?_)
  obtain ⟨n10, h⟩ := h
  exact bX11_tallyBalls_10 X n10 a1 a2 a3 0 _ _ _ _ _  h hW (lv_sub hl [1, 2, 3, 4, 0] rfl)
def wX11_balls (g : GS) (a1 : Int32) (a2 : Int32) (a3 : Int32) (a4 : Int32) (a5 : Int32) (I : MI) (J : MJ) (Q : Int32 → MI → MJ → Prop) : Prop :=
  wX11_ruleAt g a1 I J (fun o2 I2 J2 => (o2 = none → Q ((-101)) I2 J2) ∧ (∀ r2, o2 = some r2 → wX11_isCandidate g a2 I2 J2 (fun r14 I14 J14 => ((¬ r14 = 0 → wX11_areComers g a3 I14 J14 (fun r25 I25 J25 => ((r25 = 0 → Q ((-102)) I25 J25) ∧ (¬ r25 = 0 → wX11_within g a4 0 8 I25 J25 (fun r36 I36 J36 => ((r36 = 0 → Q ((-102)) I36 J36) ∧ (¬ r36 = 0 → wX11_isPart g a5 I36 J36 (fun r44 I44 J44 => ((¬ r44 = 0 → wX11_isWatched g r2 a3 I44 J44 (fun r59 I59 J59 => wX11_tallyBalls g a2 a3 r59 I59 J59 (fun I62 J62 => wX7_waysTo g a4 I62 J62 (fun r71 I71 J71 => wX7_all g I71 J71 (fun r78 I78 J78 => wX11_lowest g r71 r78 a5 I78 J78 (fun r83 I83 J83 => Q (Int64.toInt32 r83) I83 J83)))))) ∧ (r44 = 0 → Q ((-102)) I44 J44)))))))))) ∧ (r14 = 0 → Q ((-101)) I14 J14)))))
theorem mbX11_balls : MB yX11_balls cX11_balls 7 ((Option.some FieldType.int)) 5 := ⟨tw526, tw1, ⟨by decide, by decide⟩, by decide +kernel, by decide +kernel⟩
set_option maxHeartbeats 4000000 in
set_option maxRecDepth 100000 in
theorem kX11_balls {l : Launch} {E : WE} {a1 : Int32} {a2 : Int32} {a3 : Int32} {a4 : Int32} {a5 : Int32} {I : MI} {J : MJ} {Q : Int32 → MI → MJ → Prop} (h : wX11_balls (wg E) a1 a2 a3 a4 a5 I J Q) : Met l yX11_balls (wsM yX11_balls cX11_balls 7 ((Option.some FieldType.int))) (rmO 5 113) (va_Pc [.ref (wa E 0 0), .int a1, .int a2, .int a3, .int a4, .int a5] (Wp E I J)) (QI E Q) 0 0 (AA E) := by
  refine m_entry mbX11_balls (Nat.le_of_ble_eq_true rfl) ?_
  intro p e s m args below meth c X ls hW hl
  have X : Cx E cX11_balls 7 RX11 ((Option.some FieldType.int)) p s m args c meth := X
  have hx := X.1.1
  have hb := X.1.2.1
  have hl : lv_has ls 7 [(0, .ref (wa E 0 0)), (1, .int a1), (2, .int a2), (3, .int a3), (4, .int a4), (5, .int a5)] := hl
  refine lv_aload_n hx hb dX11_balls_0 rfl (lv_at hl 0 rfl) ?_
  refine lv_iload_n hx hb dX11_balls_1 rfl (lv_at hl 1 rfl) ?_
  refine af_r hW (rn_V X hW (As := [.int a1]) (rest := []) (okS hW sc0_0) rfl rfl (kX11_ruleAt h) mbX11_ruleAt tw258 tw260 tp1 rfl hl.1 (Nat.le_of_ble_eq_true rfl) ⟨(Nat.le_of_ble_eq_true rfl), (Nat.le_of_ble_eq_true rfl)⟩ dX11_balls_2) (fun I2 J2 H locs h hW => ?_) (fun r2 I2 J2 H locs c2 h hW => ?_)
  · have h := h.1 rfl
    refine lv_astoreN (lv' := [(6, .null), (0, .ref (wa E 0 0)), (1, .int a1), (2, .int a2), (3, .int a3), (4, .int a4), (5, .int a5)]) hx hb dX11_balls_5 hl (by decide) rfl (fun ls hl => ?_)
    refine lv_aloadN hx hb dX11_balls_7 (lv_at hl 0 rfl) ?_
    refine lv_ifnullN (tgt := 20) hx hb dX11_balls_9 (by decide) ?_
    refine lv_bipush (v := (-101)) hx hb dX11_balls_20 (by decide) ?_
    exact e_i X hW h dX11_balls_22
  · have h := h.2 r2 rfl
    refine lv_astore (lv' := [(6, .ref (wa E 43 r2)), (0, .ref (wa E 0 0)), (1, .int a1), (2, .int a2), (3, .int a3), (4, .int a4), (5, .int a5)]) hx hb dX11_balls_5 hl (by decide) rfl (fun ls hl => ?_)
    refine lv_aload hx hb dX11_balls_7 (lv_at hl 0 rfl) ?_
    refine lv_ifnull hx hb dX11_balls_9 ?_
    refine lv_aload_n hx hb dX11_balls_12 rfl (lv_at hl 1 rfl) ?_
    refine lv_iload_n hx hb dX11_balls_13 rfl (lv_at hl 3 rfl) ?_
    refine af_i hW (rn_V X hW (As := [.int a2]) (rest := []) (okS hW sc0_0) rfl rfl (kX11_isCandidate h) mbX11_isCandidate tw417 tw419 tp4 rfl hl.1 (Nat.le_of_ble_eq_true rfl) ⟨(Nat.le_of_ble_eq_true rfl), (Nat.le_of_ble_eq_true rfl)⟩ dX11_balls_14) (fun r14 I14 J14 H locs h hW => ?_)
    refine lv_if_ne (tgt := 23) hx hb dX11_balls_17 (by decide) (fun c17 => ?_) (fun c17 => ?_)
    · have h := h.1 c17
      refine lv_aload_n hx hb dX11_balls_23 rfl (lv_at hl 1 rfl) ?_
      refine lv_iload_n hx hb dX11_balls_24 rfl (lv_at hl 4 rfl) ?_
      refine af_i hW (rn_V X hW (As := [.int a3]) (rest := []) (okS hW sc0_0) rfl rfl (kX11_areComers h) mbX11_areComers tw469 tw471 tp8 rfl hl.1 (Nat.le_of_ble_eq_true rfl) ⟨(Nat.le_of_ble_eq_true rfl), (Nat.le_of_ble_eq_true rfl)⟩ dX11_balls_25) (fun r25 I25 J25 H locs h hW => ?_)
      refine lv_if_eq (tgt := 50) hx hb dX11_balls_28 (by decide) (fun c28 => ?_) (fun c28 => ?_)
      · have h := h.1 c28
        refine lv_bipush (v := (-102)) hx hb dX11_balls_50 (by decide) ?_
        exact e_i X hW h dX11_balls_52
      · have h := h.2 c28
        refine lv_iload hx hb dX11_balls_31 (lv_at hl 5 rfl) ?_
        refine lv_iconst (v := 0) hx hb dX11_balls_33 (by decide) ?_
        refine lv_bipush (v := 8) hx hb dX11_balls_34 (by decide) ?_
        refine af_i hW (rn_S X hW (As := [.int a4, .int 0, .int 8]) (rest := []) (kX11_within h) mbX11_within tw262 tw207 rfl hl.1 (Nat.le_of_ble_eq_true rfl) ⟨(Nat.le_of_ble_eq_true rfl), (Nat.le_of_ble_eq_true rfl)⟩ dX11_balls_36) (fun r36 I36 J36 H locs h hW => ?_)
        refine lv_if_eq (tgt := 50) hx hb dX11_balls_39 (by decide) (fun c39 => ?_) (fun c39 => ?_)
        · have h := h.1 c39
          refine lv_bipush (v := (-102)) hx hb dX11_balls_50 (by decide) ?_
          exact e_i X hW h dX11_balls_52
        · have h := h.2 c39
          refine lv_iload hx hb dX11_balls_42 (lv_at hl 6 rfl) ?_
          refine af_i hW (rn_S X hW (As := [.int a5]) (rest := []) (kX11_isPart h) mbX11_isPart tw527 tw528 rfl hl.1 (Nat.le_of_ble_eq_true rfl) ⟨(Nat.le_of_ble_eq_true rfl), (Nat.le_of_ble_eq_true rfl)⟩ dX11_balls_44) (fun r44 I44 J44 H locs h hW => ?_)
          refine lv_if_ne (tgt := 53) hx hb dX11_balls_47 (by decide) (fun c47 => ?_) (fun c47 => ?_)
          · have h := h.1 c47
            refine lv_aload_n hx hb dX11_balls_53 rfl (lv_at hl 1 rfl) ?_
            refine lv_iload_n hx hb dX11_balls_54 rfl (lv_at hl 3 rfl) ?_
            refine lv_iload_n hx hb dX11_balls_55 rfl (lv_at hl 4 rfl) ?_
            refine lv_aload hx hb dX11_balls_56 (lv_at hl 0 rfl) ?_
            refine lv_iload_n hx hb dX11_balls_58 rfl (lv_at hl 4 rfl) ?_
            refine af_i hW (rn_S X hW (As := [.ref (wa E 43 r2), .int a3]) (rest := [.int a3, .int a2, .ref (wa E 0 0)]) (kX11_isWatched c2 h) mbX11_isWatched tw480 tw481 rfl hl.1 (Nat.le_of_ble_eq_true rfl) ⟨(Nat.le_of_ble_eq_true rfl), (Nat.le_of_ble_eq_true rfl)⟩ dX11_balls_59) (fun r59 I59 J59 H locs h hW => ?_)
            refine af_v hW (rn_V X hW (As := [.int a2, .int a3, .int r59]) (rest := []) (okS hW sc0_0) rfl rfl (kX11_tallyBalls h) mbX11_tallyBalls tw530 tw532 tp11 rfl hl.1 (Nat.le_of_ble_eq_true rfl) ⟨(Nat.le_of_ble_eq_true rfl), (Nat.le_of_ble_eq_true rfl)⟩ dX11_balls_62) (fun I62 J62 H locs h hW => ?_)
            refine lv_aload_n hx hb dX11_balls_65 rfl (lv_at hl 1 rfl) ?_
            refine r_get X hW 4 (okS hW sc0_0) rfl rfl inX11 (Nat.le_of_ble_eq_true rfl) tw136 rfl dX11_balls_66 ?_
            refine lv_iload hx hb dX11_balls_69 (lv_at hl 5 rfl) ?_
            refine af_l hW (rn_V X hW (As := [.int a4]) (rest := []) (okS hW sc6_0) rfl rfl (kX7_waysTo h) mbX7_waysTo tw543 tw544 tw545 rfl hl.1 (Nat.le_of_ble_eq_true rfl) ⟨(Nat.le_of_ble_eq_true rfl), (Nat.le_of_ble_eq_true rfl)⟩ dX11_balls_71) (fun r71 I71 J71 H locs h hW => ?_)
            refine lv_aload_n hx hb dX11_balls_74 rfl (lv_at hl 1 rfl) ?_
            refine r_get X hW 4 (okS hW sc0_0) rfl rfl inX11 (Nat.le_of_ble_eq_true rfl) tw136 rfl dX11_balls_75 ?_
            refine af_l hW (rn_V X hW (As := []) (rest := [.long r71]) (okS hW sc6_0) rfl rfl (kX7_all h) mbX7_all tw547 tw548 tw549 rfl hl.1 (Nat.le_of_ble_eq_true rfl) ⟨(Nat.le_of_ble_eq_true rfl), (Nat.le_of_ble_eq_true rfl)⟩ dX11_balls_78) (fun r78 I78 J78 H locs h hW => ?_)
            refine lv_iload hx hb dX11_balls_81 (lv_at hl 6 rfl) ?_
            refine af_l hW (rn_S X hW (As := [.long r71, .long r78, .int a5]) (rest := []) (kX11_lowest h) mbX11_lowest tw551 tw552 rfl hl.1 (Nat.le_of_ble_eq_true rfl) ⟨(Nat.le_of_ble_eq_true rfl), (Nat.le_of_ble_eq_true rfl)⟩ dX11_balls_83) (fun r83 I83 J83 H locs h hW => ?_)
            refine lv_l2i hx hb dX11_balls_86 rfl ?_
            exact e_i X hW h dX11_balls_87
          · have h := h.2 c47
            refine lv_bipush (v := (-102)) hx hb dX11_balls_50 (by decide) ?_
            exact e_i X hW h dX11_balls_52
    · have h := h.2 c17
      refine lv_bipush (v := (-101)) hx hb dX11_balls_20 (by decide) ?_
      exact e_i X hW h dX11_balls_22
def wX11_inWays_b75 (g : GS) (ko43 : Nat → Int32 → Int64 → Int64 → Int32 → MI → MJ → Prop) (Q : Int64 → MI → MJ → Prop) (v1 : Nat) (v4 : Int32) (v5 : Int64) (v7 : Int64) (v9 : Int32) (I : MI) (J : MJ) : Prop :=
  ko43 v1 v4 v5 v7 (v9 + 1) I J
set_option maxHeartbeats 4000000 in
set_option maxRecDepth 100000 in
theorem bX11_inWays_75 {p : Program} {l : Launch} {e : Env} {s : State} {m : MethodId} {args : Array Value} {below : List Frame} {meth : Method} {c : Code} {E : WE} {Q : Int64 → MI → MJ → Prop} {ko43 : Nat → Int32 → Int64 → Int64 → Int32 → MI → MJ → Prop} (X : Cx E cX11_inWays 10 RX11 ((Option.some FieldType.long)) p s m args c meth)
    (hk43 : ∀ (v1 : Nat) (v4 : Int32) (v5 : Int64) (v7 : Int64) (v9 : Int32) (I : MI) (J : MJ) (H : Heap) (locs : List Loc) (ls : Array Slot), v1 < (wg E).2.2 → ko43 v1 v4 v5 v7 v9 I J → Wd E I J s H locs → lv_has ls 10 [(0, .ref (wa E 0 0)), (1, .ref (wa E 43 v1)), (4, .int v4), (5, .long v5), (7, .long v7), (9, .int v9)] → W p l e (rmO 5 113) s m args below meth c H locs 0 0 (MQ below (QL E Q) args s 0 0 (AA E)) (F0 m 43 ls [])) : ∀ (v1 : Nat) (v4 : Int32) (v5 : Int64) (v7 : Int64) (v9 : Int32) (I : MI) (J : MJ) (H : Heap) (locs : List Loc) (ls : Array Slot), v1 < (wg E).2.2 → wX11_inWays_b75 (wg E) ko43 Q v1 v4 v5 v7 v9 I J → Wd E I J s H locs → lv_has ls 10 [(0, .ref (wa E 0 0)), (1, .ref (wa E 43 v1)), (4, .int v4), (5, .long v5), (7, .long v7), (9, .int v9)] → W p l e (rmO 5 113) s m args below meth c H locs 0 0 (MQ below (QL E Q) args s 0 0 (AA E)) (F0 m 75 ls []) := by
  have hx := X.1.1
  have hb := X.1.2.1
  intro v1 v4 v5 v7 v9 I J H locs ls hp_v1 h hW hl
  refine lv_iinc (v := v9 + 1) (lv' := [(9, .int (v9 + 1)), (0, .ref (wa E 0 0)), (1, .ref (wa E 43 v1)), (4, .int v4), (5, .long v5), (7, .long v7)]) hx hb dX11_inWays_75 hl (k := 5) rfl rfl (by decide) rfl (fun ls hl => ?_)
  refine lv_goto (tgt := 43) hx hb dX11_inWays_78 (by decide) ?_
  exact hk43 v1 v4 v5 v7 (v9 + 1) _ _ _ _ _ hp_v1 h hW (lv_sub hl [1, 2, 3, 4, 5, 0] rfl)
def wX11_inWays_b43 (g : GS) (Q : Int64 → MI → MJ → Prop) : Nat → Nat → Int32 → Int64 → Int64 → Int32 → MI → MJ → Prop
  | 0, _, _, _, _, _, _, _ => False
  | n + 1, v1, v4, v5, v7, v9, I, J => ((v4 < v9 → (((I 43 v1 3) = 0 → Q ((v5 - v7) * v5) I J) ∧ (¬ (I 43 v1 3) = 0 → Q ((v5 * v5) - (v7 * v7)) I J))) ∧ (¬ v4 < v9 → wX6_shutsOut g v1 v9 v4 I J (fun r55 I55 J55 => ((r55 = 0 → wX11_inWays_b75 g (fun v1 v4 v5 v7 v9 I J => wX11_inWays_b43 g Q n v1 v4 v5 v7 v9 I J) Q v1 v4 v5 v7 v9 I55 J55) ∧ (¬ r55 = 0 → wX7_waysTo g v9 I55 J55 (fun r69 I69 J69 => wX11_inWays_b75 g (fun v1 v4 v5 v7 v9 I J => wX11_inWays_b43 g Q n v1 v4 v5 v7 v9 I J) Q v1 v4 v5 (v7 + r69) v9 I69 J69))))))
set_option maxHeartbeats 4000000 in
set_option maxRecDepth 100000 in
theorem bX11_inWays_43 {p : Program} {l : Launch} {e : Env} {s : State} {m : MethodId} {args : Array Value} {below : List Frame} {meth : Method} {c : Code} {E : WE} {Q : Int64 → MI → MJ → Prop} (X : Cx E cX11_inWays 10 RX11 ((Option.some FieldType.long)) p s m args c meth) (n : Nat) : ∀ (v1 : Nat) (v4 : Int32) (v5 : Int64) (v7 : Int64) (v9 : Int32) (I : MI) (J : MJ) (H : Heap) (locs : List Loc) (ls : Array Slot), v1 < (wg E).2.2 → wX11_inWays_b43 (wg E) Q n v1 v4 v5 v7 v9 I J → Wd E I J s H locs → lv_has ls 10 [(0, .ref (wa E 0 0)), (1, .ref (wa E 43 v1)), (4, .int v4), (5, .long v5), (7, .long v7), (9, .int v9)] → W p l e (rmO 5 113) s m args below meth c H locs 0 0 (MQ below (QL E Q) args s 0 0 (AA E)) (F0 m 43 ls []) := by
  have hx := X.1.1
  have hb := X.1.2.1
  induction n with
  | zero => intro v1 v4 v5 v7 v9 I J H locs ls hp_v1 h hW hl; exact h.elim
  | succ n ih =>
    intro v1 v4 v5 v7 v9 I J H locs ls hp_v1 h hW hl
    refine lv_iload hx hb dX11_inWays_43 (lv_at hl 5 rfl) ?_
    refine lv_iload hx hb dX11_inWays_45 (lv_at hl 2 rfl) ?_
    refine lv_icmp_gt (tgt := 81) hx hb dX11_inWays_47 (by decide) (fun c47 => ?_) (fun c47 => ?_)
    · have h := h.1 c47
      refine lv_aload_n hx hb dX11_inWays_81 rfl (lv_at hl 1 rfl) ?_
      refine r_getN X hW 3 (okR hW hp_v1) rfl rfl inX6 (Nat.le_of_ble_eq_true rfl) nw240 rfl dX11_inWays_82 ?_
      refine lv_if_eq (tgt := 102) hx hb dX11_inWays_85 (by decide) (fun c85 => ?_) (fun c85 => ?_)
      · have h := h.1 c85
        refine lv_lload hx hb dX11_inWays_102 (lv_at hl 3 rfl) ?_
        refine lv_lload hx hb dX11_inWays_104 (lv_at hl 4 rfl) ?_
        refine lv_lsub hx hb dX11_inWays_106 ?_
        refine lv_lload hx hb dX11_inWays_107 (lv_at hl 3 rfl) ?_
        refine lv_lmul hx hb dX11_inWays_109 ?_
        exact e_l X hW h dX11_inWays_110
      · have h := h.2 c85
        refine lv_lload hx hb dX11_inWays_88 (lv_at hl 3 rfl) ?_
        refine lv_lload hx hb dX11_inWays_90 (lv_at hl 3 rfl) ?_
        refine lv_lmul hx hb dX11_inWays_92 ?_
        refine lv_lload hx hb dX11_inWays_93 (lv_at hl 4 rfl) ?_
        refine lv_lload hx hb dX11_inWays_95 (lv_at hl 4 rfl) ?_
        refine lv_lmul hx hb dX11_inWays_97 ?_
        refine lv_lsub hx hb dX11_inWays_98 ?_
        refine lv_goto (tgt := 110) hx hb dX11_inWays_99 (by decide) ?_
        exact e_l X hW h dX11_inWays_110
    · have h := h.2 c47
      refine lv_aload_n hx hb dX11_inWays_50 rfl (lv_at hl 1 rfl) ?_
      refine lv_iload hx hb dX11_inWays_51 (lv_at hl 5 rfl) ?_
      refine lv_iload hx hb dX11_inWays_53 (lv_at hl 2 rfl) ?_
      refine af_i hW (rn_V X hW (As := [.int v9, .int v4]) (rest := []) (okR hW hp_v1) rfl rfl (kX6_shutsOut hp_v1 h) mbX6_shutsOut tw572 tw573 tw574 rfl hl.1 (Nat.le_of_ble_eq_true rfl) ⟨(Nat.le_of_ble_eq_true rfl), (Nat.le_of_ble_eq_true rfl)⟩ dX11_inWays_55) (fun r55 I55 J55 H locs h hW => ?_)
      refine lv_if_eq (tgt := 75) hx hb dX11_inWays_58 (by decide) (fun c58 => ?_) (fun c58 => ?_)
      · have h := h.1 c58
        exact bX11_inWays_75 X ih v1 v4 v5 v7 v9 _ _ _ _ _ hp_v1 h hW (lv_sub hl [0, 1, 2, 3, 4, 5] rfl)
      · have h := h.2 c58
        refine lv_lload hx hb dX11_inWays_61 (lv_at hl 4 rfl) ?_
        refine lv_aload_n hx hb dX11_inWays_63 rfl (lv_at hl 0 rfl) ?_
        refine r_get X hW 4 (okS hW sc0_0) rfl rfl inX11 (Nat.le_of_ble_eq_true rfl) tw136 rfl dX11_inWays_64 ?_
        refine lv_iload hx hb dX11_inWays_67 (lv_at hl 5 rfl) ?_
        refine af_l hW (rn_V X hW (As := [.int v9]) (rest := [.long v7]) (okS hW sc6_0) rfl rfl (kX7_waysTo h) mbX7_waysTo tw543 tw544 tw545 rfl hl.1 (Nat.le_of_ble_eq_true rfl) ⟨(Nat.le_of_ble_eq_true rfl), (Nat.le_of_ble_eq_true rfl)⟩ dX11_inWays_69) (fun r69 I69 J69 H locs h hW => ?_)
        refine lv_ladd hx hb dX11_inWays_72 ?_
        refine lv_lstore (lv' := [(7, .long (v7 + r69)), (0, .ref (wa E 0 0)), (1, .ref (wa E 43 v1)), (4, .int v4), (5, .long v5), (9, .int v9)]) hx hb dX11_inWays_73 hl (by decide) rfl (fun ls hl => ?_)
        exact bX11_inWays_75 X ih v1 v4 v5 (v7 + r69) v9 _ _ _ _ _ hp_v1 h hW (lv_sub hl [1, 2, 3, 4, 0, 5] rfl)
def wX11_inWays (g : GS) (a1 : Nat) (a2 : Int32) (a3 : Int32) (I : MI) (J : MJ) (Q : Int64 → MI → MJ → Prop) : Prop :=
  wJ6_bitCount_0f7a4 g a3 I J (fun r1 I1 J1 => wX6_hasQuorum g a1 r1 I1 J1 (fun r9 I9 J9 => ((¬ r9 = 0 → wX11_isWatched g a1 a3 I9 J9 (fun r22 I22 J22 => wX11_tallyBalls g a2 a3 r22 I22 J22 (fun I25 J25 => wX7_all g I25 J25 (fun r32 I32 J32 => ∃ n43, wX11_inWays_b43 g Q n43 a1 r1 r32 0 0 I32 J32)))) ∧ (r9 = 0 → Q 0 I9 J9))))
theorem mbX11_inWays : MB yX11_inWays cX11_inWays 10 ((Option.some FieldType.long)) 3 := ⟨tw567, tw1, ⟨by decide, by decide⟩, by decide +kernel, by decide +kernel⟩
set_option maxHeartbeats 4000000 in
set_option maxRecDepth 100000 in
theorem kX11_inWays {l : Launch} {E : WE} {a1 : Nat} {a2 : Int32} {a3 : Int32} {I : MI} {J : MJ} {Q : Int64 → MI → MJ → Prop} (hp_a1 : a1 < (wg E).2.2) (h : wX11_inWays (wg E) a1 a2 a3 I J Q) : Met l yX11_inWays (wsM yX11_inWays cX11_inWays 10 ((Option.some FieldType.long))) (rmO 5 113) (va_Pc [.ref (wa E 0 0), .ref (wa E 43 a1), .int a2, .int a3] (Wp E I J)) (QL E Q) 0 0 (AA E) := by
  refine m_entry mbX11_inWays (Nat.le_of_ble_eq_true rfl) ?_
  intro p e s m args below meth c X ls hW hl
  have X : Cx E cX11_inWays 10 RX11 ((Option.some FieldType.long)) p s m args c meth := X
  have hx := X.1.1
  have hb := X.1.2.1
  have hl : lv_has ls 10 [(0, .ref (wa E 0 0)), (1, .ref (wa E 43 a1)), (2, .int a2), (3, .int a3)] := hl
  refine lv_iload_n hx hb dX11_inWays_0 rfl (lv_at hl 3 rfl) ?_
  refine af_i hW (rn_S X hW (As := [.int a3]) (rest := []) (kJ6_bitCount_0f7a4 h) mbJ6_bitCount_0f7a4 tw483 tw484 rfl hl.1 (Nat.le_of_ble_eq_true rfl) ⟨(Nat.le_of_ble_eq_true rfl), (Nat.le_of_ble_eq_true rfl)⟩ dX11_inWays_1) (fun r1 I1 J1 H locs h hW => ?_)
  refine lv_istore (lv' := [(4, .int r1), (0, .ref (wa E 0 0)), (1, .ref (wa E 43 a1)), (2, .int a2), (3, .int a3)]) hx hb dX11_inWays_4 hl (by decide) rfl (fun ls hl => ?_)
  refine lv_aload_n hx hb dX11_inWays_6 rfl (lv_at hl 2 rfl) ?_
  refine lv_iload hx hb dX11_inWays_7 (lv_at hl 0 rfl) ?_
  refine af_i hW (rn_V X hW (As := [.int r1]) (rest := []) (okR hW hp_a1) rfl rfl (kX6_hasQuorum hp_a1 h) mbX6_hasQuorum tw568 tw569 tw570 rfl hl.1 (Nat.le_of_ble_eq_true rfl) ⟨(Nat.le_of_ble_eq_true rfl), (Nat.le_of_ble_eq_true rfl)⟩ dX11_inWays_9) (fun r9 I9 J9 H locs h hW => ?_)
  refine lv_if_ne (tgt := 17) hx hb dX11_inWays_12 (by decide) (fun c12 => ?_) (fun c12 => ?_)
  · have h := h.1 c12
    refine lv_aload_n hx hb dX11_inWays_17 rfl (lv_at hl 1 rfl) ?_
    refine lv_iload_n hx hb dX11_inWays_18 rfl (lv_at hl 3 rfl) ?_
    refine lv_iload_n hx hb dX11_inWays_19 rfl (lv_at hl 4 rfl) ?_
    refine lv_aload_n hx hb dX11_inWays_20 rfl (lv_at hl 2 rfl) ?_
    refine lv_iload_n hx hb dX11_inWays_21 rfl (lv_at hl 4 rfl) ?_
    refine af_i hW (rn_S X hW (As := [.ref (wa E 43 a1), .int a3]) (rest := [.int a3, .int a2, .ref (wa E 0 0)]) (kX11_isWatched hp_a1 h) mbX11_isWatched tw480 tw481 rfl hl.1 (Nat.le_of_ble_eq_true rfl) ⟨(Nat.le_of_ble_eq_true rfl), (Nat.le_of_ble_eq_true rfl)⟩ dX11_inWays_22) (fun r22 I22 J22 H locs h hW => ?_)
    refine af_v hW (rn_V X hW (As := [.int a2, .int a3, .int r22]) (rest := []) (okS hW sc0_0) rfl rfl (kX11_tallyBalls h) mbX11_tallyBalls tw530 tw532 tp11 rfl hl.1 (Nat.le_of_ble_eq_true rfl) ⟨(Nat.le_of_ble_eq_true rfl), (Nat.le_of_ble_eq_true rfl)⟩ dX11_inWays_25) (fun I25 J25 H locs h hW => ?_)
    refine lv_aload_n hx hb dX11_inWays_28 rfl (lv_at hl 1 rfl) ?_
    refine r_get X hW 4 (okS hW sc0_0) rfl rfl inX11 (Nat.le_of_ble_eq_true rfl) tw136 rfl dX11_inWays_29 ?_
    refine af_l hW (rn_V X hW (As := []) (rest := []) (okS hW sc6_0) rfl rfl (kX7_all h) mbX7_all tw547 tw548 tw549 rfl hl.1 (Nat.le_of_ble_eq_true rfl) ⟨(Nat.le_of_ble_eq_true rfl), (Nat.le_of_ble_eq_true rfl)⟩ dX11_inWays_32) (fun r32 I32 J32 H locs h hW => ?_)
    refine lv_lstore (lv' := [(5, .long r32), (4, .int r1), (0, .ref (wa E 0 0)), (1, .ref (wa E 43 a1)), (2, .int a2), (3, .int a3)]) hx hb dX11_inWays_35 hl (by decide) rfl (fun ls hl => ?_)
    refine lv_lconst (v := 0) hx hb dX11_inWays_37 (by decide) ?_
    refine lv_lstore (lv' := [(7, .long 0), (5, .long r32), (4, .int r1), (0, .ref (wa E 0 0)), (1, .ref (wa E 43 a1)), (2, .int a2), (3, .int a3)]) hx hb dX11_inWays_38 hl (by decide) rfl (fun ls hl => ?_)
    refine lv_iconst (v := 0) hx hb dX11_inWays_40 (by decide) ?_
    refine lv_istore (lv' := [(9, .int 0), (7, .long 0), (5, .long r32), (4, .int r1), (0, .ref (wa E 0 0)), (1, .ref (wa E 43 a1)), (2, .int a2), (3, .int a3)]) hx hb dX11_inWays_41 hl (by decide) rfl (fun ls hl => ?_)
    obtain ⟨n43, h⟩ := h
    exact bX11_inWays_43 X n43 a1 r1 r32 0 0 _ _ _ _ _ hp_a1 h hW (lv_sub hl [4, 5, 3, 2, 1, 0] rfl)
  · have h := h.2 c12
    refine lv_lconst (v := 0) hx hb dX11_inWays_15 (by decide) ?_
    exact e_l X hW h dX11_inWays_16
def wX11_power_b5 (g : GS) (Q : Int64 → MI → MJ → Prop) : Nat → Int64 → Int32 → Int64 → Int32 → MI → MJ → Prop
  | 0, _, _, _, _, _, _ => False
  | n + 1, v0, v2, v3, v5, I, J => ((v2 ≤ v5 → Q v3 I J) ∧ (¬ v2 ≤ v5 → wX11_power_b5 g Q n v0 v2 (v3 * v0) (v5 + 1) I J))
set_option maxHeartbeats 4000000 in
set_option maxRecDepth 100000 in
theorem bX11_power_5 {p : Program} {l : Launch} {e : Env} {s : State} {m : MethodId} {args : Array Value} {below : List Frame} {meth : Method} {c : Code} {E : WE} {Q : Int64 → MI → MJ → Prop} (X : Cx E cX11_power 6 RX11 ((Option.some FieldType.long)) p s m args c meth) (n : Nat) : ∀ (v0 : Int64) (v2 : Int32) (v3 : Int64) (v5 : Int32) (I : MI) (J : MJ) (H : Heap) (locs : List Loc) (ls : Array Slot), wX11_power_b5 (wg E) Q n v0 v2 v3 v5 I J → Wd E I J s H locs → lv_has ls 6 [(0, .long v0), (2, .int v2), (3, .long v3), (5, .int v5)] → W p l e (rmO 0 0) s m args below meth c H locs 0 0 (MQ below (QL E Q) args s 0 0 (AA E)) (F0 m 5 ls []) := by
  have hx := X.1.1
  have hb := X.1.2.1
  induction n with
  | zero => intro v0 v2 v3 v5 I J H locs ls h hW hl; exact h.elim
  | succ n ih =>
    intro v0 v2 v3 v5 I J H locs ls h hW hl
    refine lv_iload hx hb dX11_power_5 (lv_at hl 3 rfl) ?_
    refine lv_iload_n hx hb dX11_power_7 rfl (lv_at hl 1 rfl) ?_
    refine lv_icmp_ge (tgt := 21) hx hb dX11_power_8 (by decide) (fun c8 => ?_) (fun c8 => ?_)
    · have h := h.1 c8
      refine lv_lload_n hx hb dX11_power_21 rfl (lv_at hl 2 rfl) ?_
      exact e_l X hW h dX11_power_22
    · have h := h.2 c8
      refine lv_lload_n hx hb dX11_power_11 rfl (lv_at hl 2 rfl) ?_
      refine lv_lload_n hx hb dX11_power_12 rfl (lv_at hl 0 rfl) ?_
      refine lv_lmul hx hb dX11_power_13 ?_
      refine lv_lstore_n (lv' := [(3, .long (v3 * v0)), (0, .long v0), (2, .int v2), (5, .int v5)]) hx hb dX11_power_14 rfl hl (by decide) rfl (fun ls hl => ?_)
      refine lv_iinc (v := v5 + 1) (lv' := [(5, .int (v5 + 1)), (3, .long (v3 * v0)), (0, .long v0), (2, .int v2)]) hx hb dX11_power_15 hl (k := 3) rfl rfl (by decide) rfl (fun ls hl => ?_)
      refine lv_goto (tgt := 5) hx hb dX11_power_18 (by decide) ?_
      exact ih v0 v2 (v3 * v0) (v5 + 1) _ _ _ _ _  h hW (lv_sub hl [2, 3, 1, 0] rfl)
def wX11_power (g : GS) (a0 : Int64) (a2 : Int32) (I : MI) (J : MJ) (Q : Int64 → MI → MJ → Prop) : Prop :=
  ∃ n5, wX11_power_b5 g Q n5 a0 a2 1 0 I J
theorem mbX11_power : MB yX11_power cX11_power 6 ((Option.some FieldType.long)) 2 := ⟨tw582, tw1, ⟨by decide, by decide⟩, by decide +kernel, by decide +kernel⟩
set_option maxHeartbeats 4000000 in
set_option maxRecDepth 100000 in
theorem kX11_power {l : Launch} {E : WE} {a0 : Int64} {a2 : Int32} {I : MI} {J : MJ} {Q : Int64 → MI → MJ → Prop} (h : wX11_power (wg E) a0 a2 I J Q) : Met l yX11_power (wsM yX11_power cX11_power 6 ((Option.some FieldType.long))) (rmO 0 0) (va_Pc [.long a0, .int a2] (Wp E I J)) (QL E Q) 0 0 (AA E) := by
  refine m_entry mbX11_power (Nat.le_of_ble_eq_true rfl) ?_
  intro p e s m args below meth c X ls hW hl
  have X : Cx E cX11_power 6 RX11 ((Option.some FieldType.long)) p s m args c meth := X
  have hx := X.1.1
  have hb := X.1.2.1
  have hl : lv_has ls 6 [(0, .long a0), (2, .int a2)] := hl
  refine lv_lconst (v := 1) hx hb dX11_power_0 (by decide) ?_
  refine lv_lstore_n (lv' := [(3, .long 1), (0, .long a0), (2, .int a2)]) hx hb dX11_power_1 rfl hl (by decide) rfl (fun ls hl => ?_)
  refine lv_iconst (v := 0) hx hb dX11_power_2 (by decide) ?_
  refine lv_istore (lv' := [(5, .int 0), (3, .long 1), (0, .long a0), (2, .int a2)]) hx hb dX11_power_3 hl (by decide) rfl (fun ls hl => ?_)
  obtain ⟨n5, h⟩ := h
  exact bX11_power_5 X n5 a0 a2 1 0 _ _ _ _ _  h hW (lv_sub hl [2, 3, 1, 0] rfl)
def wX11_squaredTens (g : GS) (a0 : Int32) (I : MI) (J : MJ) (Q : Int64 → MI → MJ → Prop) : Prop :=
  wJ6_bitCount_0f7a4 g a0 I J (fun r4 I4 J4 => wX11_power g 10 r4 I4 J4 (fun r7 I7 J7 => Q (r7 * r7) I7 J7))
theorem mbX11_squaredTens : MB yX11_squaredTens cX11_squaredTens 3 ((Option.some FieldType.long)) 1 := ⟨tw578, tw1, ⟨by decide, by decide⟩, by decide +kernel, by decide +kernel⟩
set_option maxHeartbeats 4000000 in
set_option maxRecDepth 100000 in
theorem kX11_squaredTens {l : Launch} {E : WE} {a0 : Int32} {I : MI} {J : MJ} {Q : Int64 → MI → MJ → Prop} (h : wX11_squaredTens (wg E) a0 I J Q) : Met l yX11_squaredTens (wsM yX11_squaredTens cX11_squaredTens 3 ((Option.some FieldType.long))) (rmO 1 25) (va_Pc [.int a0] (Wp E I J)) (QL E Q) 0 0 (AA E) := by
  refine m_entry mbX11_squaredTens (Nat.le_of_ble_eq_true rfl) ?_
  intro p e s m args below meth c X ls hW hl
  have X : Cx E cX11_squaredTens 3 RX11 ((Option.some FieldType.long)) p s m args c meth := X
  have hx := X.1.1
  have hb := X.1.2.1
  have hl : lv_has ls 3 [(0, .int a0)] := hl
  refine lv_ldc2 hx hb X.1.2.2.2.1 (X.1.2.2.2.2 _ tw579) dX11_squaredTens_0 ?_
  refine lv_iload_n hx hb dX11_squaredTens_3 rfl (lv_at hl 0 rfl) ?_
  refine af_i hW (rn_S X hW (As := [.int a0]) (rest := [.long 10]) (kJ6_bitCount_0f7a4 h) mbJ6_bitCount_0f7a4 tw483 tw484 rfl hl.1 (Nat.le_of_ble_eq_true rfl) ⟨(Nat.le_of_ble_eq_true rfl), (Nat.le_of_ble_eq_true rfl)⟩ dX11_squaredTens_4) (fun r4 I4 J4 H locs h hW => ?_)
  refine af_l hW (rn_S X hW (As := [.long 10, .int r4]) (rest := []) (kX11_power h) mbX11_power tw580 tw581 rfl hl.1 (Nat.le_of_ble_eq_true rfl) ⟨(Nat.le_of_ble_eq_true rfl), (Nat.le_of_ble_eq_true rfl)⟩ dX11_squaredTens_7) (fun r7 I7 J7 H locs h hW => ?_)
  refine lv_lstore_n (lv' := [(1, .long r7), (0, .int a0)]) hx hb dX11_squaredTens_10 rfl hl (by decide) rfl (fun ls hl => ?_)
  refine lv_lload_n hx hb dX11_squaredTens_11 rfl (lv_at hl 0 rfl) ?_
  refine lv_lload_n hx hb dX11_squaredTens_12 rfl (lv_at hl 0 rfl) ?_
  refine lv_lmul hx hb dX11_squaredTens_13 ?_
  exact e_l X hW h dX11_squaredTens_14
def wX11_in (g : GS) (a1 : Int32) (a2 : Int32) (a3 : Int32) (a4 : Int32) (I : MI) (J : MJ) (Q : Int64 → MI → MJ → Prop) : Prop :=
  wX11_ruleAt g a1 I J (fun o2 I2 J2 => (o2 = none → Q ((-101)) I2 J2) ∧ (∀ r2, o2 = some r2 → wX11_isCandidate g a2 I2 J2 (fun r14 I14 J14 => ((¬ r14 = 0 → wX11_areComers g a3 I14 J14 (fun r26 I26 J26 => ((r26 = 0 → Q ((-102)) I26 J26) ∧ (¬ r26 = 0 → wX11_isPart g a4 I26 J26 (fun r34 I34 J34 => ((¬ r34 = 0 → wX11_inWays g r2 a2 a3 I34 J34 (fun r49 I49 J49 => wX11_squaredTens g a3 I49 J49 (fun r53 I53 J53 => wX11_lowest g r49 r53 a4 I53 J53 (fun r58 I58 J58 => Q r58 I58 J58)))) ∧ (r34 = 0 → Q ((-102)) I34 J34))))))) ∧ (r14 = 0 → Q ((-101)) I14 J14)))))
theorem mbX11_in : MB yX11_in cX11_in 6 ((Option.some FieldType.long)) 4 := ⟨tw561, tw1, ⟨by decide, by decide⟩, by decide +kernel, by decide +kernel⟩
set_option maxHeartbeats 4000000 in
set_option maxRecDepth 100000 in
theorem kX11_in {l : Launch} {E : WE} {a1 : Int32} {a2 : Int32} {a3 : Int32} {a4 : Int32} {I : MI} {J : MJ} {Q : Int64 → MI → MJ → Prop} (h : wX11_in (wg E) a1 a2 a3 a4 I J Q) : Met l yX11_in (wsM yX11_in cX11_in 6 ((Option.some FieldType.long))) (rmO 6 142) (va_Pc [.ref (wa E 0 0), .int a1, .int a2, .int a3, .int a4] (Wp E I J)) (QL E Q) 0 0 (AA E) := by
  refine m_entry mbX11_in (Nat.le_of_ble_eq_true rfl) ?_
  intro p e s m args below meth c X ls hW hl
  have X : Cx E cX11_in 6 RX11 ((Option.some FieldType.long)) p s m args c meth := X
  have hx := X.1.1
  have hb := X.1.2.1
  have hl : lv_has ls 6 [(0, .ref (wa E 0 0)), (1, .int a1), (2, .int a2), (3, .int a3), (4, .int a4)] := hl
  refine lv_aload_n hx hb dX11_in_0 rfl (lv_at hl 0 rfl) ?_
  refine lv_iload_n hx hb dX11_in_1 rfl (lv_at hl 1 rfl) ?_
  refine af_r hW (rn_V X hW (As := [.int a1]) (rest := []) (okS hW sc0_0) rfl rfl (kX11_ruleAt h) mbX11_ruleAt tw258 tw260 tp1 rfl hl.1 (Nat.le_of_ble_eq_true rfl) ⟨(Nat.le_of_ble_eq_true rfl), (Nat.le_of_ble_eq_true rfl)⟩ dX11_in_2) (fun I2 J2 H locs h hW => ?_) (fun r2 I2 J2 H locs c2 h hW => ?_)
  · have h := h.1 rfl
    refine lv_astoreN (lv' := [(5, .null), (0, .ref (wa E 0 0)), (1, .int a1), (2, .int a2), (3, .int a3), (4, .int a4)]) hx hb dX11_in_5 hl (by decide) rfl (fun ls hl => ?_)
    refine lv_aloadN hx hb dX11_in_7 (lv_at hl 0 rfl) ?_
    refine lv_ifnullN (tgt := 20) hx hb dX11_in_9 (by decide) ?_
    refine lv_ldc2 hx hb X.1.2.2.2.1 (X.1.2.2.2.2 _ tw562) dX11_in_20 ?_
    exact e_l X hW h dX11_in_23
  · have h := h.2 r2 rfl
    refine lv_astore (lv' := [(5, .ref (wa E 43 r2)), (0, .ref (wa E 0 0)), (1, .int a1), (2, .int a2), (3, .int a3), (4, .int a4)]) hx hb dX11_in_5 hl (by decide) rfl (fun ls hl => ?_)
    refine lv_aload hx hb dX11_in_7 (lv_at hl 0 rfl) ?_
    refine lv_ifnull hx hb dX11_in_9 ?_
    refine lv_aload_n hx hb dX11_in_12 rfl (lv_at hl 1 rfl) ?_
    refine lv_iload_n hx hb dX11_in_13 rfl (lv_at hl 3 rfl) ?_
    refine af_i hW (rn_V X hW (As := [.int a2]) (rest := []) (okS hW sc0_0) rfl rfl (kX11_isCandidate h) mbX11_isCandidate tw417 tw419 tp4 rfl hl.1 (Nat.le_of_ble_eq_true rfl) ⟨(Nat.le_of_ble_eq_true rfl), (Nat.le_of_ble_eq_true rfl)⟩ dX11_in_14) (fun r14 I14 J14 H locs h hW => ?_)
    refine lv_if_ne (tgt := 24) hx hb dX11_in_17 (by decide) (fun c17 => ?_) (fun c17 => ?_)
    · have h := h.1 c17
      refine lv_aload_n hx hb dX11_in_24 rfl (lv_at hl 1 rfl) ?_
      refine lv_iload_n hx hb dX11_in_25 rfl (lv_at hl 4 rfl) ?_
      refine af_i hW (rn_V X hW (As := [.int a3]) (rest := []) (okS hW sc0_0) rfl rfl (kX11_areComers h) mbX11_areComers tw469 tw471 tp8 rfl hl.1 (Nat.le_of_ble_eq_true rfl) ⟨(Nat.le_of_ble_eq_true rfl), (Nat.le_of_ble_eq_true rfl)⟩ dX11_in_26) (fun r26 I26 J26 H locs h hW => ?_)
      refine lv_if_eq (tgt := 40) hx hb dX11_in_29 (by decide) (fun c29 => ?_) (fun c29 => ?_)
      · have h := h.1 c29
        refine lv_ldc2 hx hb X.1.2.2.2.1 (X.1.2.2.2.2 _ tw563) dX11_in_40 ?_
        exact e_l X hW h dX11_in_43
      · have h := h.2 c29
        refine lv_iload hx hb dX11_in_32 (lv_at hl 5 rfl) ?_
        refine af_i hW (rn_S X hW (As := [.int a4]) (rest := []) (kX11_isPart h) mbX11_isPart tw527 tw528 rfl hl.1 (Nat.le_of_ble_eq_true rfl) ⟨(Nat.le_of_ble_eq_true rfl), (Nat.le_of_ble_eq_true rfl)⟩ dX11_in_34) (fun r34 I34 J34 H locs h hW => ?_)
        refine lv_if_ne (tgt := 44) hx hb dX11_in_37 (by decide) (fun c37 => ?_) (fun c37 => ?_)
        · have h := h.1 c37
          refine lv_aload_n hx hb dX11_in_44 rfl (lv_at hl 1 rfl) ?_
          refine lv_aload hx hb dX11_in_45 (lv_at hl 0 rfl) ?_
          refine lv_iload_n hx hb dX11_in_47 rfl (lv_at hl 3 rfl) ?_
          refine lv_iload_n hx hb dX11_in_48 rfl (lv_at hl 4 rfl) ?_
          refine af_l hW (rn_V X hW (As := [.ref (wa E 43 r2), .int a2, .int a3]) (rest := []) (okS hW sc0_0) rfl rfl (kX11_inWays c2 h) mbX11_inWays tw564 tw566 tp12 rfl hl.1 (Nat.le_of_ble_eq_true rfl) ⟨(Nat.le_of_ble_eq_true rfl), (Nat.le_of_ble_eq_true rfl)⟩ dX11_in_49) (fun r49 I49 J49 H locs h hW => ?_)
          refine lv_iload_n hx hb dX11_in_52 rfl (lv_at hl 4 rfl) ?_
          refine af_l hW (rn_S X hW (As := [.int a3]) (rest := [.long r49]) (kX11_squaredTens h) mbX11_squaredTens tw576 tw577 rfl hl.1 (Nat.le_of_ble_eq_true rfl) ⟨(Nat.le_of_ble_eq_true rfl), (Nat.le_of_ble_eq_true rfl)⟩ dX11_in_53) (fun r53 I53 J53 H locs h hW => ?_)
          refine lv_iload hx hb dX11_in_56 (lv_at hl 5 rfl) ?_
          refine af_l hW (rn_S X hW (As := [.long r49, .long r53, .int a4]) (rest := []) (kX11_lowest h) mbX11_lowest tw551 tw552 rfl hl.1 (Nat.le_of_ble_eq_true rfl) ⟨(Nat.le_of_ble_eq_true rfl), (Nat.le_of_ble_eq_true rfl)⟩ dX11_in_58) (fun r58 I58 J58 H locs h hW => ?_)
          exact e_l X hW h dX11_in_61
        · have h := h.2 c37
          refine lv_ldc2 hx hb X.1.2.2.2.1 (X.1.2.2.2.2 _ tw563) dX11_in_40 ?_
          exact e_l X hW h dX11_in_43
    · have h := h.2 c17
      refine lv_ldc2 hx hb X.1.2.2.2.1 (X.1.2.2.2.2 _ tw562) dX11_in_20 ?_
      exact e_l X hW h dX11_in_23
def wX11_large_b68 (g : GS) (Q : Int64 → MI → MJ → Prop) : Nat → Int32 → Int32 → Nat → Int32 → Int32 → MI → MJ → Prop
  | 0, _, _, _, _, _, _, _ => False
  | n + 1, v2, v3, v4, v5, v6, I, J => (((I 0 0 10) ≤ v6 → wX9_waysIn g v4 I J (fun r120 I120 J120 => wX9_all g I120 J120 (fun r127 I127 J127 => wX11_lowest g r120 r127 v3 I127 J127 (fun r131 I131 J131 => Q r131 I131 J131)))) ∧ (¬ (I 0 0 10) ≤ v6 → vp_in v6 8 ∧ ((¬ (Int32.toNatClampNeg v6) < g.2.1 → False) ∧ ((Int32.toNatClampNeg v6) < g.2.1 → vp_in v6 8 ∧ ((¬ (Int32.toNatClampNeg v6) < g.2.1 → False) ∧ ((Int32.toNatClampNeg v6) < g.2.1 → wX11_blackOf g ((Int32.toNatClampNeg v6)) v2 v5 I J (fun r102 I102 J102 => wX9_mayCome g (I 40 (Int32.toNatClampNeg v6) 3) r102 I102 J102 (fun I105 J105 => wX11_large_b68 g Q n v2 v3 v4 v5 (v6 + 1) I105 J105))))))))
set_option maxHeartbeats 4000000 in
set_option maxRecDepth 100000 in
theorem bX11_large_68 {p : Program} {l : Launch} {e : Env} {s : State} {m : MethodId} {args : Array Value} {below : List Frame} {meth : Method} {c : Code} {E : WE} {Q : Int64 → MI → MJ → Prop} (X : Cx E cX11_large 7 RX11 ((Option.some FieldType.long)) p s m args c meth) (n : Nat) : ∀ (v2 : Int32) (v3 : Int32) (v4 : Nat) (v5 : Int32) (v6 : Int32) (I : MI) (J : MJ) (H : Heap) (locs : List Loc) (ls : Array Slot), v4 < (wg E).2.2 → wX11_large_b68 (wg E) Q n v2 v3 v4 v5 v6 I J → Wd E I J s H locs → lv_has ls 7 [(0, .ref (wa E 0 0)), (2, .int v2), (3, .int v3), (4, .ref (wa E 43 v4)), (5, .int v5), (6, .int v6)] → W p l e (rmO 4 89) s m args below meth c H locs 0 0 (MQ below (QL E Q) args s 0 0 (AA E)) (F0 m 68 ls []) := by
  have hx := X.1.1
  have hb := X.1.2.1
  induction n with
  | zero => intro v2 v3 v4 v5 v6 I J H locs ls hp_v4 h hW hl; exact h.elim
  | succ n ih =>
    intro v2 v3 v4 v5 v6 I J H locs ls hp_v4 h hW hl
    refine lv_iload hx hb dX11_large_68 (lv_at hl 5 rfl) ?_
    refine lv_aload_n hx hb dX11_large_70 rfl (lv_at hl 0 rfl) ?_
    refine r_get X hW 10 (okS hW sc0_0) rfl rfl inX11 (Nat.le_of_ble_eq_true rfl) tw142 rfl dX11_large_71 ?_
    refine lv_icmp_ge (tgt := 114) hx hb dX11_large_74 (by decide) (fun c74 => ?_) (fun c74 => ?_)
    · have h := h.1 c74
      refine lv_aload_n hx hb dX11_large_114 rfl (lv_at hl 0 rfl) ?_
      refine r_get X hW 5 (okS hW sc0_0) rfl rfl inX11 (Nat.le_of_ble_eq_true rfl) tw137 rfl dX11_large_115 ?_
      refine lv_aload hx hb dX11_large_118 (lv_at hl 3 rfl) ?_
      refine af_l hW (rn_V X hW (As := [.ref (wa E 43 v4)]) (rest := []) (okS hW sc8_0) rfl rfl (kX9_waysIn hp_v4 h) mbX9_waysIn tw604 tw605 tw606 rfl hl.1 (Nat.le_of_ble_eq_true rfl) ⟨(Nat.le_of_ble_eq_true rfl), (Nat.le_of_ble_eq_true rfl)⟩ dX11_large_120) (fun r120 I120 J120 H locs h hW => ?_)
      refine lv_aload_n hx hb dX11_large_123 rfl (lv_at hl 0 rfl) ?_
      refine r_get X hW 5 (okS hW sc0_0) rfl rfl inX11 (Nat.le_of_ble_eq_true rfl) tw137 rfl dX11_large_124 ?_
      refine af_l hW (rn_V X hW (As := []) (rest := [.long r120]) (okS hW sc8_0) rfl rfl (kX9_all h) mbX9_all tw614 tw615 tw616 rfl hl.1 (Nat.le_of_ble_eq_true rfl) ⟨(Nat.le_of_ble_eq_true rfl), (Nat.le_of_ble_eq_true rfl)⟩ dX11_large_127) (fun r127 I127 J127 H locs h hW => ?_)
      refine lv_iload_n hx hb dX11_large_130 rfl (lv_at hl 2 rfl) ?_
      refine af_l hW (rn_S X hW (As := [.long r120, .long r127, .int v3]) (rest := []) (kX11_lowest h) mbX11_lowest tw551 tw552 rfl hl.1 (Nat.le_of_ble_eq_true rfl) ⟨(Nat.le_of_ble_eq_true rfl), (Nat.le_of_ble_eq_true rfl)⟩ dX11_large_131) (fun r131 I131 J131 H locs h hW => ?_)
      exact e_l X hW h dX11_large_134
    · have h := h.2 c74
      refine lv_aload_n hx hb dX11_large_77 rfl (lv_at hl 0 rfl) ?_
      refine r_get X hW 5 (okS hW sc0_0) rfl rfl inX11 (Nat.le_of_ble_eq_true rfl) tw137 rfl dX11_large_78 ?_
      refine lv_aload_n hx hb dX11_large_81 rfl (lv_at hl 0 rfl) ?_
      refine r_get X hW 2 (okS hW sc0_0) rfl rfl inX11 (Nat.le_of_ble_eq_true rfl) tw134 rfl dX11_large_82 ?_
      refine lv_iload hx hb dX11_large_85 (lv_at hl 5 rfl) ?_
      refine r_aaP X hW h.1 dX11_large_87 (fun c87 => ?_) (fun c87 => ?_)
      · have h := h.2.1 c87
        exact h.elim
      · have h := h.2.2 c87
        refine r_getP3N X hW c87 nw293 dX11_large_88 ?_
        refine lv_aload_n hx hb dX11_large_91 rfl (lv_at hl 0 rfl) ?_
        refine lv_aload_n hx hb dX11_large_92 rfl (lv_at hl 0 rfl) ?_
        refine r_get X hW 2 (okS hW sc0_0) rfl rfl inX11 (Nat.le_of_ble_eq_true rfl) tw134 rfl dX11_large_93 ?_
        refine lv_iload hx hb dX11_large_96 (lv_at hl 5 rfl) ?_
        refine r_aaP X hW h.1 dX11_large_98 (fun c98 => ?_) (fun c98 => ?_)
        · have h := h.2.1 c98
          refine lv_iload_n hx hb dX11_large_99 rfl (lv_at hl 1 rfl) ?_
          refine lv_iload hx hb dX11_large_100 (lv_at hl 4 rfl) ?_
          exact h.elim
        · have h := h.2.2 c98
          refine lv_iload_n hx hb dX11_large_99 rfl (lv_at hl 1 rfl) ?_
          refine lv_iload hx hb dX11_large_100 (lv_at hl 4 rfl) ?_
          refine af_i hW (rn_V X hW (As := [.ref (wa E 40 (Int32.toNatClampNeg v6)), .int v2, .int v5]) (rest := [.int (I 40 (Int32.toNatClampNeg v6) 3), .ref (wa E 8 0)]) (okS hW sc0_0) rfl rfl (kX11_blackOf c98 h) mbX11_blackOf tw489 tw491 tp10 rfl hl.1 (Nat.le_of_ble_eq_true rfl) ⟨(Nat.le_of_ble_eq_true rfl), (Nat.le_of_ble_eq_true rfl)⟩ dX11_large_102) (fun r102 I102 J102 H locs h hW => ?_)
          refine af_v hW (rn_V X hW (As := [.int (I 40 (Int32.toNatClampNeg v6) 3), .int r102]) (rest := []) (okS hW sc8_0) rfl rfl (kX9_mayCome h) mbX9_mayCome tw595 tw596 tw597 rfl hl.1 (Nat.le_of_ble_eq_true rfl) ⟨(Nat.le_of_ble_eq_true rfl), (Nat.le_of_ble_eq_true rfl)⟩ dX11_large_105) (fun I105 J105 H locs h hW => ?_)
          refine lv_iinc (v := v6 + 1) (lv' := [(6, .int (v6 + 1)), (0, .ref (wa E 0 0)), (2, .int v2), (3, .int v3), (4, .ref (wa E 43 v4)), (5, .int v5)]) hx hb dX11_large_108 hl (k := 5) rfl rfl (by decide) rfl (fun ls hl => ?_)
          refine lv_goto (tgt := 68) hx hb dX11_large_111 (by decide) ?_
          exact ih v2 v3 v4 v5 (v6 + 1) _ _ _ _ _ hp_v4 h hW (lv_sub hl [1, 2, 3, 4, 5, 0] rfl)
def wX11_large (g : GS) (a1 : Int32) (a2 : Int32) (a3 : Int32) (I : MI) (J : MJ) (Q : Int64 → MI → MJ → Prop) : Prop :=
  wX11_ruleAt g a1 I J (fun o2 I2 J2 => (o2 = none → Q ((-101)) I2 J2) ∧ (∀ r2, o2 = some r2 → wX11_isCandidate g a2 I2 J2 (fun r14 I14 J14 => ((¬ r14 = 0 → wX11_isPart g a3 I14 J14 (fun r25 I25 J25 => ((¬ r25 = 0 → (((I25 43 r2 3) = 0 → wX11_everybody g I25 J25 (fun r50 I50 J50 => wX11_isWatched g r2 r50 I50 J50 (fun r53 I53 J53 => wX9_begin g I53 J53 (fun I62 J62 => ∃ n68, wX11_large_b68 g Q n68 a2 a3 r2 r53 0 I62 J62)))) ∧ (¬ (I25 43 r2 3) = 0 → Q ((-103)) I25 J25))) ∧ (r25 = 0 → Q ((-102)) I25 J25)))) ∧ (r14 = 0 → Q ((-101)) I14 J14)))))
theorem mbX11_large : MB yX11_large cX11_large 7 ((Option.some FieldType.long)) 3 := ⟨tw586, tw1, ⟨by decide, by decide⟩, by decide +kernel, by decide +kernel⟩
set_option maxHeartbeats 4000000 in
set_option maxRecDepth 100000 in
theorem kX11_large {l : Launch} {E : WE} {a1 : Int32} {a2 : Int32} {a3 : Int32} {I : MI} {J : MJ} {Q : Int64 → MI → MJ → Prop} (h : wX11_large (wg E) a1 a2 a3 I J Q) : Met l yX11_large (wsM yX11_large cX11_large 7 ((Option.some FieldType.long))) (rmO 4 89) (va_Pc [.ref (wa E 0 0), .int a1, .int a2, .int a3] (Wp E I J)) (QL E Q) 0 0 (AA E) := by
  refine m_entry mbX11_large (Nat.le_of_ble_eq_true rfl) ?_
  intro p e s m args below meth c X ls hW hl
  have X : Cx E cX11_large 7 RX11 ((Option.some FieldType.long)) p s m args c meth := X
  have hx := X.1.1
  have hb := X.1.2.1
  have hl : lv_has ls 7 [(0, .ref (wa E 0 0)), (1, .int a1), (2, .int a2), (3, .int a3)] := hl
  refine lv_aload_n hx hb dX11_large_0 rfl (lv_at hl 0 rfl) ?_
  refine lv_iload_n hx hb dX11_large_1 rfl (lv_at hl 1 rfl) ?_
  refine af_r hW (rn_V X hW (As := [.int a1]) (rest := []) (okS hW sc0_0) rfl rfl (kX11_ruleAt h) mbX11_ruleAt tw258 tw260 tp1 rfl hl.1 (Nat.le_of_ble_eq_true rfl) ⟨(Nat.le_of_ble_eq_true rfl), (Nat.le_of_ble_eq_true rfl)⟩ dX11_large_2) (fun I2 J2 H locs h hW => ?_) (fun r2 I2 J2 H locs c2 h hW => ?_)
  · have h := h.1 rfl
    refine lv_astoreN (lv' := [(4, .null), (0, .ref (wa E 0 0)), (1, .int a1), (2, .int a2), (3, .int a3)]) hx hb dX11_large_5 hl (by decide) rfl (fun ls hl => ?_)
    refine lv_aloadN hx hb dX11_large_7 (lv_at hl 0 rfl) ?_
    refine lv_ifnullN (tgt := 20) hx hb dX11_large_9 (by decide) ?_
    refine lv_ldc2 hx hb X.1.2.2.2.1 (X.1.2.2.2.2 _ tw562) dX11_large_20 ?_
    exact e_l X hW h dX11_large_23
  · have h := h.2 r2 rfl
    refine lv_astore (lv' := [(4, .ref (wa E 43 r2)), (0, .ref (wa E 0 0)), (1, .int a1), (2, .int a2), (3, .int a3)]) hx hb dX11_large_5 hl (by decide) rfl (fun ls hl => ?_)
    refine lv_aload hx hb dX11_large_7 (lv_at hl 0 rfl) ?_
    refine lv_ifnull hx hb dX11_large_9 ?_
    refine lv_aload_n hx hb dX11_large_12 rfl (lv_at hl 1 rfl) ?_
    refine lv_iload_n hx hb dX11_large_13 rfl (lv_at hl 3 rfl) ?_
    refine af_i hW (rn_V X hW (As := [.int a2]) (rest := []) (okS hW sc0_0) rfl rfl (kX11_isCandidate h) mbX11_isCandidate tw417 tw419 tp4 rfl hl.1 (Nat.le_of_ble_eq_true rfl) ⟨(Nat.le_of_ble_eq_true rfl), (Nat.le_of_ble_eq_true rfl)⟩ dX11_large_14) (fun r14 I14 J14 H locs h hW => ?_)
    refine lv_if_ne (tgt := 24) hx hb dX11_large_17 (by decide) (fun c17 => ?_) (fun c17 => ?_)
    · have h := h.1 c17
      refine lv_iload_n hx hb dX11_large_24 rfl (lv_at hl 4 rfl) ?_
      refine af_i hW (rn_S X hW (As := [.int a3]) (rest := []) (kX11_isPart h) mbX11_isPart tw527 tw528 rfl hl.1 (Nat.le_of_ble_eq_true rfl) ⟨(Nat.le_of_ble_eq_true rfl), (Nat.le_of_ble_eq_true rfl)⟩ dX11_large_25) (fun r25 I25 J25 H locs h hW => ?_)
      refine lv_if_ne (tgt := 35) hx hb dX11_large_28 (by decide) (fun c28 => ?_) (fun c28 => ?_)
      · have h := h.1 c28
        refine lv_aload hx hb dX11_large_35 (lv_at hl 0 rfl) ?_
        refine r_getN X hW 3 (okR hW c2) rfl rfl inX6 (Nat.le_of_ble_eq_true rfl) nw240 rfl dX11_large_37 ?_
        refine lv_if_eq (tgt := 47) hx hb dX11_large_40 (by decide) (fun c40 => ?_) (fun c40 => ?_)
        · have h := h.1 c40
          refine lv_aload hx hb dX11_large_47 (lv_at hl 0 rfl) ?_
          refine lv_aload_n hx hb dX11_large_49 rfl (lv_at hl 1 rfl) ?_
          refine af_i hW (rn_V X hW (As := []) (rest := [.ref (wa E 43 r2)]) (okS hW sc0_0) rfl rfl (kX11_everybody h) mbX11_everybody tw473 tw475 tp9 rfl hl.1 (Nat.le_of_ble_eq_true rfl) ⟨(Nat.le_of_ble_eq_true rfl), (Nat.le_of_ble_eq_true rfl)⟩ dX11_large_50) (fun r50 I50 J50 H locs h hW => ?_)
          refine af_i hW (rn_S X hW (As := [.ref (wa E 43 r2), .int r50]) (rest := []) (kX11_isWatched c2 h) mbX11_isWatched tw480 tw481 rfl hl.1 (Nat.le_of_ble_eq_true rfl) ⟨(Nat.le_of_ble_eq_true rfl), (Nat.le_of_ble_eq_true rfl)⟩ dX11_large_53) (fun r53 I53 J53 H locs h hW => ?_)
          refine lv_istore (lv' := [(5, .int r53), (4, .ref (wa E 43 r2)), (0, .ref (wa E 0 0)), (1, .int a1), (2, .int a2), (3, .int a3)]) hx hb dX11_large_56 hl (by decide) rfl (fun ls hl => ?_)
          refine lv_aload_n hx hb dX11_large_58 rfl (lv_at hl 2 rfl) ?_
          refine r_get X hW 5 (okS hW sc0_0) rfl rfl inX11 (Nat.le_of_ble_eq_true rfl) tw137 rfl dX11_large_59 ?_
          refine af_v hW (rn_V X hW (As := []) (rest := []) (okS hW sc8_0) rfl rfl (kX9_begin h) mbX9_begin tw588 tw589 tw590 rfl hl.1 (Nat.le_of_ble_eq_true rfl) ⟨(Nat.le_of_ble_eq_true rfl), (Nat.le_of_ble_eq_true rfl)⟩ dX11_large_62) (fun I62 J62 H locs h hW => ?_)
          refine lv_iconst (v := 0) hx hb dX11_large_65 (by decide) ?_
          refine lv_istore (lv' := [(6, .int 0), (5, .int r53), (4, .ref (wa E 43 r2)), (0, .ref (wa E 0 0)), (1, .int a1), (2, .int a2), (3, .int a3)]) hx hb dX11_large_66 hl (by decide) rfl (fun ls hl => ?_)
          obtain ⟨n68, h⟩ := h
          exact bX11_large_68 X n68 a2 a3 r2 r53 0 _ _ _ _ _ c2 h hW (lv_sub hl [3, 5, 6, 2, 1, 0] rfl)
        · have h := h.2 c40
          refine lv_ldc2 hx hb X.1.2.2.2.1 (X.1.2.2.2.2 _ tw587) dX11_large_43 ?_
          exact e_l X hW h dX11_large_46
      · have h := h.2 c28
        refine lv_ldc2 hx hb X.1.2.2.2.1 (X.1.2.2.2.2 _ tw563) dX11_large_31 ?_
        exact e_l X hW h dX11_large_34
    · have h := h.2 c17
      refine lv_ldc2 hx hb X.1.2.2.2.1 (X.1.2.2.2.2 _ tw562) dX11_large_20 ?_
      exact e_l X hW h dX11_large_23
