def wX7_waysTo (g : GS) (a1 : Int32) (I : MI) (J : MJ) (Q : Int64 → MI → MJ → Prop) : Prop :=
  ((a1 < 0 → Q 0 I J) ∧ (¬ a1 < 0 → (((I 6 0 1) < a1 → Q 0 I J) ∧ (¬ (I 6 0 1) < a1 → vp_in a1 9 ∧ (Q (J 7 0 (Int32.toNatClampNeg a1)) I J)))))
theorem mbX7_waysTo : MB yX7_waysTo cX7_waysTo 2 ((Option.some FieldType.long)) 1 := ⟨tw546, tw3, ⟨by decide, by decide⟩, by decide +kernel, by decide +kernel⟩
set_option maxHeartbeats 4000000 in
set_option maxRecDepth 100000 in
theorem kX7_waysTo {l : Launch} {E : WE} {a1 : Int32} {I : MI} {J : MJ} {Q : Int64 → MI → MJ → Prop} (h : wX7_waysTo (wg E) a1 I J Q) : Met l yX7_waysTo (wsM yX7_waysTo cX7_waysTo 2 ((Option.some FieldType.long))) (rmO 0 0) (va_Pc [.ref (wa E 6 0), .int a1] (Wp E I J)) (QL E Q) 0 0 (AA E) := by
  refine m_entry mbX7_waysTo (Nat.le_of_ble_eq_true rfl) ?_
  intro p e s m args below meth c X ls hW hl
  have X : Cx E cX7_waysTo 2 RX7 ((Option.some FieldType.long)) p s m args c meth := X
  have hx := X.1.1
  have hb := X.1.2.1
  have hl : lv_has ls 2 [(0, .ref (wa E 6 0)), (1, .int a1)] := hl
  refine lv_iload_n hx hb dX7_waysTo_0 rfl (lv_at hl 1 rfl) ?_
  refine lv_if_lt (tgt := 21) hx hb dX7_waysTo_1 (by decide) (fun c1 => ?_) (fun c1 => ?_)
  · have h := h.1 c1
    refine lv_lconst (v := 0) hx hb dX7_waysTo_21 (by decide) ?_
    exact e_l X hW h dX7_waysTo_22
  · have h := h.2 c1
    refine lv_iload_n hx hb dX7_waysTo_4 rfl (lv_at hl 1 rfl) ?_
    refine lv_aload_n hx hb dX7_waysTo_5 rfl (lv_at hl 0 rfl) ?_
    refine r_get X hW 1 (okS hW sc6_0) rfl rfl inX7 (Nat.le_of_ble_eq_true rfl) tw52 rfl dX7_waysTo_6 ?_
    refine lv_icmp_gt (tgt := 21) hx hb dX7_waysTo_9 (by decide) (fun c9 => ?_) (fun c9 => ?_)
    · have h := h.1 c9
      refine lv_lconst (v := 0) hx hb dX7_waysTo_21 (by decide) ?_
      exact e_l X hW h dX7_waysTo_22
    · have h := h.2 c9
      refine lv_aload_n hx hb dX7_waysTo_12 rfl (lv_at hl 0 rfl) ?_
      refine r_get X hW 0 (okS hW sc6_0) rfl rfl inX7 (Nat.le_of_ble_eq_true rfl) tw51 rfl dX7_waysTo_13 ?_
      refine lv_iload_n hx hb dX7_waysTo_16 rfl (lv_at hl 1 rfl) ?_
      refine r_lald X hW (okS hW sc7_0) rfl h.1 dX7_waysTo_17 ?_
      have h := h.2
      refine lv_goto (tgt := 22) hx hb dX7_waysTo_18 (by decide) ?_
      exact e_l X hW h dX7_waysTo_22
def wX7_all (g : GS) (I : MI) (J : MJ) (Q : Int64 → MI → MJ → Prop) : Prop :=
  Q (J 6 0 2) I J
theorem mbX7_all : MB yX7_all cX7_all 1 ((Option.some FieldType.long)) 0 := ⟨tw550, tw3, ⟨by decide, by decide⟩, by decide +kernel, by decide +kernel⟩
set_option maxHeartbeats 4000000 in
set_option maxRecDepth 100000 in
theorem kX7_all {l : Launch} {E : WE} {I : MI} {J : MJ} {Q : Int64 → MI → MJ → Prop} (h : wX7_all (wg E) I J Q) : Met l yX7_all (wsM yX7_all cX7_all 1 ((Option.some FieldType.long))) (rmO 0 0) (va_Pc [.ref (wa E 6 0)] (Wp E I J)) (QL E Q) 0 0 (AA E) := by
  refine m_entry mbX7_all (Nat.le_of_ble_eq_true rfl) ?_
  intro p e s m args below meth c X ls hW hl
  have X : Cx E cX7_all 1 RX7 ((Option.some FieldType.long)) p s m args c meth := X
  have hx := X.1.1
  have hb := X.1.2.1
  have hl : lv_has ls 1 [(0, .ref (wa E 6 0))] := hl
  refine lv_aload_n hx hb dX7_all_0 rfl (lv_at hl 0 rfl) ?_
  refine r_get X hW 2 (okS hW sc6_0) rfl rfl inX7 (Nat.le_of_ble_eq_true rfl) tw53 rfl dX7_all_1 ?_
  exact e_l X hW h dX7_all_4
def wX8_kind (g : GS) (q : Nat) (I : MI) (J : MJ) (Q : Int32 → MI → MJ → Prop) : Prop :=
  Q 4 I J
theorem mbX8_kind : MB yX8_kind cX8_kind 1 ((Option.some FieldType.int)) 0 := ⟨tw387, tw13, ⟨by decide, by decide⟩, by decide +kernel, by decide +kernel⟩
set_option maxHeartbeats 4000000 in
set_option maxRecDepth 100000 in
theorem kX8_kind {l : Launch} {E : WE} {q : Nat} {I : MI} {J : MJ} {Q : Int32 → MI → MJ → Prop} (hp_q : q < (wg E).2.1) (hk_q : (wg E).1 q = 8) (h : wX8_kind (wg E) q I J Q) : Met l yX8_kind (wsM yX8_kind cX8_kind 1 ((Option.some FieldType.int))) (rmO 0 0) (va_Pc [.ref (wa E 40 q)] (Wp E I J)) (QI E Q) 0 0 (AA E) := by
  refine m_entry mbX8_kind (Nat.le_of_ble_eq_true rfl) ?_
  intro p e s m args below meth c X ls hW hl
  have X : Cx E cX8_kind 1 RX8 ((Option.some FieldType.int)) p s m args c meth := X
  have hx := X.1.1
  have hb := X.1.2.1
  have hl : lv_has ls 1 [(0, .ref (wa E 40 q))] := hl
  refine lv_iconst (v := 4) hx hb dX8_kind_0 (by decide) ?_
  exact e_i X hW h dX8_kind_1
def wX9_begin (g : GS) (I : MI) (J : MJ) (Q : MI → MJ → Prop) : Prop :=
  wJ7_fill_d0a16 g 9 81 0 I J (fun I5 J5 => vp_in 0 81 ∧ (∀ J22 : MJ, J22 = u3 (u3 J5 9 0 (vp_updL (J5 9 0) (Int32.toNatClampNeg 0) 1)) 8 0 (vp_updL ((u3 J5 9 0 (vp_updL (J5 9 0) (Int32.toNatClampNeg 0) 1)) 8 0) 2 1) → Q (u3 I5 8 0 (upd (I5 8 0) 1 0)) J22))
theorem mbX9_begin : MB yX9_begin cX9_begin 1 ((Option.none : Option FieldType)) 0 := ⟨tw591, tw4, ⟨by decide, by decide⟩, by decide +kernel, by decide +kernel⟩
set_option maxHeartbeats 4000000 in
set_option maxRecDepth 100000 in
theorem kX9_begin {l : Launch} {E : WE} {I : MI} {J : MJ} {Q : MI → MJ → Prop} (h : wX9_begin (wg E) I J Q) : Met l yX9_begin (wsM yX9_begin cX9_begin 1 ((Option.none : Option FieldType))) (rmO 1 24) (va_Pc [.ref (wa E 8 0)] (Wp E I J)) (QV E Q) 0 0 (AA E) := by
  refine m_entry mbX9_begin (Nat.le_of_ble_eq_true rfl) ?_
  intro p e s m args below meth c X ls hW hl
  have X : Cx E cX9_begin 1 RX9 ((Option.none : Option FieldType)) p s m args c meth := X
  have hx := X.1.1
  have hb := X.1.2.1
  have hl : lv_has ls 1 [(0, .ref (wa E 8 0))] := hl
  refine lv_aload_n hx hb dX9_begin_0 rfl (lv_at hl 0 rfl) ?_
  refine r_get X hW 0 (okS hW sc8_0) rfl rfl inX9 (Nat.le_of_ble_eq_true rfl) tw68 rfl dX9_begin_1 ?_
  refine lv_lconst (v := 0) hx hb dX9_begin_4 (by decide) ?_
  refine af_v hW (rn_S X hW (As := [.ref (wa E 9 0), .long 0]) (rest := []) (kJ7_fill_d0a16 (ka := 9) sc9_0 (fun _ _ => rfl) h) mbJ7_fill_d0a16 tw592 tw593 rfl hl.1 (Nat.le_of_ble_eq_true rfl) ⟨(Nat.le_of_ble_eq_true rfl), (Nat.le_of_ble_eq_true rfl)⟩ dX9_begin_5) (fun I5 J5 H locs h hW => ?_)
  refine lv_aload_n hx hb dX9_begin_8 rfl (lv_at hl 0 rfl) ?_
  refine r_get X hW 0 (okS hW sc8_0) rfl rfl inX9 (Nat.le_of_ble_eq_true rfl) tw68 rfl dX9_begin_9 ?_
  refine lv_iconst (v := 0) hx hb dX9_begin_12 (by decide) ?_
  refine lv_lconst (v := 1) hx hb dX9_begin_13 (by decide) ?_
  refine r_last X hW (okS hW sc9_0) (fun _ => rfl) h.1 dX9_begin_14 (fun H locs hW => ?_)
  have h := h.2
  refine lv_aload_n hx hb dX9_begin_15 rfl (lv_at hl 0 rfl) ?_
  refine lv_iconst (v := 0) hx hb dX9_begin_16 (by decide) ?_
  refine r_putI X hW 1 (okS hW sc8_0) rfl rfl inX9 tyX9 tyX9_ok nmX9 (Nat.le_of_ble_eq_true rfl) tw69 rfl rfl rfl rfl (Nat.le_of_ble_eq_true rfl) rfl dX9_begin_17 (fun H locs hW => ?_)
  refine lv_aload_n hx hb dX9_begin_20 rfl (lv_at hl 0 rfl) ?_
  refine lv_lconst (v := 1) hx hb dX9_begin_21 (by decide) ?_
  refine r_putL X hW 2 (okS hW sc8_0) rfl rfl inX9 tyX9 tyX9_ok nmX9 (Nat.le_of_ble_eq_true rfl) tw70 rfl rfl rfl rfl (Nat.le_of_ble_eq_true rfl) rfl dX9_begin_22 (fun H locs hW => ?_)
  obtain ⟨J22, eJ22⟩ : ∃ z : MJ, z = u3 (u3 J5 9 0 (vp_updL (J5 9 0) (Int32.toNatClampNeg 0) 1)) 8 0 (vp_updL ((u3 J5 9 0 (vp_updL (J5 9 0) (Int32.toNatClampNeg 0) 1)) 8 0) 2 1) := ⟨_, rfl⟩
  rw [← eJ22] at hW
  have h := h J22 eJ22
  exact e_v X hW h dX9_begin_25
def wX9_waysTo (g : GS) (a1 : Int32) (a2 : Int32) (I : MI) (J : MJ) (Q : Int64 → MI → MJ → Prop) : Prop :=
  ((a1 < 0 → Q 0 I J) ∧ (¬ a1 < 0 → ((9 ≤ a1 → Q 0 I J) ∧ (¬ 9 ≤ a1 → ((a2 < 0 → Q 0 I J) ∧ (¬ a2 < 0 → ((a1 < a2 → Q 0 I J) ∧ (¬ a1 < a2 → vp_in ((a1 * 9) + a2) 81 ∧ (Q (J 9 0 (Int32.toNatClampNeg ((a1 * 9) + a2))) I J)))))))))
theorem mbX9_waysTo : MB yX9_waysTo cX9_waysTo 3 ((Option.some FieldType.long)) 2 := ⟨tw603, tw4, ⟨by decide, by decide⟩, by decide +kernel, by decide +kernel⟩
set_option maxHeartbeats 4000000 in
set_option maxRecDepth 100000 in
theorem kX9_waysTo {l : Launch} {E : WE} {a1 : Int32} {a2 : Int32} {I : MI} {J : MJ} {Q : Int64 → MI → MJ → Prop} (h : wX9_waysTo (wg E) a1 a2 I J Q) : Met l yX9_waysTo (wsM yX9_waysTo cX9_waysTo 3 ((Option.some FieldType.long))) (rmO 0 0) (va_Pc [.ref (wa E 8 0), .int a1, .int a2] (Wp E I J)) (QL E Q) 0 0 (AA E) := by
  refine m_entry mbX9_waysTo (Nat.le_of_ble_eq_true rfl) ?_
  intro p e s m args below meth c X ls hW hl
  have X : Cx E cX9_waysTo 3 RX9 ((Option.some FieldType.long)) p s m args c meth := X
  have hx := X.1.1
  have hb := X.1.2.1
  have hl : lv_has ls 3 [(0, .ref (wa E 8 0)), (1, .int a1), (2, .int a2)] := hl
  refine lv_iload_n hx hb dX9_waysTo_0 rfl (lv_at hl 1 rfl) ?_
  refine lv_if_lt (tgt := 33) hx hb dX9_waysTo_1 (by decide) (fun c1 => ?_) (fun c1 => ?_)
  · have h := h.1 c1
    refine lv_lconst (v := 0) hx hb dX9_waysTo_33 (by decide) ?_
    exact e_l X hW h dX9_waysTo_34
  · have h := h.2 c1
    refine lv_iload_n hx hb dX9_waysTo_4 rfl (lv_at hl 1 rfl) ?_
    refine lv_bipush (v := 9) hx hb dX9_waysTo_5 (by decide) ?_
    refine lv_icmp_ge (tgt := 33) hx hb dX9_waysTo_7 (by decide) (fun c7 => ?_) (fun c7 => ?_)
    · have h := h.1 c7
      refine lv_lconst (v := 0) hx hb dX9_waysTo_33 (by decide) ?_
      exact e_l X hW h dX9_waysTo_34
    · have h := h.2 c7
      refine lv_iload_n hx hb dX9_waysTo_10 rfl (lv_at hl 2 rfl) ?_
      refine lv_if_lt (tgt := 33) hx hb dX9_waysTo_11 (by decide) (fun c11 => ?_) (fun c11 => ?_)
      · have h := h.1 c11
        refine lv_lconst (v := 0) hx hb dX9_waysTo_33 (by decide) ?_
        exact e_l X hW h dX9_waysTo_34
      · have h := h.2 c11
        refine lv_iload_n hx hb dX9_waysTo_14 rfl (lv_at hl 2 rfl) ?_
        refine lv_iload_n hx hb dX9_waysTo_15 rfl (lv_at hl 1 rfl) ?_
        refine lv_icmp_gt (tgt := 33) hx hb dX9_waysTo_16 (by decide) (fun c16 => ?_) (fun c16 => ?_)
        · have h := h.1 c16
          refine lv_lconst (v := 0) hx hb dX9_waysTo_33 (by decide) ?_
          exact e_l X hW h dX9_waysTo_34
        · have h := h.2 c16
          refine lv_aload_n hx hb dX9_waysTo_19 rfl (lv_at hl 0 rfl) ?_
          refine r_get X hW 0 (okS hW sc8_0) rfl rfl inX9 (Nat.le_of_ble_eq_true rfl) tw68 rfl dX9_waysTo_20 ?_
          refine lv_iload_n hx hb dX9_waysTo_23 rfl (lv_at hl 1 rfl) ?_
          refine lv_bipush (v := 9) hx hb dX9_waysTo_24 (by decide) ?_
          refine lv_imul hx hb dX9_waysTo_26 ?_
          refine lv_iload_n hx hb dX9_waysTo_27 rfl (lv_at hl 2 rfl) ?_
          refine lv_iadd hx hb dX9_waysTo_28 ?_
          refine r_lald X hW (okS hW sc9_0) rfl h.1 dX9_waysTo_29 ?_
          have h := h.2
          refine lv_goto (tgt := 34) hx hb dX9_waysTo_30 (by decide) ?_
          exact e_l X hW h dX9_waysTo_34
def wX9_mayCome_b71 (g : GS) (ko62 : Int64 → Int64 → Int64 → Int32 → MI → MJ → Prop) (Q : MI → MJ → Prop) : Nat → Int64 → Int64 → Int64 → Int32 → Int32 → MI → MJ → Prop
  | 0, _, _, _, _, _, _, _ => False
  | n + 1, v3, v5, v7, v9, v10, I, J => ((v10 < 0 → ko62 v3 v5 v7 (v9 + (-1)) I J) ∧ (¬ v10 < 0 → wX9_waysTo g v9 v10 I J (fun r93 I93 J93 => wX9_waysTo g (v9 - 1) v10 I93 J93 (fun r105 I105 J105 => wX9_waysTo g (v9 - 1) (v10 - 1) I105 J105 (fun r121 I121 J121 => vp_in ((v9 * 9) + v10) 81 ∧ (∀ J128 : MJ, J128 = u3 J121 9 0 (vp_updL (J121 9 0) (Int32.toNatClampNeg ((v9 * 9) + v10)) (((r93 * v3) + (r105 * v7)) + (r121 * v5))) → wX9_mayCome_b71 g ko62 Q n v3 v5 v7 v9 (v10 + (-1)) I121 J128))))))
set_option maxHeartbeats 4000000 in
set_option maxRecDepth 100000 in
theorem bX9_mayCome_71 {p : Program} {l : Launch} {e : Env} {s : State} {m : MethodId} {args : Array Value} {below : List Frame} {meth : Method} {c : Code} {E : WE} {Q : MI → MJ → Prop} {ko62 : Int64 → Int64 → Int64 → Int32 → MI → MJ → Prop} (X : Cx E cX9_mayCome 11 RX9 ((Option.none : Option FieldType)) p s m args c meth)
    (hk62 : ∀ (v3 : Int64) (v5 : Int64) (v7 : Int64) (v9 : Int32) (I : MI) (J : MJ) (H : Heap) (locs : List Loc) (ls : Array Slot), ko62 v3 v5 v7 v9 I J → Wd E I J s H locs → lv_has ls 11 [(0, .ref (wa E 8 0)), (3, .long v3), (5, .long v5), (7, .long v7), (9, .int v9)] → W p l e (rmO 1 22) s m args below meth c H locs 0 0 (MQ below (QV E Q) args s 0 0 (AA E)) (F0 m 62 ls [])) (n : Nat) : ∀ (v3 : Int64) (v5 : Int64) (v7 : Int64) (v9 : Int32) (v10 : Int32) (I : MI) (J : MJ) (H : Heap) (locs : List Loc) (ls : Array Slot), wX9_mayCome_b71 (wg E) ko62 Q n v3 v5 v7 v9 v10 I J → Wd E I J s H locs → lv_has ls 11 [(0, .ref (wa E 8 0)), (3, .long v3), (5, .long v5), (7, .long v7), (9, .int v9), (10, .int v10)] → W p l e (rmO 1 22) s m args below meth c H locs 0 0 (MQ below (QV E Q) args s 0 0 (AA E)) (F0 m 71 ls []) := by
  have hx := X.1.1
  have hb := X.1.2.1
  induction n with
  | zero => intro v3 v5 v7 v9 v10 I J H locs ls h hW hl; exact h.elim
  | succ n ih =>
    intro v3 v5 v7 v9 v10 I J H locs ls h hW hl
    refine lv_iload hx hb dX9_mayCome_71 (lv_at hl 5 rfl) ?_
    refine lv_if_lt (tgt := 135) hx hb dX9_mayCome_73 (by decide) (fun c73 => ?_) (fun c73 => ?_)
    · have h := h.1 c73
      refine lv_iinc (v := v9 + (-1)) (lv' := [(9, .int (v9 + (-1))), (0, .ref (wa E 8 0)), (3, .long v3), (5, .long v5), (7, .long v7), (10, .int v10)]) hx hb dX9_mayCome_135 hl (k := 4) rfl rfl (by decide) rfl (fun ls hl => ?_)
      refine lv_goto (tgt := 62) hx hb dX9_mayCome_138 (by decide) ?_
      exact hk62 v3 v5 v7 (v9 + (-1)) _ _ _ _ _  h hW (lv_sub hl [1, 2, 3, 4, 0] rfl)
    · have h := h.2 c73
      refine lv_aload_n hx hb dX9_mayCome_76 rfl (lv_at hl 0 rfl) ?_
      refine r_get X hW 0 (okS hW sc8_0) rfl rfl inX9 (Nat.le_of_ble_eq_true rfl) tw68 rfl dX9_mayCome_77 ?_
      refine lv_iload hx hb dX9_mayCome_80 (lv_at hl 4 rfl) ?_
      refine lv_bipush (v := 9) hx hb dX9_mayCome_82 (by decide) ?_
      refine lv_imul hx hb dX9_mayCome_84 ?_
      refine lv_iload hx hb dX9_mayCome_85 (lv_at hl 5 rfl) ?_
      refine lv_iadd hx hb dX9_mayCome_87 ?_
      refine lv_aload_n hx hb dX9_mayCome_88 rfl (lv_at hl 0 rfl) ?_
      refine lv_iload hx hb dX9_mayCome_89 (lv_at hl 4 rfl) ?_
      refine lv_iload hx hb dX9_mayCome_91 (lv_at hl 5 rfl) ?_
      refine af_l hW (rn_V X hW (As := [.int v9, .int v10]) (rest := [.int ((v9 * 9) + v10), .ref (wa E 9 0)]) (okS hW sc8_0) rfl rfl (kX9_waysTo h) mbX9_waysTo tw600 tw602 tp13 rfl hl.1 (Nat.le_of_ble_eq_true rfl) ⟨(Nat.le_of_ble_eq_true rfl), (Nat.le_of_ble_eq_true rfl)⟩ dX9_mayCome_93) (fun r93 I93 J93 H locs h hW => ?_)
      refine lv_lload_n hx hb dX9_mayCome_96 rfl (lv_at hl 1 rfl) ?_
      refine lv_lmul hx hb dX9_mayCome_97 ?_
      refine lv_aload_n hx hb dX9_mayCome_98 rfl (lv_at hl 0 rfl) ?_
      refine lv_iload hx hb dX9_mayCome_99 (lv_at hl 4 rfl) ?_
      refine lv_iconst (v := 1) hx hb dX9_mayCome_101 (by decide) ?_
      refine lv_isub hx hb dX9_mayCome_102 ?_
      refine lv_iload hx hb dX9_mayCome_103 (lv_at hl 5 rfl) ?_
      refine af_l hW (rn_V X hW (As := [.int (v9 - 1), .int v10]) (rest := [.long (r93 * v3), .int ((v9 * 9) + v10), .ref (wa E 9 0)]) (okS hW sc8_0) rfl rfl (kX9_waysTo h) mbX9_waysTo tw600 tw602 tp13 rfl hl.1 (Nat.le_of_ble_eq_true rfl) ⟨(Nat.le_of_ble_eq_true rfl), (Nat.le_of_ble_eq_true rfl)⟩ dX9_mayCome_105) (fun r105 I105 J105 H locs h hW => ?_)
      refine lv_lload hx hb dX9_mayCome_108 (lv_at hl 3 rfl) ?_
      refine lv_lmul hx hb dX9_mayCome_110 ?_
      refine lv_ladd hx hb dX9_mayCome_111 ?_
      refine lv_aload_n hx hb dX9_mayCome_112 rfl (lv_at hl 0 rfl) ?_
      refine lv_iload hx hb dX9_mayCome_113 (lv_at hl 4 rfl) ?_
      refine lv_iconst (v := 1) hx hb dX9_mayCome_115 (by decide) ?_
      refine lv_isub hx hb dX9_mayCome_116 ?_
      refine lv_iload hx hb dX9_mayCome_117 (lv_at hl 5 rfl) ?_
      refine lv_iconst (v := 1) hx hb dX9_mayCome_119 (by decide) ?_
      refine lv_isub hx hb dX9_mayCome_120 ?_
      refine af_l hW (rn_V X hW (As := [.int (v9 - 1), .int (v10 - 1)]) (rest := [.long ((r93 * v3) + (r105 * v7)), .int ((v9 * 9) + v10), .ref (wa E 9 0)]) (okS hW sc8_0) rfl rfl (kX9_waysTo h) mbX9_waysTo tw600 tw602 tp13 rfl hl.1 (Nat.le_of_ble_eq_true rfl) ⟨(Nat.le_of_ble_eq_true rfl), (Nat.le_of_ble_eq_true rfl)⟩ dX9_mayCome_121) (fun r121 I121 J121 H locs h hW => ?_)
      refine lv_lload hx hb dX9_mayCome_124 (lv_at hl 2 rfl) ?_
      refine lv_lmul hx hb dX9_mayCome_126 ?_
      refine lv_ladd hx hb dX9_mayCome_127 ?_
      refine r_last X hW (okS hW sc9_0) (fun _ => rfl) h.1 dX9_mayCome_128 (fun H locs hW => ?_)
      have h := h.2
      obtain ⟨J128, eJ128⟩ : ∃ z : MJ, z = u3 J121 9 0 (vp_updL (J121 9 0) (Int32.toNatClampNeg ((v9 * 9) + v10)) (((r93 * v3) + (r105 * v7)) + (r121 * v5))) := ⟨_, rfl⟩
      rw [← eJ128] at hW
      have h := h J128 eJ128
      refine lv_iinc (v := v10 + (-1)) (lv' := [(10, .int (v10 + (-1))), (0, .ref (wa E 8 0)), (3, .long v3), (5, .long v5), (7, .long v7), (9, .int v9)]) hx hb dX9_mayCome_129 hl (k := 5) rfl rfl (by decide) rfl (fun ls hl => ?_)
      refine lv_goto (tgt := 71) hx hb dX9_mayCome_132 (by decide) ?_
      exact ih v3 v5 v7 v9 (v10 + (-1)) _ _ _ _ _  h hW (lv_sub hl [1, 2, 3, 4, 5, 0] rfl)
def wX9_mayCome_b62 (g : GS) (Q : MI → MJ → Prop) : Nat → Int64 → Int64 → Int64 → Int32 → MI → MJ → Prop
  | 0, _, _, _, _, _, _ => False
  | n + 1, v3, v5, v7, v9, I, J => ((v9 < 0 → Q I J) ∧ (¬ v9 < 0 → ∃ n71, wX9_mayCome_b71 g (fun v3 v5 v7 v9 I J => wX9_mayCome_b62 g Q n v3 v5 v7 v9 I J) Q n71 v3 v5 v7 v9 v9 I J))
set_option maxHeartbeats 4000000 in
set_option maxRecDepth 100000 in
theorem bX9_mayCome_62 {p : Program} {l : Launch} {e : Env} {s : State} {m : MethodId} {args : Array Value} {below : List Frame} {meth : Method} {c : Code} {E : WE} {Q : MI → MJ → Prop} (X : Cx E cX9_mayCome 11 RX9 ((Option.none : Option FieldType)) p s m args c meth) (n : Nat) : ∀ (v3 : Int64) (v5 : Int64) (v7 : Int64) (v9 : Int32) (I : MI) (J : MJ) (H : Heap) (locs : List Loc) (ls : Array Slot), wX9_mayCome_b62 (wg E) Q n v3 v5 v7 v9 I J → Wd E I J s H locs → lv_has ls 11 [(0, .ref (wa E 8 0)), (3, .long v3), (5, .long v5), (7, .long v7), (9, .int v9)] → W p l e (rmO 1 22) s m args below meth c H locs 0 0 (MQ below (QV E Q) args s 0 0 (AA E)) (F0 m 62 ls []) := by
  have hx := X.1.1
  have hb := X.1.2.1
  induction n with
  | zero => intro v3 v5 v7 v9 I J H locs ls h hW hl; exact h.elim
  | succ n ih =>
    intro v3 v5 v7 v9 I J H locs ls h hW hl
    refine lv_iload hx hb dX9_mayCome_62 (lv_at hl 4 rfl) ?_
    refine lv_if_lt (tgt := 141) hx hb dX9_mayCome_64 (by decide) (fun c64 => ?_) (fun c64 => ?_)
    · have h := h.1 c64
      exact e_v X hW h dX9_mayCome_141
    · have h := h.2 c64
      refine lv_iload hx hb dX9_mayCome_67 (lv_at hl 4 rfl) ?_
      refine lv_istore (lv' := [(10, .int v9), (0, .ref (wa E 8 0)), (3, .long v3), (5, .long v5), (7, .long v7), (9, .int v9)]) hx hb dX9_mayCome_69 hl (by decide) rfl (fun ls hl => ?_)
      obtain ⟨n71, h⟩ := h
      exact bX9_mayCome_71 X ih n71 v3 v5 v7 v9 v9 _ _ _ _ _  h hW (lv_sub hl [1, 2, 3, 4, 5, 0] rfl)
def wX9_mayCome (g : GS) (a1 : Int32) (a2 : Int32) (I : MI) (J : MJ) (Q : MI → MJ → Prop) : Prop :=
  (((I 8 0 1) < 8 → ∃ n62, wX9_mayCome_b62 g Q n62 (Int32.toInt64 ((10 - a1) * 10)) (Int32.toInt64 (a1 * a2)) (Int32.toInt64 (a1 * (10 - a2))) ((u3 I 8 0 (upd (I 8 0) 1 ((I 8 0 1) + 1))) 8 0 1) (u3 I 8 0 (upd (I 8 0) 1 ((I 8 0 1) + 1))) (u3 J 8 0 (vp_updL (J 8 0) 2 ((J 8 0 2) * 100)))) ∧ (¬ (I 8 0 1) < 8 → Q I J))
theorem mbX9_mayCome : MB yX9_mayCome cX9_mayCome 11 ((Option.none : Option FieldType)) 2 := ⟨tw598, tw4, ⟨by decide, by decide⟩, by decide +kernel, by decide +kernel⟩
set_option maxHeartbeats 4000000 in
set_option maxRecDepth 100000 in
theorem kX9_mayCome {l : Launch} {E : WE} {a1 : Int32} {a2 : Int32} {I : MI} {J : MJ} {Q : MI → MJ → Prop} (h : wX9_mayCome (wg E) a1 a2 I J Q) : Met l yX9_mayCome (wsM yX9_mayCome cX9_mayCome 11 ((Option.none : Option FieldType))) (rmO 1 22) (va_Pc [.ref (wa E 8 0), .int a1, .int a2] (Wp E I J)) (QV E Q) 0 0 (AA E) := by
  refine m_entry mbX9_mayCome (Nat.le_of_ble_eq_true rfl) ?_
  intro p e s m args below meth c X ls hW hl
  have X : Cx E cX9_mayCome 11 RX9 ((Option.none : Option FieldType)) p s m args c meth := X
  have hx := X.1.1
  have hb := X.1.2.1
  have hl : lv_has ls 11 [(0, .ref (wa E 8 0)), (1, .int a1), (2, .int a2)] := hl
  refine lv_aload_n hx hb dX9_mayCome_0 rfl (lv_at hl 0 rfl) ?_
  refine r_get X hW 1 (okS hW sc8_0) rfl rfl inX9 (Nat.le_of_ble_eq_true rfl) tw69 rfl dX9_mayCome_1 ?_
  refine lv_bipush (v := 8) hx hb dX9_mayCome_4 (by decide) ?_
  refine lv_icmp_lt (tgt := 10) hx hb dX9_mayCome_6 (by decide) (fun c6 => ?_) (fun c6 => ?_)
  · have h := h.1 c6
    refine lv_aload_n hx hb dX9_mayCome_10 rfl (lv_at hl 0 rfl) ?_
    refine lv_dup hx hb dX9_mayCome_11 rfl ?_
    refine r_get X hW 1 (okS hW sc8_0) rfl rfl inX9 (Nat.le_of_ble_eq_true rfl) tw69 rfl dX9_mayCome_12 ?_
    refine lv_iconst (v := 1) hx hb dX9_mayCome_15 (by decide) ?_
    refine lv_iadd hx hb dX9_mayCome_16 ?_
    refine r_putI X hW 1 (okS hW sc8_0) rfl rfl inX9 tyX9 tyX9_ok nmX9 (Nat.le_of_ble_eq_true rfl) tw69 rfl rfl rfl rfl (Nat.le_of_ble_eq_true rfl) rfl dX9_mayCome_17 (fun H locs hW => ?_)
    refine lv_aload_n hx hb dX9_mayCome_20 rfl (lv_at hl 0 rfl) ?_
    refine lv_dup hx hb dX9_mayCome_21 rfl ?_
    refine r_get X hW 2 (okS hW sc8_0) rfl rfl inX9 (Nat.le_of_ble_eq_true rfl) tw70 rfl dX9_mayCome_22 ?_
    refine lv_ldc2 hx hb X.1.2.2.2.1 (X.1.2.2.2.2 _ tw599) dX9_mayCome_25 ?_
    refine lv_lmul hx hb dX9_mayCome_28 ?_
    refine r_putL X hW 2 (okS hW sc8_0) rfl rfl inX9 tyX9 tyX9_ok nmX9 (Nat.le_of_ble_eq_true rfl) tw70 rfl rfl rfl rfl (Nat.le_of_ble_eq_true rfl) rfl dX9_mayCome_29 (fun H locs hW => ?_)
    refine lv_bipush (v := 10) hx hb dX9_mayCome_32 (by decide) ?_
    refine lv_iload_n hx hb dX9_mayCome_34 rfl (lv_at hl 1 rfl) ?_
    refine lv_isub hx hb dX9_mayCome_35 ?_
    refine lv_bipush (v := 10) hx hb dX9_mayCome_36 (by decide) ?_
    refine lv_imul hx hb dX9_mayCome_38 ?_
    refine lv_i2l hx hb dX9_mayCome_39 rfl ?_
    refine lv_lstore_n (lv' := [(3, .long (Int32.toInt64 ((10 - a1) * 10))), (0, .ref (wa E 8 0)), (1, .int a1), (2, .int a2)]) hx hb dX9_mayCome_40 rfl hl (by decide) rfl (fun ls hl => ?_)
    refine lv_iload_n hx hb dX9_mayCome_41 rfl (lv_at hl 2 rfl) ?_
    refine lv_iload_n hx hb dX9_mayCome_42 rfl (lv_at hl 3 rfl) ?_
    refine lv_imul hx hb dX9_mayCome_43 ?_
    refine lv_i2l hx hb dX9_mayCome_44 rfl ?_
    refine lv_lstore (lv' := [(5, .long (Int32.toInt64 (a1 * a2))), (3, .long (Int32.toInt64 ((10 - a1) * 10))), (0, .ref (wa E 8 0)), (1, .int a1), (2, .int a2)]) hx hb dX9_mayCome_45 hl (by decide) rfl (fun ls hl => ?_)
    refine lv_iload_n hx hb dX9_mayCome_47 rfl (lv_at hl 3 rfl) ?_
    refine lv_bipush (v := 10) hx hb dX9_mayCome_48 (by decide) ?_
    refine lv_iload_n hx hb dX9_mayCome_50 rfl (lv_at hl 4 rfl) ?_
    refine lv_isub hx hb dX9_mayCome_51 ?_
    refine lv_imul hx hb dX9_mayCome_52 ?_
    refine lv_i2l hx hb dX9_mayCome_53 rfl ?_
    refine lv_lstore (lv' := [(7, .long (Int32.toInt64 (a1 * (10 - a2)))), (5, .long (Int32.toInt64 (a1 * a2))), (3, .long (Int32.toInt64 ((10 - a1) * 10))), (0, .ref (wa E 8 0)), (1, .int a1), (2, .int a2)]) hx hb dX9_mayCome_54 hl (by decide) rfl (fun ls hl => ?_)
    refine lv_aload_n hx hb dX9_mayCome_56 rfl (lv_at hl 3 rfl) ?_
    refine r_get X hW 1 (okS hW sc8_0) rfl rfl inX9 (Nat.le_of_ble_eq_true rfl) tw69 rfl dX9_mayCome_57 ?_
    refine lv_istore (lv' := [(9, .int ((u3 I 8 0 (upd (I 8 0) 1 ((I 8 0 1) + 1))) 8 0 1)), (7, .long (Int32.toInt64 (a1 * (10 - a2)))), (5, .long (Int32.toInt64 (a1 * a2))), (3, .long (Int32.toInt64 ((10 - a1) * 10))), (0, .ref (wa E 8 0)), (1, .int a1), (2, .int a2)]) hx hb dX9_mayCome_60 hl (by decide) rfl (fun ls hl => ?_)
    obtain ⟨n62, h⟩ := h
    exact bX9_mayCome_62 X n62 (Int32.toInt64 ((10 - a1) * 10)) (Int32.toInt64 (a1 * a2)) (Int32.toInt64 (a1 * (10 - a2))) ((u3 I 8 0 (upd (I 8 0) 1 ((I 8 0 1) + 1))) 8 0 1) _ _ _ _ _  h hW (lv_sub hl [4, 3, 2, 1, 0] rfl)
  · have h := h.2 c6
    exact e_v X hW h dX9_mayCome_9
def wX9_waysIn_b46 (g : GS) (ko5 : Nat → Int64 → Int32 → MI → MJ → Prop) (ko17 : Nat → Int64 → Int32 → Int32 → MI → MJ → Prop) (Q : Int64 → MI → MJ → Prop) (v1 : Nat) (v2 : Int64) (v4 : Int32) (v5 : Int32) (I : MI) (J : MJ) : Prop :=
  ko17 v1 v2 v4 (v5 + 1) I J
set_option maxHeartbeats 4000000 in
set_option maxRecDepth 100000 in
theorem bX9_waysIn_46 {p : Program} {l : Launch} {e : Env} {s : State} {m : MethodId} {args : Array Value} {below : List Frame} {meth : Method} {c : Code} {E : WE} {Q : Int64 → MI → MJ → Prop} {ko5 : Nat → Int64 → Int32 → MI → MJ → Prop} {ko17 : Nat → Int64 → Int32 → Int32 → MI → MJ → Prop} (X : Cx E cX9_waysIn 6 RX9 ((Option.some FieldType.long)) p s m args c meth)
    (hk5 : ∀ (v1 : Nat) (v2 : Int64) (v4 : Int32) (I : MI) (J : MJ) (H : Heap) (locs : List Loc) (ls : Array Slot), v1 < (wg E).2.2 → ko5 v1 v2 v4 I J → Wd E I J s H locs → lv_has ls 6 [(0, .ref (wa E 8 0)), (1, .ref (wa E 43 v1)), (2, .long v2), (4, .int v4)] → W p l e (rmO 2 44) s m args below meth c H locs 0 0 (MQ below (QL E Q) args s 0 0 (AA E)) (F0 m 5 ls []))
    (hk17 : ∀ (v1 : Nat) (v2 : Int64) (v4 : Int32) (v5 : Int32) (I : MI) (J : MJ) (H : Heap) (locs : List Loc) (ls : Array Slot), v1 < (wg E).2.2 → ko17 v1 v2 v4 v5 I J → Wd E I J s H locs → lv_has ls 6 [(0, .ref (wa E 8 0)), (1, .ref (wa E 43 v1)), (2, .long v2), (4, .int v4), (5, .int v5)] → W p l e (rmO 2 44) s m args below meth c H locs 0 0 (MQ below (QL E Q) args s 0 0 (AA E)) (F0 m 17 ls [])) : ∀ (v1 : Nat) (v2 : Int64) (v4 : Int32) (v5 : Int32) (I : MI) (J : MJ) (H : Heap) (locs : List Loc) (ls : Array Slot), v1 < (wg E).2.2 → wX9_waysIn_b46 (wg E) ko5 ko17 Q v1 v2 v4 v5 I J → Wd E I J s H locs → lv_has ls 6 [(0, .ref (wa E 8 0)), (1, .ref (wa E 43 v1)), (2, .long v2), (4, .int v4), (5, .int v5)] → W p l e (rmO 2 44) s m args below meth c H locs 0 0 (MQ below (QL E Q) args s 0 0 (AA E)) (F0 m 46 ls []) := by
  have hx := X.1.1
  have hb := X.1.2.1
  intro v1 v2 v4 v5 I J H locs ls hp_v1 h hW hl
  refine lv_iinc (v := v5 + 1) (lv' := [(5, .int (v5 + 1)), (0, .ref (wa E 8 0)), (1, .ref (wa E 43 v1)), (2, .long v2), (4, .int v4)]) hx hb dX9_waysIn_46 hl (k := 4) rfl rfl (by decide) rfl (fun ls hl => ?_)
  refine lv_goto (tgt := 17) hx hb dX9_waysIn_49 (by decide) ?_
  exact hk17 v1 v2 v4 (v5 + 1) _ _ _ _ _ hp_v1 h hW (lv_sub hl [1, 2, 3, 4, 0] rfl)
def wX9_waysIn_b17 (g : GS) (ko5 : Nat → Int64 → Int32 → MI → MJ → Prop) (Q : Int64 → MI → MJ → Prop) : Nat → Nat → Int64 → Int32 → Int32 → MI → MJ → Prop
  | 0, _, _, _, _, _, _ => False
  | n + 1, v1, v2, v4, v5, I, J => ((v4 < v5 → ko5 v1 v2 (v4 + 1) I J) ∧ (¬ v4 < v5 → wX6_letsIn g v1 v5 v4 I J (fun r29 I29 J29 => ((r29 = 0 → wX9_waysIn_b46 g ko5 (fun v1 v2 v4 v5 I J => wX9_waysIn_b17 g ko5 Q n v1 v2 v4 v5 I J) Q v1 v2 v4 v5 I29 J29) ∧ (¬ r29 = 0 → wX9_waysTo g v4 v5 I29 J29 (fun r41 I41 J41 => wX9_waysIn_b46 g ko5 (fun v1 v2 v4 v5 I J => wX9_waysIn_b17 g ko5 Q n v1 v2 v4 v5 I J) Q v1 (v2 + r41) v4 v5 I41 J41))))))
set_option maxHeartbeats 4000000 in
set_option maxRecDepth 100000 in
theorem bX9_waysIn_17 {p : Program} {l : Launch} {e : Env} {s : State} {m : MethodId} {args : Array Value} {below : List Frame} {meth : Method} {c : Code} {E : WE} {Q : Int64 → MI → MJ → Prop} {ko5 : Nat → Int64 → Int32 → MI → MJ → Prop} (X : Cx E cX9_waysIn 6 RX9 ((Option.some FieldType.long)) p s m args c meth)
    (hk5 : ∀ (v1 : Nat) (v2 : Int64) (v4 : Int32) (I : MI) (J : MJ) (H : Heap) (locs : List Loc) (ls : Array Slot), v1 < (wg E).2.2 → ko5 v1 v2 v4 I J → Wd E I J s H locs → lv_has ls 6 [(0, .ref (wa E 8 0)), (1, .ref (wa E 43 v1)), (2, .long v2), (4, .int v4)] → W p l e (rmO 2 44) s m args below meth c H locs 0 0 (MQ below (QL E Q) args s 0 0 (AA E)) (F0 m 5 ls [])) (n : Nat) : ∀ (v1 : Nat) (v2 : Int64) (v4 : Int32) (v5 : Int32) (I : MI) (J : MJ) (H : Heap) (locs : List Loc) (ls : Array Slot), v1 < (wg E).2.2 → wX9_waysIn_b17 (wg E) ko5 Q n v1 v2 v4 v5 I J → Wd E I J s H locs → lv_has ls 6 [(0, .ref (wa E 8 0)), (1, .ref (wa E 43 v1)), (2, .long v2), (4, .int v4), (5, .int v5)] → W p l e (rmO 2 44) s m args below meth c H locs 0 0 (MQ below (QL E Q) args s 0 0 (AA E)) (F0 m 17 ls []) := by
  have hx := X.1.1
  have hb := X.1.2.1
  induction n with
  | zero => intro v1 v2 v4 v5 I J H locs ls hp_v1 h hW hl; exact h.elim
  | succ n ih =>
    intro v1 v2 v4 v5 I J H locs ls hp_v1 h hW hl
    refine lv_iload hx hb dX9_waysIn_17 (lv_at hl 4 rfl) ?_
    refine lv_iload hx hb dX9_waysIn_19 (lv_at hl 3 rfl) ?_
    refine lv_icmp_gt (tgt := 52) hx hb dX9_waysIn_21 (by decide) (fun c21 => ?_) (fun c21 => ?_)
    · have h := h.1 c21
      refine lv_iinc (v := v4 + 1) (lv' := [(4, .int (v4 + 1)), (0, .ref (wa E 8 0)), (1, .ref (wa E 43 v1)), (2, .long v2), (5, .int v5)]) hx hb dX9_waysIn_52 hl (k := 3) rfl rfl (by decide) rfl (fun ls hl => ?_)
      refine lv_goto (tgt := 5) hx hb dX9_waysIn_55 (by decide) ?_
      exact hk5 v1 v2 (v4 + 1) _ _ _ _ _ hp_v1 h hW (lv_sub hl [1, 2, 3, 0] rfl)
    · have h := h.2 c21
      refine lv_aload_n hx hb dX9_waysIn_24 rfl (lv_at hl 1 rfl) ?_
      refine lv_iload hx hb dX9_waysIn_25 (lv_at hl 4 rfl) ?_
      refine lv_iload hx hb dX9_waysIn_27 (lv_at hl 3 rfl) ?_
      refine af_i hW (rn_V X hW (As := [.int v5, .int v4]) (rest := []) (okR hW hp_v1) rfl rfl (kX6_letsIn hp_v1 h) mbX6_letsIn tw608 tw609 tw610 rfl hl.1 (Nat.le_of_ble_eq_true rfl) ⟨(Nat.le_of_ble_eq_true rfl), (Nat.le_of_ble_eq_true rfl)⟩ dX9_waysIn_29) (fun r29 I29 J29 H locs h hW => ?_)
      refine lv_if_eq (tgt := 46) hx hb dX9_waysIn_32 (by decide) (fun c32 => ?_) (fun c32 => ?_)
      · have h := h.1 c32
        exact bX9_waysIn_46 X hk5 ih v1 v2 v4 v5 _ _ _ _ _ hp_v1 h hW (lv_sub hl [0, 1, 2, 3, 4] rfl)
      · have h := h.2 c32
        refine lv_lload_n hx hb dX9_waysIn_35 rfl (lv_at hl 2 rfl) ?_
        refine lv_aload_n hx hb dX9_waysIn_36 rfl (lv_at hl 0 rfl) ?_
        refine lv_iload hx hb dX9_waysIn_37 (lv_at hl 3 rfl) ?_
        refine lv_iload hx hb dX9_waysIn_39 (lv_at hl 4 rfl) ?_
        refine af_l hW (rn_V X hW (As := [.int v4, .int v5]) (rest := [.long v2]) (okS hW sc8_0) rfl rfl (kX9_waysTo h) mbX9_waysTo tw600 tw602 tp13 rfl hl.1 (Nat.le_of_ble_eq_true rfl) ⟨(Nat.le_of_ble_eq_true rfl), (Nat.le_of_ble_eq_true rfl)⟩ dX9_waysIn_41) (fun r41 I41 J41 H locs h hW => ?_)
        refine lv_ladd hx hb dX9_waysIn_44 ?_
        refine lv_lstore_n (lv' := [(2, .long (v2 + r41)), (0, .ref (wa E 8 0)), (1, .ref (wa E 43 v1)), (4, .int v4), (5, .int v5)]) hx hb dX9_waysIn_45 rfl hl (by decide) rfl (fun ls hl => ?_)
        exact bX9_waysIn_46 X hk5 ih v1 (v2 + r41) v4 v5 _ _ _ _ _ hp_v1 h hW (lv_sub hl [1, 2, 0, 3, 4] rfl)
def wX9_waysIn_b5 (g : GS) (Q : Int64 → MI → MJ → Prop) : Nat → Nat → Int64 → Int32 → MI → MJ → Prop
  | 0, _, _, _, _, _ => False
  | n + 1, v1, v2, v4, I, J => (((I 8 0 1) < v4 → Q v2 I J) ∧ (¬ (I 8 0 1) < v4 → ∃ n17, wX9_waysIn_b17 g (fun v1 v2 v4 I J => wX9_waysIn_b5 g Q n v1 v2 v4 I J) Q n17 v1 v2 v4 0 I J))
set_option maxHeartbeats 4000000 in
set_option maxRecDepth 100000 in
theorem bX9_waysIn_5 {p : Program} {l : Launch} {e : Env} {s : State} {m : MethodId} {args : Array Value} {below : List Frame} {meth : Method} {c : Code} {E : WE} {Q : Int64 → MI → MJ → Prop} (X : Cx E cX9_waysIn 6 RX9 ((Option.some FieldType.long)) p s m args c meth) (n : Nat) : ∀ (v1 : Nat) (v2 : Int64) (v4 : Int32) (I : MI) (J : MJ) (H : Heap) (locs : List Loc) (ls : Array Slot), v1 < (wg E).2.2 → wX9_waysIn_b5 (wg E) Q n v1 v2 v4 I J → Wd E I J s H locs → lv_has ls 6 [(0, .ref (wa E 8 0)), (1, .ref (wa E 43 v1)), (2, .long v2), (4, .int v4)] → W p l e (rmO 2 44) s m args below meth c H locs 0 0 (MQ below (QL E Q) args s 0 0 (AA E)) (F0 m 5 ls []) := by
  have hx := X.1.1
  have hb := X.1.2.1
  induction n with
  | zero => intro v1 v2 v4 I J H locs ls hp_v1 h hW hl; exact h.elim
  | succ n ih =>
    intro v1 v2 v4 I J H locs ls hp_v1 h hW hl
    refine lv_iload hx hb dX9_waysIn_5 (lv_at hl 3 rfl) ?_
    refine lv_aload_n hx hb dX9_waysIn_7 rfl (lv_at hl 0 rfl) ?_
    refine r_get X hW 1 (okS hW sc8_0) rfl rfl inX9 (Nat.le_of_ble_eq_true rfl) tw69 rfl dX9_waysIn_8 ?_
    refine lv_icmp_gt (tgt := 58) hx hb dX9_waysIn_11 (by decide) (fun c11 => ?_) (fun c11 => ?_)
    · have h := h.1 c11
      refine lv_lload_n hx hb dX9_waysIn_58 rfl (lv_at hl 2 rfl) ?_
      exact e_l X hW h dX9_waysIn_59
    · have h := h.2 c11
      refine lv_iconst (v := 0) hx hb dX9_waysIn_14 (by decide) ?_
      refine lv_istore (lv' := [(5, .int 0), (0, .ref (wa E 8 0)), (1, .ref (wa E 43 v1)), (2, .long v2), (4, .int v4)]) hx hb dX9_waysIn_15 hl (by decide) rfl (fun ls hl => ?_)
      obtain ⟨n17, h⟩ := h
      exact bX9_waysIn_17 X ih n17 v1 v2 v4 0 _ _ _ _ _ hp_v1 h hW (lv_sub hl [1, 2, 3, 4, 0] rfl)
def wX9_waysIn (g : GS) (a1 : Nat) (I : MI) (J : MJ) (Q : Int64 → MI → MJ → Prop) : Prop :=
  ∃ n5, wX9_waysIn_b5 g Q n5 a1 0 1 I J
theorem mbX9_waysIn : MB yX9_waysIn cX9_waysIn 6 ((Option.some FieldType.long)) 1 := ⟨tw607, tw4, ⟨by decide, by decide⟩, by decide +kernel, by decide +kernel⟩
set_option maxHeartbeats 4000000 in
set_option maxRecDepth 100000 in
theorem kX9_waysIn {l : Launch} {E : WE} {a1 : Nat} {I : MI} {J : MJ} {Q : Int64 → MI → MJ → Prop} (hp_a1 : a1 < (wg E).2.2) (h : wX9_waysIn (wg E) a1 I J Q) : Met l yX9_waysIn (wsM yX9_waysIn cX9_waysIn 6 ((Option.some FieldType.long))) (rmO 2 44) (va_Pc [.ref (wa E 8 0), .ref (wa E 43 a1)] (Wp E I J)) (QL E Q) 0 0 (AA E) := by
  refine m_entry mbX9_waysIn (Nat.le_of_ble_eq_true rfl) ?_
  intro p e s m args below meth c X ls hW hl
  have X : Cx E cX9_waysIn 6 RX9 ((Option.some FieldType.long)) p s m args c meth := X
  have hx := X.1.1
  have hb := X.1.2.1
  have hl : lv_has ls 6 [(0, .ref (wa E 8 0)), (1, .ref (wa E 43 a1))] := hl
  refine lv_lconst (v := 0) hx hb dX9_waysIn_0 (by decide) ?_
  refine lv_lstore_n (lv' := [(2, .long 0), (0, .ref (wa E 8 0)), (1, .ref (wa E 43 a1))]) hx hb dX9_waysIn_1 rfl hl (by decide) rfl (fun ls hl => ?_)
  refine lv_iconst (v := 1) hx hb dX9_waysIn_2 (by decide) ?_
  refine lv_istore (lv' := [(4, .int 1), (2, .long 0), (0, .ref (wa E 8 0)), (1, .ref (wa E 43 a1))]) hx hb dX9_waysIn_3 hl (by decide) rfl (fun ls hl => ?_)
  obtain ⟨n5, h⟩ := h
  exact bX9_waysIn_5 X n5 a1 0 1 _ _ _ _ _ hp_a1 h hW (lv_sub hl [2, 3, 1, 0] rfl)
def wX9_all (g : GS) (I : MI) (J : MJ) (Q : Int64 → MI → MJ → Prop) : Prop :=
  Q (J 8 0 2) I J
theorem mbX9_all : MB yX9_all cX9_all 1 ((Option.some FieldType.long)) 0 := ⟨tw617, tw4, ⟨by decide, by decide⟩, by decide +kernel, by decide +kernel⟩
set_option maxHeartbeats 4000000 in
set_option maxRecDepth 100000 in
theorem kX9_all {l : Launch} {E : WE} {I : MI} {J : MJ} {Q : Int64 → MI → MJ → Prop} (h : wX9_all (wg E) I J Q) : Met l yX9_all (wsM yX9_all cX9_all 1 ((Option.some FieldType.long))) (rmO 0 0) (va_Pc [.ref (wa E 8 0)] (Wp E I J)) (QL E Q) 0 0 (AA E) := by
  refine m_entry mbX9_all (Nat.le_of_ble_eq_true rfl) ?_
  intro p e s m args below meth c X ls hW hl
  have X : Cx E cX9_all 1 RX9 ((Option.some FieldType.long)) p s m args c meth := X
  have hx := X.1.1
  have hb := X.1.2.1
  have hl : lv_has ls 1 [(0, .ref (wa E 8 0))] := hl
  refine lv_aload_n hx hb dX9_all_0 rfl (lv_at hl 0 rfl) ?_
  refine r_get X hW 2 (okS hW sc8_0) rfl rfl inX9 (Nat.le_of_ble_eq_true rfl) tw70 rfl dX9_all_1 ?_
  exact e_l X hW h dX9_all_4
def wX10_kind (g : GS) (q : Nat) (I : MI) (J : MJ) (Q : Int32 → MI → MJ → Prop) : Prop :=
  Q 3 I J
theorem mbX10_kind : MB yX10_kind cX10_kind 1 ((Option.some FieldType.int)) 0 := ⟨tw390, tw12, ⟨by decide, by decide⟩, by decide +kernel, by decide +kernel⟩
set_option maxHeartbeats 4000000 in
set_option maxRecDepth 100000 in
theorem kX10_kind {l : Launch} {E : WE} {q : Nat} {I : MI} {J : MJ} {Q : Int32 → MI → MJ → Prop} (hp_q : q < (wg E).2.1) (hk_q : (wg E).1 q = 10 ∨ (wg E).1 q = 8) (h : wX10_kind (wg E) q I J Q) : Met l yX10_kind (wsM yX10_kind cX10_kind 1 ((Option.some FieldType.int))) (rmO 0 0) (va_Pc [.ref (wa E 40 q)] (Wp E I J)) (QI E Q) 0 0 (AA E) := by
  refine m_entry mbX10_kind (Nat.le_of_ble_eq_true rfl) ?_
  intro p e s m args below meth c X ls hW hl
  have X : Cx E cX10_kind 1 RX10 ((Option.some FieldType.int)) p s m args c meth := X
  have hx := X.1.1
  have hb := X.1.2.1
  have hl : lv_has ls 1 [(0, .ref (wa E 40 q))] := hl
  refine lv_iconst (v := 3) hx hb dX10_kind_0 (by decide) ?_
  exact e_i X hW h dX10_kind_1
def wX11_letters (g : GS) (a1 : Int64) (I : MI) (J : MJ) (Q : Int32 → MI → MJ → Prop) : Prop :=
  wX4_write g a1 I J (fun r5 I5 J5 => Q r5 I5 J5)
theorem mbX11_letters : MB yX11_letters cX11_letters 3 ((Option.some FieldType.int)) 1 := ⟨tw175, tw1, ⟨by decide, by decide⟩, by decide +kernel, by decide +kernel⟩
set_option maxHeartbeats 4000000 in
set_option maxRecDepth 100000 in
theorem kX11_letters {l : Launch} {E : WE} {a1 : Int64} {I : MI} {J : MJ} {Q : Int32 → MI → MJ → Prop} (h : wX11_letters (wg E) a1 I J Q) : Met l yX11_letters (wsM yX11_letters cX11_letters 3 ((Option.some FieldType.int))) (rmO 3 70) (va_Pc [.ref (wa E 0 0), .long a1] (Wp E I J)) (QI E Q) 0 0 (AA E) := by
  refine m_entry mbX11_letters (Nat.le_of_ble_eq_true rfl) ?_
  intro p e s m args below meth c X ls hW hl
  have X : Cx E cX11_letters 3 RX11 ((Option.some FieldType.int)) p s m args c meth := X
  have hx := X.1.1
  have hb := X.1.2.1
  have hl : lv_has ls 3 [(0, .ref (wa E 0 0)), (1, .long a1)] := hl
  refine lv_aload_n hx hb dX11_letters_0 rfl (lv_at hl 0 rfl) ?_
  refine r_get X hW 0 (okS hW sc0_0) rfl rfl inX11 (Nat.le_of_ble_eq_true rfl) tw132 rfl dX11_letters_1 ?_
  refine lv_lload_n hx hb dX11_letters_4 rfl (lv_at hl 1 rfl) ?_
  refine af_i hW (rn_V X hW (As := [.long a1]) (rest := []) (okS hW sc1_0) rfl rfl (kX4_write h) mbX4_write tw176 tw177 tw178 rfl hl.1 (Nat.le_of_ble_eq_true rfl) ⟨(Nat.le_of_ble_eq_true rfl), (Nat.le_of_ble_eq_true rfl)⟩ dX11_letters_5) (fun r5 I5 J5 H locs h hW => ?_)
  exact e_i X hW h dX11_letters_8
def wX11_blank (g : GS) (I : MI) (J : MJ) (Q : Int32 → MI → MJ → Prop) : Prop :=
  wX4_wipe g I J (fun r4 I4 J4 => Q r4 I4 J4)
theorem mbX11_blank : MB yX11_blank cX11_blank 1 ((Option.some FieldType.int)) 0 := ⟨tw190, tw1, ⟨by decide, by decide⟩, by decide +kernel, by decide +kernel⟩
set_option maxHeartbeats 4000000 in
set_option maxRecDepth 100000 in
theorem kX11_blank {l : Launch} {E : WE} {I : MI} {J : MJ} {Q : Int32 → MI → MJ → Prop} (h : wX11_blank (wg E) I J Q) : Met l yX11_blank (wsM yX11_blank cX11_blank 1 ((Option.some FieldType.int))) (rmO 1 21) (va_Pc [.ref (wa E 0 0)] (Wp E I J)) (QI E Q) 0 0 (AA E) := by
  refine m_entry mbX11_blank (Nat.le_of_ble_eq_true rfl) ?_
  intro p e s m args below meth c X ls hW hl
  have X : Cx E cX11_blank 1 RX11 ((Option.some FieldType.int)) p s m args c meth := X
  have hx := X.1.1
  have hb := X.1.2.1
  have hl : lv_has ls 1 [(0, .ref (wa E 0 0))] := hl
  refine lv_aload_n hx hb dX11_blank_0 rfl (lv_at hl 0 rfl) ?_
  refine r_get X hW 0 (okS hW sc0_0) rfl rfl inX11 (Nat.le_of_ble_eq_true rfl) tw132 rfl dX11_blank_1 ?_
  refine af_i hW (rn_V X hW (As := []) (rest := []) (okS hW sc1_0) rfl rfl (kX4_wipe h) mbX4_wipe tw191 tw192 tw193 rfl hl.1 (Nat.le_of_ble_eq_true rfl) ⟨(Nat.le_of_ble_eq_true rfl), (Nat.le_of_ble_eq_true rfl)⟩ dX11_blank_4) (fun r4 I4 J4 H locs h hW => ?_)
  exact e_i X hW h dX11_blank_7
def wX11_fault (g : GS) (I : MI) (J : MJ) (Q : Int32 → MI → MJ → Prop) : Prop :=
  wX4_firstFault g I J (fun r4 I4 J4 => Q r4 I4 J4)
theorem mbX11_fault : MB yX11_fault cX11_fault 1 ((Option.some FieldType.int)) 0 := ⟨tw198, tw1, ⟨by decide, by decide⟩, by decide +kernel, by decide +kernel⟩
set_option maxHeartbeats 4000000 in
set_option maxRecDepth 100000 in
theorem kX11_fault {l : Launch} {E : WE} {I : MI} {J : MJ} {Q : Int32 → MI → MJ → Prop} (h : wX11_fault (wg E) I J Q) : Met l yX11_fault (wsM yX11_fault cX11_fault 1 ((Option.some FieldType.int))) (rmO 3 65) (va_Pc [.ref (wa E 0 0)] (Wp E I J)) (QI E Q) 0 0 (AA E) := by
  refine m_entry mbX11_fault (Nat.le_of_ble_eq_true rfl) ?_
  intro p e s m args below meth c X ls hW hl
  have X : Cx E cX11_fault 1 RX11 ((Option.some FieldType.int)) p s m args c meth := X
  have hx := X.1.1
  have hb := X.1.2.1
  have hl : lv_has ls 1 [(0, .ref (wa E 0 0))] := hl
  refine lv_aload_n hx hb dX11_fault_0 rfl (lv_at hl 0 rfl) ?_
  refine r_get X hW 0 (okS hW sc0_0) rfl rfl inX11 (Nat.le_of_ble_eq_true rfl) tw132 rfl dX11_fault_1 ?_
  refine af_i hW (rn_V X hW (As := []) (rest := []) (okS hW sc1_0) rfl rfl (kX4_firstFault h) mbX4_firstFault tw199 tw200 tw201 rfl hl.1 (Nat.le_of_ble_eq_true rfl) ⟨(Nat.le_of_ble_eq_true rfl), (Nat.le_of_ble_eq_true rfl)⟩ dX11_fault_4) (fun r4 I4 J4 H locs h hW => ?_)
  exact e_i X hW h dX11_fault_7
def wX11_ruleAt (g : GS) (a1 : Int32) (I : MI) (J : MJ) (Q : Option Nat → MI → MJ → Prop) : Prop :=
  ((a1 < 0 → Q none I J) ∧ (¬ a1 < 0 → (((I 0 0 9) ≤ a1 → Q none I J) ∧ (¬ (I 0 0 9) ≤ a1 → vp_in a1 6 ∧ ((¬ (Int32.toNatClampNeg a1) < g.2.2 → Q none I J) ∧ ((Int32.toNatClampNeg a1) < g.2.2 → Q (some ((Int32.toNatClampNeg a1))) I J))))))
theorem mbX11_ruleAt : MB yX11_ruleAt cX11_ruleAt 2 ((Option.some (FieldType.object "BlackBalls$Rule"))) 1 := ⟨tw261, tw1, ⟨by decide, by decide⟩, by decide +kernel, by decide +kernel⟩
set_option maxHeartbeats 4000000 in
set_option maxRecDepth 100000 in
theorem kX11_ruleAt {l : Launch} {E : WE} {a1 : Int32} {I : MI} {J : MJ} {Q : Option Nat → MI → MJ → Prop} (h : wX11_ruleAt (wg E) a1 I J Q) : Met l yX11_ruleAt (wsM yX11_ruleAt cX11_ruleAt 2 ((Option.some (FieldType.object "BlackBalls$Rule")))) (rmO 0 0) (va_Pc [.ref (wa E 0 0), .int a1] (Wp E I J)) (QR E 43 (wg E).2.2 Q) 0 0 (AA E) := by
  refine m_entry mbX11_ruleAt (Nat.le_of_ble_eq_true rfl) ?_
  intro p e s m args below meth c X ls hW hl
  have X : Cx E cX11_ruleAt 2 RX11 ((Option.some (FieldType.object "BlackBalls$Rule"))) p s m args c meth := X
  have hx := X.1.1
  have hb := X.1.2.1
  have hl : lv_has ls 2 [(0, .ref (wa E 0 0)), (1, .int a1)] := hl
  refine lv_iload_n hx hb dX11_ruleAt_0 rfl (lv_at hl 1 rfl) ?_
  refine lv_if_lt (tgt := 21) hx hb dX11_ruleAt_1 (by decide) (fun c1 => ?_) (fun c1 => ?_)
  · have h := h.1 c1
    refine lv_null hx hb dX11_ruleAt_21 ?_
    exact e_rn X hW h dX11_ruleAt_22
  · have h := h.2 c1
    refine lv_iload_n hx hb dX11_ruleAt_4 rfl (lv_at hl 1 rfl) ?_
    refine lv_aload_n hx hb dX11_ruleAt_5 rfl (lv_at hl 0 rfl) ?_
    refine r_get X hW 9 (okS hW sc0_0) rfl rfl inX11 (Nat.le_of_ble_eq_true rfl) tw141 rfl dX11_ruleAt_6 ?_
    refine lv_icmp_ge (tgt := 21) hx hb dX11_ruleAt_9 (by decide) (fun c9 => ?_) (fun c9 => ?_)
    · have h := h.1 c9
      refine lv_null hx hb dX11_ruleAt_21 ?_
      exact e_rn X hW h dX11_ruleAt_22
    · have h := h.2 c9
      refine lv_aload_n hx hb dX11_ruleAt_12 rfl (lv_at hl 0 rfl) ?_
      refine r_get X hW 1 (okS hW sc0_0) rfl rfl inX11 (Nat.le_of_ble_eq_true rfl) tw133 rfl dX11_ruleAt_13 ?_
      refine lv_iload_n hx hb dX11_ruleAt_16 rfl (lv_at hl 1 rfl) ?_
      refine r_aaR X hW h.1 dX11_ruleAt_17 (fun c17 => ?_) (fun c17 => ?_)
      · have h := h.2.1 c17
        refine lv_goto (tgt := 22) hx hb dX11_ruleAt_18 (by decide) ?_
        exact e_rn X hW h dX11_ruleAt_22
      · have h := h.2.2 c17
        refine lv_goto (tgt := 22) hx hb dX11_ruleAt_18 (by decide) ?_
        exact e_rs X hW c17 h dX11_ruleAt_22
def wX11_ruleTold (g : GS) (a1 : Int32) (a2 : Int32) (I : MI) (J : MJ) (Q : Int32 → MI → MJ → Prop) : Prop :=
  wX11_ruleAt g a1 I J (fun o2 I2 J2 => (o2 = none → Q ((-101)) I2 J2) ∧ (∀ r2, o2 = some r2 → wX11_within g a2 0 4 I2 J2 (fun r16 I16 J16 => ((¬ r16 = 0 → wX6_told g r2 a2 I16 J16 (fun r27 I27 J27 => Q r27 I27 J27)) ∧ (r16 = 0 → Q ((-102)) I16 J16)))))
theorem mbX11_ruleTold : MB yX11_ruleTold cX11_ruleTold 4 ((Option.some FieldType.int)) 2 := ⟨tw257, tw1, ⟨by decide, by decide⟩, by decide +kernel, by decide +kernel⟩
set_option maxHeartbeats 4000000 in
set_option maxRecDepth 100000 in
theorem kX11_ruleTold {l : Launch} {E : WE} {a1 : Int32} {a2 : Int32} {I : MI} {J : MJ} {Q : Int32 → MI → MJ → Prop} (h : wX11_ruleTold (wg E) a1 a2 I J Q) : Met l yX11_ruleTold (wsM yX11_ruleTold cX11_ruleTold 4 ((Option.some FieldType.int))) (rmO 1 22) (va_Pc [.ref (wa E 0 0), .int a1, .int a2] (Wp E I J)) (QI E Q) 0 0 (AA E) := by
  refine m_entry mbX11_ruleTold (Nat.le_of_ble_eq_true rfl) ?_
  intro p e s m args below meth c X ls hW hl
  have X : Cx E cX11_ruleTold 4 RX11 ((Option.some FieldType.int)) p s m args c meth := X
  have hx := X.1.1
  have hb := X.1.2.1
  have hl : lv_has ls 4 [(0, .ref (wa E 0 0)), (1, .int a1), (2, .int a2)] := hl
  refine lv_aload_n hx hb dX11_ruleTold_0 rfl (lv_at hl 0 rfl) ?_
  refine lv_iload_n hx hb dX11_ruleTold_1 rfl (lv_at hl 1 rfl) ?_
  refine af_r hW (rn_V X hW (As := [.int a1]) (rest := []) (okS hW sc0_0) rfl rfl (kX11_ruleAt h) mbX11_ruleAt tw258 tw260 tp1 rfl hl.1 (Nat.le_of_ble_eq_true rfl) ⟨(Nat.le_of_ble_eq_true rfl), (Nat.le_of_ble_eq_true rfl)⟩ dX11_ruleTold_2) (fun I2 J2 H locs h hW => ?_) (fun r2 I2 J2 H locs c2 h hW => ?_)
  · have h := h.1 rfl
    refine lv_astore_nN (lv' := [(3, .null), (0, .ref (wa E 0 0)), (1, .int a1), (2, .int a2)]) hx hb dX11_ruleTold_5 rfl hl (by decide) rfl (fun ls hl => ?_)
    refine lv_aload_nN hx hb dX11_ruleTold_6 rfl (lv_at hl 0 rfl) ?_
    refine lv_ifnonnullN hx hb dX11_ruleTold_7 ?_
    refine lv_bipush (v := (-101)) hx hb dX11_ruleTold_10 (by decide) ?_
    exact e_i X hW h dX11_ruleTold_12
  · have h := h.2 r2 rfl
    refine lv_astore_n (lv' := [(3, .ref (wa E 43 r2)), (0, .ref (wa E 0 0)), (1, .int a1), (2, .int a2)]) hx hb dX11_ruleTold_5 rfl hl (by decide) rfl (fun ls hl => ?_)
    refine lv_aload_n hx hb dX11_ruleTold_6 rfl (lv_at hl 0 rfl) ?_
    refine lv_ifnonnull (tgt := 13) hx hb dX11_ruleTold_7 (by decide) ?_
    refine lv_iload_n hx hb dX11_ruleTold_13 rfl (lv_at hl 3 rfl) ?_
    refine lv_iconst (v := 0) hx hb dX11_ruleTold_14 (by decide) ?_
    refine lv_iconst (v := 4) hx hb dX11_ruleTold_15 (by decide) ?_
    refine af_i hW (rn_S X hW (As := [.int a2, .int 0, .int 4]) (rest := []) (kX11_within h) mbX11_within tw262 tw207 rfl hl.1 (Nat.le_of_ble_eq_true rfl) ⟨(Nat.le_of_ble_eq_true rfl), (Nat.le_of_ble_eq_true rfl)⟩ dX11_ruleTold_16) (fun r16 I16 J16 H locs h hW => ?_)
    refine lv_if_ne (tgt := 25) hx hb dX11_ruleTold_19 (by decide) (fun c19 => ?_) (fun c19 => ?_)
    · have h := h.1 c19
      refine lv_aload_n hx hb dX11_ruleTold_25 rfl (lv_at hl 0 rfl) ?_
      refine lv_iload_n hx hb dX11_ruleTold_26 rfl (lv_at hl 3 rfl) ?_
      refine af_i hW (rn_V X hW (As := [.int a2]) (rest := []) (okR hW c2) rfl rfl (kX6_told c2 h) mbX6_told tw263 tw264 tw265 rfl hl.1 (Nat.le_of_ble_eq_true rfl) ⟨(Nat.le_of_ble_eq_true rfl), (Nat.le_of_ble_eq_true rfl)⟩ dX11_ruleTold_27) (fun r27 I27 J27 H locs h hW => ?_)
      exact e_i X hW h dX11_ruleTold_30
    · have h := h.2 c19
      refine lv_bipush (v := (-102)) hx hb dX11_ruleTold_22 (by decide) ?_
      exact e_i X hW h dX11_ruleTold_24
def wX11_isSuch (g : GS) (a0 : Nat) (a1 : Int32) (I : MI) (J : MJ) (Q : Int32 → MI → MJ → Prop) : Prop :=
  ((a1 = 1 → isB (isK (g.1 a0) 2) ∧ Q (isK (g.1 a0) 2) I J) ∧ (¬ a1 = 1 → ((a1 = 2 → isB (isK (g.1 a0) 3) ∧ Q (isK (g.1 a0) 3) I J) ∧ (¬ a1 = 2 → ((a1 = 3 → isB (isK (g.1 a0) 10) ∧ Q (isK (g.1 a0) 10) I J) ∧ (¬ a1 = 3 → ((a1 = 4 → isB (isK (g.1 a0) 8) ∧ Q (isK (g.1 a0) 8) I J) ∧ (¬ a1 = 4 → Q 1 I J))))))))
theorem mbX11_isSuch : MB yX11_isSuch cX11_isSuch 2 ((Option.some FieldType.boolean)) 2 := ⟨tw370, tw1, ⟨by decide, by decide⟩, by decide +kernel, by decide +kernel⟩
set_option maxHeartbeats 4000000 in
set_option maxRecDepth 100000 in
theorem kX11_isSuch {l : Launch} {E : WE} {a0 : Nat} {a1 : Int32} {I : MI} {J : MJ} {Q : Int32 → MI → MJ → Prop} (hp_a0 : a0 < (wg E).2.1) (h : wX11_isSuch (wg E) a0 a1 I J Q) : Met l yX11_isSuch (wsM yX11_isSuch cX11_isSuch 2 ((Option.some FieldType.boolean))) (rmO 0 0) (va_Pc [.ref (wa E 40 a0), .int a1] (Wp E I J)) (QI E Q) 0 0 (AA E) := by
  refine m_entry mbX11_isSuch (Nat.le_of_ble_eq_true rfl) ?_
  intro p e s m args below meth c X ls hW hl
  have X : Cx E cX11_isSuch 2 RX11 ((Option.some FieldType.boolean)) p s m args c meth := X
  have hx := X.1.1
  have hb := X.1.2.1
  have hl : lv_has ls 2 [(0, .ref (wa E 40 a0)), (1, .int a1)] := hl
  refine lv_iload_n hx hb dX11_isSuch_0 rfl (lv_at hl 1 rfl) ?_
  by_cases s1_0 : a1 = 1
  · have h := h.1 s1_0
    refine sw_in (tgt := 32) (off := 31) hx hb dX11_isSuch_1 s1_0 (by decide) (by decide) (by decide) (by decide) ?_
    refine lv_aload_n hx hb dX11_isSuch_32 rfl (lv_at hl 0 rfl) ?_
    refine r_inst X hW hp_a0 (Or.inl ⟨rfl, rfl⟩) dX11_isSuch_33 ?_
    exact e_z X hW (isB_n h.1) h.2 dX11_isSuch_36
  · have h := h.2 s1_0
    by_cases s1_1 : a1 = 2
    · have h := h.1 s1_1
      refine sw_in (tgt := 37) (off := 36) hx hb dX11_isSuch_1 s1_1 (by decide) (by decide) (by decide) (by decide) ?_
      refine lv_aload_n hx hb dX11_isSuch_37 rfl (lv_at hl 0 rfl) ?_
      refine r_inst X hW hp_a0 (Or.inr (Or.inl ⟨rfl, rfl⟩)) dX11_isSuch_38 ?_
      exact e_z X hW (isB_n h.1) h.2 dX11_isSuch_41
    · have h := h.2 s1_1
      by_cases s1_2 : a1 = 3
      · have h := h.1 s1_2
        refine sw_in (tgt := 42) (off := 41) hx hb dX11_isSuch_1 s1_2 (by decide) (by decide) (by decide) (by decide) ?_
        refine lv_aload_n hx hb dX11_isSuch_42 rfl (lv_at hl 0 rfl) ?_
        refine r_inst X hW hp_a0 (Or.inr (Or.inr (Or.inl ⟨rfl, rfl⟩))) dX11_isSuch_43 ?_
        exact e_z X hW (isB_n h.1) h.2 dX11_isSuch_46
      · have h := h.2 s1_2
        by_cases s1_3 : a1 = 4
        · have h := h.1 s1_3
          refine sw_in (tgt := 47) (off := 46) hx hb dX11_isSuch_1 s1_3 (by decide) (by decide) (by decide) (by decide) ?_
          refine lv_aload_n hx hb dX11_isSuch_47 rfl (lv_at hl 0 rfl) ?_
          refine r_inst X hW hp_a0 (Or.inr (Or.inr (Or.inr ⟨rfl, rfl⟩))) dX11_isSuch_48 ?_
          exact e_z X hW (isB_n h.1) h.2 dX11_isSuch_51
        · have h := h.2 s1_3
          have z1 : Int32.toInt a1 < 1 ∨ 4 < Int32.toInt a1 := by
            have := ne_ti s1_0 (a := 1) (by decide)
            have := ne_ti s1_1 (a := 2) (by decide)
            have := ne_ti s1_2 (a := 3) (by decide)
            have := ne_ti s1_3 (a := 4) (by decide)
            omega
          refine lv_tableOut (tgt := 52) hx hb dX11_isSuch_1 z1 (by decide) ?_
          refine lv_iconst (v := 1) hx hb dX11_isSuch_52 (by decide) ?_
          exact e_z X hW rfl h dX11_isSuch_53
def wX11_personAt (g : GS) (a1 : Int32) (I : MI) (J : MJ) (Q : Option Nat → MI → MJ → Prop) : Prop :=
  ((a1 < 0 → Q none I J) ∧ (¬ a1 < 0 → (((I 0 0 10) ≤ a1 → Q none I J) ∧ (¬ (I 0 0 10) ≤ a1 → vp_in a1 8 ∧ ((¬ (Int32.toNatClampNeg a1) < g.2.1 → Q none I J) ∧ ((Int32.toNatClampNeg a1) < g.2.1 → Q (some ((Int32.toNatClampNeg a1))) I J))))))
theorem mbX11_personAt : MB yX11_personAt cX11_personAt 2 ((Option.some (FieldType.object "BlackBalls$Person"))) 1 := ⟨tw274, tw1, ⟨by decide, by decide⟩, by decide +kernel, by decide +kernel⟩
set_option maxHeartbeats 4000000 in
set_option maxRecDepth 100000 in
theorem kX11_personAt {l : Launch} {E : WE} {a1 : Int32} {I : MI} {J : MJ} {Q : Option Nat → MI → MJ → Prop} (h : wX11_personAt (wg E) a1 I J Q) : Met l yX11_personAt (wsM yX11_personAt cX11_personAt 2 ((Option.some (FieldType.object "BlackBalls$Person")))) (rmO 0 0) (va_Pc [.ref (wa E 0 0), .int a1] (Wp E I J)) (QR E 40 (wg E).2.1 Q) 0 0 (AA E) := by
  refine m_entry mbX11_personAt (Nat.le_of_ble_eq_true rfl) ?_
  intro p e s m args below meth c X ls hW hl
  have X : Cx E cX11_personAt 2 RX11 ((Option.some (FieldType.object "BlackBalls$Person"))) p s m args c meth := X
  have hx := X.1.1
  have hb := X.1.2.1
  have hl : lv_has ls 2 [(0, .ref (wa E 0 0)), (1, .int a1)] := hl
  refine lv_iload_n hx hb dX11_personAt_0 rfl (lv_at hl 1 rfl) ?_
  refine lv_if_lt (tgt := 21) hx hb dX11_personAt_1 (by decide) (fun c1 => ?_) (fun c1 => ?_)
  · have h := h.1 c1
    refine lv_null hx hb dX11_personAt_21 ?_
    exact e_rn X hW h dX11_personAt_22
  · have h := h.2 c1
    refine lv_iload_n hx hb dX11_personAt_4 rfl (lv_at hl 1 rfl) ?_
    refine lv_aload_n hx hb dX11_personAt_5 rfl (lv_at hl 0 rfl) ?_
    refine r_get X hW 10 (okS hW sc0_0) rfl rfl inX11 (Nat.le_of_ble_eq_true rfl) tw142 rfl dX11_personAt_6 ?_
    refine lv_icmp_ge (tgt := 21) hx hb dX11_personAt_9 (by decide) (fun c9 => ?_) (fun c9 => ?_)
    · have h := h.1 c9
      refine lv_null hx hb dX11_personAt_21 ?_
      exact e_rn X hW h dX11_personAt_22
    · have h := h.2 c9
      refine lv_aload_n hx hb dX11_personAt_12 rfl (lv_at hl 0 rfl) ?_
      refine r_get X hW 2 (okS hW sc0_0) rfl rfl inX11 (Nat.le_of_ble_eq_true rfl) tw134 rfl dX11_personAt_13 ?_
      refine lv_iload_n hx hb dX11_personAt_16 rfl (lv_at hl 1 rfl) ?_
      refine r_aaP X hW h.1 dX11_personAt_17 (fun c17 => ?_) (fun c17 => ?_)
      · have h := h.2.1 c17
        refine lv_goto (tgt := 22) hx hb dX11_personAt_18 (by decide) ?_
        exact e_rn X hW h dX11_personAt_22
      · have h := h.2.2 c17
        refine lv_goto (tgt := 22) hx hb dX11_personAt_18 (by decide) ?_
        exact e_rs X hW c17 h dX11_personAt_22
def wX11_as (g : GS) (a1 : Int32) (a2 : Int32) (I : MI) (J : MJ) (Q : Int32 → MI → MJ → Prop) : Prop :=
  wX11_personAt g a1 I J (fun o2 I2 J2 => (o2 = none → Q ((-101)) I2 J2) ∧ (∀ r2, o2 = some r2 → wX11_within g a2 0 4 I2 J2 (fun r16 I16 J16 => ((¬ r16 = 0 → wX11_isSuch g r2 a2 I16 J16 (fun r27 I27 J27 => ((r27 = 0 → Q ((-1)) I27 J27) ∧ (¬ r27 = 0 → Q (I27 40 r2 0) I27 J27)))) ∧ (r16 = 0 → Q ((-102)) I16 J16)))))
theorem mbX11_as : MB yX11_as cX11_as 4 ((Option.some FieldType.int)) 2 := ⟨tw367, tw1, ⟨by decide, by decide⟩, by decide +kernel, by decide +kernel⟩
set_option maxHeartbeats 4000000 in
set_option maxRecDepth 100000 in
theorem kX11_as {l : Launch} {E : WE} {a1 : Int32} {a2 : Int32} {I : MI} {J : MJ} {Q : Int32 → MI → MJ → Prop} (h : wX11_as (wg E) a1 a2 I J Q) : Met l yX11_as (wsM yX11_as cX11_as 4 ((Option.some FieldType.int))) (rmO 1 22) (va_Pc [.ref (wa E 0 0), .int a1, .int a2] (Wp E I J)) (QI E Q) 0 0 (AA E) := by
  refine m_entry mbX11_as (Nat.le_of_ble_eq_true rfl) ?_
  intro p e s m args below meth c X ls hW hl
  have X : Cx E cX11_as 4 RX11 ((Option.some FieldType.int)) p s m args c meth := X
  have hx := X.1.1
  have hb := X.1.2.1
  have hl : lv_has ls 4 [(0, .ref (wa E 0 0)), (1, .int a1), (2, .int a2)] := hl
  refine lv_aload_n hx hb dX11_as_0 rfl (lv_at hl 0 rfl) ?_
  refine lv_iload_n hx hb dX11_as_1 rfl (lv_at hl 1 rfl) ?_
  refine af_r hW (rn_V X hW (As := [.int a1]) (rest := []) (okS hW sc0_0) rfl rfl (kX11_personAt h) mbX11_personAt tw271 tw273 tp2 rfl hl.1 (Nat.le_of_ble_eq_true rfl) ⟨(Nat.le_of_ble_eq_true rfl), (Nat.le_of_ble_eq_true rfl)⟩ dX11_as_2) (fun I2 J2 H locs h hW => ?_) (fun r2 I2 J2 H locs c2 h hW => ?_)
  · have h := h.1 rfl
    refine lv_astore_nN (lv' := [(3, .null), (0, .ref (wa E 0 0)), (1, .int a1), (2, .int a2)]) hx hb dX11_as_5 rfl hl (by decide) rfl (fun ls hl => ?_)
    refine lv_aload_nN hx hb dX11_as_6 rfl (lv_at hl 0 rfl) ?_
    refine lv_ifnonnullN hx hb dX11_as_7 ?_
    refine lv_bipush (v := (-101)) hx hb dX11_as_10 (by decide) ?_
    exact e_i X hW h dX11_as_12
  · have h := h.2 r2 rfl
    refine lv_astore_n (lv' := [(3, .ref (wa E 40 r2)), (0, .ref (wa E 0 0)), (1, .int a1), (2, .int a2)]) hx hb dX11_as_5 rfl hl (by decide) rfl (fun ls hl => ?_)
    refine lv_aload_n hx hb dX11_as_6 rfl (lv_at hl 0 rfl) ?_
    refine lv_ifnonnull (tgt := 13) hx hb dX11_as_7 (by decide) ?_
    refine lv_iload_n hx hb dX11_as_13 rfl (lv_at hl 3 rfl) ?_
    refine lv_iconst (v := 0) hx hb dX11_as_14 (by decide) ?_
    refine lv_iconst (v := 4) hx hb dX11_as_15 (by decide) ?_
    refine af_i hW (rn_S X hW (As := [.int a2, .int 0, .int 4]) (rest := []) (kX11_within h) mbX11_within tw262 tw207 rfl hl.1 (Nat.le_of_ble_eq_true rfl) ⟨(Nat.le_of_ble_eq_true rfl), (Nat.le_of_ble_eq_true rfl)⟩ dX11_as_16) (fun r16 I16 J16 H locs h hW => ?_)
    refine lv_if_ne (tgt := 25) hx hb dX11_as_19 (by decide) (fun c19 => ?_) (fun c19 => ?_)
    · have h := h.1 c19
      refine lv_aload_n hx hb dX11_as_25 rfl (lv_at hl 0 rfl) ?_
      refine lv_iload_n hx hb dX11_as_26 rfl (lv_at hl 3 rfl) ?_
      refine af_i hW (rn_S X hW (As := [.ref (wa E 40 r2), .int a2]) (rest := []) (kX11_isSuch c2 h) mbX11_isSuch tw368 tw369 rfl hl.1 (Nat.le_of_ble_eq_true rfl) ⟨(Nat.le_of_ble_eq_true rfl), (Nat.le_of_ble_eq_true rfl)⟩ dX11_as_27) (fun r27 I27 J27 H locs h hW => ?_)
      refine lv_if_eq (tgt := 40) hx hb dX11_as_30 (by decide) (fun c30 => ?_) (fun c30 => ?_)
      · have h := h.1 c30
        refine lv_iconst (v := (-1)) hx hb dX11_as_40 (by decide) ?_
        exact e_i X hW h dX11_as_41
      · have h := h.2 c30
        refine lv_aload_n hx hb dX11_as_33 rfl (lv_at hl 0 rfl) ?_
        refine r_getP0N X hW c2 nw289 dX11_as_34 ?_
        refine lv_goto (tgt := 41) hx hb dX11_as_37 (by decide) ?_
        exact e_i X hW h dX11_as_41
    · have h := h.2 c19
      refine lv_bipush (v := (-102)) hx hb dX11_as_22 (by decide) ?_
      exact e_i X hW h dX11_as_24
def wv_kind (g : GS) (q : Nat) (I : MI) (J : MJ) (Q : Int32 → MI → MJ → Prop) : Prop :=
  (g.1 q = 2 → wX2_kind g q I J Q) ∧ (g.1 q = 3 → wX3_kind g q I J Q) ∧ (g.1 q = 8 → wX8_kind g q I J Q) ∧ (g.1 q = 10 → wX10_kind g q I J Q) ∧ ((¬ g.1 q = 2 ∧ ¬ g.1 q = 3 ∧ ¬ g.1 q = 8 ∧ ¬ g.1 q = 10) → wX5_kind g q I J Q)
set_option maxHeartbeats 4000000 in
set_option maxRecDepth 100000 in
theorem v_kind {p : Program} {l : Launch} {e : Env} {R : Room} {s : State} {m : MethodId} {args : Array Value} {below : List Frame} {meth : Method} {c : Code} {H : Heap} {locs : List Loc} {E : WE} {I : MI} {J : MJ} {cc : ByteArray} {nL : Nat} {own : String} {rt : Option FieldType} {pc : Nat} {ls : Array Slot} {rest : List Value} {q index : Nat} {Q : Int32 → MI → MJ → Prop} (X : Cx E cc nL own rt p s m args c meth) (hW : Wd E I J s H locs) (hp : q < (wg E).2.1) (h : wv_kind (wg E) q I J Q) (hlk : Cond.methodLink own index yX5_kind ∈ lwt) (hsz : ls.size = nL) (hcat : (rest.map fun v => v.category).sum ≤ 8) (hR : 0 + 1 ≤ R.frames ∧ 8 + (1 + 11) + 0 ≤ R.locals) (hdg : decode cc pc = .ok (.invokevirtual index, 3)) :
    va_Run p l e R s m args below meth c H locs 0 0 0 0 (F0 m pc ls (.ref (wa E 40 q) :: rest)) rest (QI E Q (.ref (wa E 40 q) :: []).toArray) (AA E) := by
  obtain ⟨h2, h3, h8, h10, h5⟩ := h
  rcases kd_cases ((wg E).1 q) with hk | hk | hk | hk | hk
  · exact rn_O X hW (As := []) (x := yX5_kind) (owner := RX5) (okP hW hp).1 (co2 E _ _ hk) rfl (kX2_kind hp (h2 hk)) mbX2_kind hlk tw378 tw376 tw380 tw379 tw391 ⟨by decide, by decide, by decide +kernel⟩ rfl hsz hcat ⟨by have := hR.1; omega, by have := hR.2; omega⟩ hdg
  · exact rn_O X hW (As := []) (x := yX5_kind) (owner := RX5) (okP hW hp).1 (co3 E _ _ hk) rfl (kX3_kind hp hk (h3 hk)) mbX3_kind hlk tw378 tw376 tw383 tw382 tw391 ⟨by decide, by decide, by decide +kernel⟩ rfl hsz hcat ⟨by have := hR.1; omega, by have := hR.2; omega⟩ hdg
  · exact rn_O X hW (As := []) (x := yX5_kind) (owner := RX5) (okP hW hp).1 (co8 E _ _ hk) rfl (kX8_kind hp hk (h8 hk)) mbX8_kind hlk tw378 tw376 tw386 tw385 tw391 ⟨by decide, by decide, by decide +kernel⟩ rfl hsz hcat ⟨by have := hR.1; omega, by have := hR.2; omega⟩ hdg
  · exact rn_O X hW (As := []) (x := yX5_kind) (owner := RX5) (okP hW hp).1 (co10 E _ _ hk) rfl (kX10_kind hp (Or.inl hk) (h10 hk)) mbX10_kind hlk tw378 tw376 tw389 tw388 tw391 ⟨by decide, by decide, by decide +kernel⟩ rfl hsz hcat ⟨by have := hR.1; omega, by have := hR.2; omega⟩ hdg
  · exact rn_V X hW (As := []) (okP hW hp).1 (co5 E _ _ hk) rfl (kX5_kind hp (h5 hk)) mbX5_kind hlk tw376 tw377 rfl hsz hcat ⟨by have := hR.1; omega, by have := hR.2; omega⟩ hdg

def wv_n (g : GS) (q : Nat) (I : MI) (J : MJ) (Q : Int32 → MI → MJ → Prop) : Prop :=
  (g.1 q = 2 → wX5_n g q I J Q) ∧ (g.1 q = 3 → wX3_n g q I J Q) ∧ (g.1 q = 8 → wX10_n g q I J Q) ∧ (g.1 q = 10 → wX10_n g q I J Q) ∧ ((¬ g.1 q = 2 ∧ ¬ g.1 q = 3 ∧ ¬ g.1 q = 8 ∧ ¬ g.1 q = 10) → wX5_n g q I J Q)
set_option maxHeartbeats 4000000 in
set_option maxRecDepth 100000 in
theorem v_n {p : Program} {l : Launch} {e : Env} {R : Room} {s : State} {m : MethodId} {args : Array Value} {below : List Frame} {meth : Method} {c : Code} {H : Heap} {locs : List Loc} {E : WE} {I : MI} {J : MJ} {cc : ByteArray} {nL : Nat} {own : String} {rt : Option FieldType} {pc : Nat} {ls : Array Slot} {rest : List Value} {q index : Nat} {Q : Int32 → MI → MJ → Prop} (X : Cx E cc nL own rt p s m args c meth) (hW : Wd E I J s H locs) (hp : q < (wg E).2.1) (h : wv_n (wg E) q I J Q) (hlk : Cond.methodLink own index yX5_n ∈ lwt) (hsz : ls.size = nL) (hcat : (rest.map fun v => v.category).sum ≤ 8) (hR : 0 + 1 ≤ R.frames ∧ 8 + (1 + 11) + 0 ≤ R.locals) (hdg : decode cc pc = .ok (.invokevirtual index, 3)) :
    va_Run p l e R s m args below meth c H locs 0 0 0 0 (F0 m pc ls (.ref (wa E 40 q) :: rest)) rest (QI E Q (.ref (wa E 40 q) :: []).toArray) (AA E) := by
  obtain ⟨h2, h3, h8, h10, h5⟩ := h
  rcases kd_cases ((wg E).1 q) with hk | hk | hk | hk | hk
  · exact rn_V X hW (As := []) (okP hW hp).1 (co2 E _ _ hk) rfl (kX5_n hp (h2 hk)) mbX5_n hlk tw393 tw396 rfl hsz hcat ⟨by have := hR.1; omega, by have := hR.2; omega⟩ hdg
  · exact rn_O X hW (As := []) (x := yX5_n) (owner := RX5) (okP hW hp).1 (co3 E _ _ hk) rfl (kX3_n hp hk (h3 hk)) mbX3_n hlk tw395 tw393 tw398 tw397 tw404 ⟨by decide, by decide, by decide +kernel⟩ rfl hsz hcat ⟨by have := hR.1; omega, by have := hR.2; omega⟩ hdg
  · exact rn_O X hW (As := []) (x := yX5_n) (owner := RX5) (okP hW hp).1 (co8 E _ _ hk) rfl (kX10_n hp (Or.inr hk) (h8 hk)) mbX10_n hlk tw395 tw393 tw401 tw400 tw404 ⟨by decide, by decide, by decide +kernel⟩ rfl hsz hcat ⟨by have := hR.1; omega, by have := hR.2; omega⟩ hdg
  · exact rn_O X hW (As := []) (x := yX5_n) (owner := RX5) (okP hW hp).1 (co10 E _ _ hk) rfl (kX10_n hp (Or.inl hk) (h10 hk)) mbX10_n hlk tw395 tw393 tw401 tw403 tw404 ⟨by decide, by decide, by decide +kernel⟩ rfl hsz hcat ⟨by have := hR.1; omega, by have := hR.2; omega⟩ hdg
  · exact rn_V X hW (As := []) (okP hW hp).1 (co5 E _ _ hk) rfl (kX5_n hp (h5 hk)) mbX5_n hlk tw393 tw394 rfl hsz hcat ⟨by have := hR.1; omega, by have := hR.2; omega⟩ hdg

def wX11_about (g : GS) (a1 : Int32) (a2 : Int32) (I : MI) (J : MJ) (Q : Int32 → MI → MJ → Prop) : Prop :=
  wX11_personAt g a1 I J (fun o2 I2 J2 => (o2 = none → Q ((-101)) I2 J2) ∧ (∀ r2, o2 = some r2 → ((a2 = 0 → wv_kind g r2 I2 J2 (fun r41 I41 J41 => Q r41 I41 J41)) ∧ (¬ a2 = 0 → ((a2 = 1 → wv_n g r2 I2 J2 (fun r46 I46 J46 => Q r46 I46 J46)) ∧ (¬ a2 = 1 → ((a2 = 2 → Q (I2 40 r2 3) I2 J2) ∧ (¬ a2 = 2 → Q ((-102)) I2 J2))))))))
theorem mbX11_about : MB yX11_about cX11_about 4 ((Option.some FieldType.int)) 2 := ⟨tw374, tw1, ⟨by decide, by decide⟩, by decide +kernel, by decide +kernel⟩
set_option maxHeartbeats 4000000 in
set_option maxRecDepth 100000 in
theorem kX11_about {l : Launch} {E : WE} {a1 : Int32} {a2 : Int32} {I : MI} {J : MJ} {Q : Int32 → MI → MJ → Prop} (h : wX11_about (wg E) a1 a2 I J Q) : Met l yX11_about (wsM yX11_about cX11_about 4 ((Option.some FieldType.int))) (rmO 1 23) (va_Pc [.ref (wa E 0 0), .int a1, .int a2] (Wp E I J)) (QI E Q) 0 0 (AA E) := by
  refine m_entry mbX11_about (Nat.le_of_ble_eq_true rfl) ?_
  intro p e s m args below meth c X ls hW hl
  have X : Cx E cX11_about 4 RX11 ((Option.some FieldType.int)) p s m args c meth := X
  have hx := X.1.1
  have hb := X.1.2.1
  have hl : lv_has ls 4 [(0, .ref (wa E 0 0)), (1, .int a1), (2, .int a2)] := hl
  refine lv_aload_n hx hb dX11_about_0 rfl (lv_at hl 0 rfl) ?_
  refine lv_iload_n hx hb dX11_about_1 rfl (lv_at hl 1 rfl) ?_
  refine af_r hW (rn_V X hW (As := [.int a1]) (rest := []) (okS hW sc0_0) rfl rfl (kX11_personAt h) mbX11_personAt tw271 tw273 tp2 rfl hl.1 (Nat.le_of_ble_eq_true rfl) ⟨(Nat.le_of_ble_eq_true rfl), (Nat.le_of_ble_eq_true rfl)⟩ dX11_about_2) (fun I2 J2 H locs h hW => ?_) (fun r2 I2 J2 H locs c2 h hW => ?_)
  · have h := h.1 rfl
    refine lv_astore_nN (lv' := [(3, .null), (0, .ref (wa E 0 0)), (1, .int a1), (2, .int a2)]) hx hb dX11_about_5 rfl hl (by decide) rfl (fun ls hl => ?_)
    refine lv_aload_nN hx hb dX11_about_6 rfl (lv_at hl 0 rfl) ?_
    refine lv_ifnonnullN hx hb dX11_about_7 ?_
    refine lv_bipush (v := (-101)) hx hb dX11_about_10 (by decide) ?_
    exact e_i X hW h dX11_about_12
  · have h := h.2 r2 rfl
    refine lv_astore_n (lv' := [(3, .ref (wa E 40 r2)), (0, .ref (wa E 0 0)), (1, .int a1), (2, .int a2)]) hx hb dX11_about_5 rfl hl (by decide) rfl (fun ls hl => ?_)
    refine lv_aload_n hx hb dX11_about_6 rfl (lv_at hl 0 rfl) ?_
    refine lv_ifnonnull (tgt := 13) hx hb dX11_about_7 (by decide) ?_
    refine lv_iload_n hx hb dX11_about_13 rfl (lv_at hl 3 rfl) ?_
    by_cases s14_0 : a2 = 0
    · have h := h.1 s14_0
      refine sw_in (tgt := 40) (off := 26) hx hb dX11_about_14 s14_0 (by decide) (by decide) (by decide) (by decide) ?_
      refine lv_aload_n hx hb dX11_about_40 rfl (lv_at hl 0 rfl) ?_
      refine af_i hW (v_kind X hW (rest := []) c2 h tw375 hl.1 (Nat.le_of_ble_eq_true rfl) ⟨(Nat.le_of_ble_eq_true rfl), (Nat.le_of_ble_eq_true rfl)⟩ dX11_about_41) (fun r41 I41 J41 H locs h hW => ?_)
      exact e_i X hW h dX11_about_44
    · have h := h.2 s14_0
      by_cases s14_1 : a2 = 1
      · have h := h.1 s14_1
        refine sw_in (tgt := 45) (off := 31) hx hb dX11_about_14 s14_1 (by decide) (by decide) (by decide) (by decide) ?_
        refine lv_aload_n hx hb dX11_about_45 rfl (lv_at hl 0 rfl) ?_
        refine af_i hW (v_n X hW (rest := []) c2 h tw392 hl.1 (Nat.le_of_ble_eq_true rfl) ⟨(Nat.le_of_ble_eq_true rfl), (Nat.le_of_ble_eq_true rfl)⟩ dX11_about_46) (fun r46 I46 J46 H locs h hW => ?_)
        exact e_i X hW h dX11_about_49
      · have h := h.2 s14_1
        by_cases s14_2 : a2 = 2
        · have h := h.1 s14_2
          refine sw_in (tgt := 50) (off := 36) hx hb dX11_about_14 s14_2 (by decide) (by decide) (by decide) (by decide) ?_
          refine lv_aload_n hx hb dX11_about_50 rfl (lv_at hl 0 rfl) ?_
          refine r_getP3N X hW c2 nw293 dX11_about_51 ?_
          exact e_i X hW h dX11_about_54
        · have h := h.2 s14_2
          have z14 : Int32.toInt a2 < 0 ∨ 2 < Int32.toInt a2 := by
            have := ne_ti s14_0 (a := 0) (by decide)
            have := ne_ti s14_1 (a := 1) (by decide)
            have := ne_ti s14_2 (a := 2) (by decide)
            omega
          refine lv_tableOut (tgt := 55) hx hb dX11_about_14 z14 (by decide) ?_
          refine lv_bipush (v := (-102)) hx hb dX11_about_55 (by decide) ?_
          exact e_i X hW h dX11_about_57
def wX11_comes (g : GS) (a1 : Int32) (a2 : Int32) (I : MI) (J : MJ) (Q : Int32 → MI → MJ → Prop) : Prop :=
  wX11_personAt g a1 I J (fun o2 I2 J2 => (o2 = none → Q ((-101)) I2 J2) ∧ (∀ r2, o2 = some r2 → wX11_within g a2 0 10 I2 J2 (fun r17 I17 J17 => ((¬ r17 = 0 → Q (I17 40 r2 3) (u3 I17 40 r2 (upd (I17 40 r2) 3 a2)) J17) ∧ (r17 = 0 → Q ((-102)) I17 J17)))))
theorem mbX11_comes : MB yX11_comes cX11_comes 5 ((Option.some FieldType.int)) 2 := ⟨tw408, tw1, ⟨by decide, by decide⟩, by decide +kernel, by decide +kernel⟩
set_option maxHeartbeats 4000000 in
set_option maxRecDepth 100000 in
theorem kX11_comes {l : Launch} {E : WE} {a1 : Int32} {a2 : Int32} {I : MI} {J : MJ} {Q : Int32 → MI → MJ → Prop} (h : wX11_comes (wg E) a1 a2 I J Q) : Met l yX11_comes (wsM yX11_comes cX11_comes 5 ((Option.some FieldType.int))) (rmO 1 22) (va_Pc [.ref (wa E 0 0), .int a1, .int a2] (Wp E I J)) (QI E Q) 0 0 (AA E) := by
  refine m_entry mbX11_comes (Nat.le_of_ble_eq_true rfl) ?_
  intro p e s m args below meth c X ls hW hl
  have X : Cx E cX11_comes 5 RX11 ((Option.some FieldType.int)) p s m args c meth := X
  have hx := X.1.1
  have hb := X.1.2.1
  have hl : lv_has ls 5 [(0, .ref (wa E 0 0)), (1, .int a1), (2, .int a2)] := hl
  refine lv_aload_n hx hb dX11_comes_0 rfl (lv_at hl 0 rfl) ?_
  refine lv_iload_n hx hb dX11_comes_1 rfl (lv_at hl 1 rfl) ?_
  refine af_r hW (rn_V X hW (As := [.int a1]) (rest := []) (okS hW sc0_0) rfl rfl (kX11_personAt h) mbX11_personAt tw271 tw273 tp2 rfl hl.1 (Nat.le_of_ble_eq_true rfl) ⟨(Nat.le_of_ble_eq_true rfl), (Nat.le_of_ble_eq_true rfl)⟩ dX11_comes_2) (fun I2 J2 H locs h hW => ?_) (fun r2 I2 J2 H locs c2 h hW => ?_)
  · have h := h.1 rfl
    refine lv_astore_nN (lv' := [(3, .null), (0, .ref (wa E 0 0)), (1, .int a1), (2, .int a2)]) hx hb dX11_comes_5 rfl hl (by decide) rfl (fun ls hl => ?_)
    refine lv_aload_nN hx hb dX11_comes_6 rfl (lv_at hl 0 rfl) ?_
    refine lv_ifnonnullN hx hb dX11_comes_7 ?_
    refine lv_bipush (v := (-101)) hx hb dX11_comes_10 (by decide) ?_
    exact e_i X hW h dX11_comes_12
  · have h := h.2 r2 rfl
    refine lv_astore_n (lv' := [(3, .ref (wa E 40 r2)), (0, .ref (wa E 0 0)), (1, .int a1), (2, .int a2)]) hx hb dX11_comes_5 rfl hl (by decide) rfl (fun ls hl => ?_)
    refine lv_aload_n hx hb dX11_comes_6 rfl (lv_at hl 0 rfl) ?_
    refine lv_ifnonnull (tgt := 13) hx hb dX11_comes_7 (by decide) ?_
    refine lv_iload_n hx hb dX11_comes_13 rfl (lv_at hl 3 rfl) ?_
    refine lv_iconst (v := 0) hx hb dX11_comes_14 (by decide) ?_
    refine lv_bipush (v := 10) hx hb dX11_comes_15 (by decide) ?_
    refine af_i hW (rn_S X hW (As := [.int a2, .int 0, .int 10]) (rest := []) (kX11_within h) mbX11_within tw262 tw207 rfl hl.1 (Nat.le_of_ble_eq_true rfl) ⟨(Nat.le_of_ble_eq_true rfl), (Nat.le_of_ble_eq_true rfl)⟩ dX11_comes_17) (fun r17 I17 J17 H locs h hW => ?_)
    refine lv_if_ne (tgt := 26) hx hb dX11_comes_20 (by decide) (fun c20 => ?_) (fun c20 => ?_)
    · have h := h.1 c20
      refine lv_aload_n hx hb dX11_comes_26 rfl (lv_at hl 0 rfl) ?_
      refine r_getP3N X hW c2 nw293 dX11_comes_27 ?_
      refine lv_istore (lv' := [(4, .int (I17 40 r2 3)), (3, .ref (wa E 40 r2)), (0, .ref (wa E 0 0)), (1, .int a1), (2, .int a2)]) hx hb dX11_comes_30 hl (by decide) rfl (fun ls hl => ?_)
      refine lv_aload_n hx hb dX11_comes_32 rfl (lv_at hl 1 rfl) ?_
      refine lv_iload_n hx hb dX11_comes_33 rfl (lv_at hl 4 rfl) ?_
      refine r_putP3N X hW c2 nw293 dX11_comes_34 (fun H locs hW => ?_)
      refine lv_iload hx hb dX11_comes_37 (lv_at hl 0 rfl) ?_
      exact e_i X hW h dX11_comes_39
    · have h := h.2 c20
      refine lv_bipush (v := (-102)) hx hb dX11_comes_23 (by decide) ?_
      exact e_i X hW h dX11_comes_25
def wX11_candidate (g : GS) (a1 : Int32) (I : MI) (J : MJ) (Q : Int32 → MI → MJ → Prop) : Prop :=
  wX11_personAt g a1 I J (fun o2 I2 J2 => (o2 = none → Q ((-101)) I2 J2) ∧ (∀ r2, o2 = some r2 → (((I2 0 0 11) < 6 → vp_in (I2 0 0 11) 6 ∧ (∀ I40 : MI, I40 = u3 (u3 I2 5 0 (upd (I2 5 0) (Int32.toNatClampNeg (I2 0 0 11)) a1)) 0 0 (upd ((u3 I2 5 0 (upd (I2 5 0) (Int32.toNatClampNeg (I2 0 0 11)) a1)) 0 0) 11 (((u3 I2 5 0 (upd (I2 5 0) (Int32.toNatClampNeg (I2 0 0 11)) a1)) 0 0 11) + 1)) → Q ((I40 0 0 11) - 1) I40 J2)) ∧ (¬ (I2 0 0 11) < 6 → Q ((-104)) I2 J2))))
theorem mbX11_candidate : MB yX11_candidate cX11_candidate 2 ((Option.some FieldType.int)) 1 := ⟨tw412, tw1, ⟨by decide, by decide⟩, by decide +kernel, by decide +kernel⟩
set_option maxHeartbeats 4000000 in
set_option maxRecDepth 100000 in
theorem kX11_candidate {l : Launch} {E : WE} {a1 : Int32} {I : MI} {J : MJ} {Q : Int32 → MI → MJ → Prop} (h : wX11_candidate (wg E) a1 I J Q) : Met l yX11_candidate (wsM yX11_candidate cX11_candidate 2 ((Option.some FieldType.int))) (rmO 1 21) (va_Pc [.ref (wa E 0 0), .int a1] (Wp E I J)) (QI E Q) 0 0 (AA E) := by
  refine m_entry mbX11_candidate (Nat.le_of_ble_eq_true rfl) ?_
  intro p e s m args below meth c X ls hW hl
  have X : Cx E cX11_candidate 2 RX11 ((Option.some FieldType.int)) p s m args c meth := X
  have hx := X.1.1
  have hb := X.1.2.1
  have hl : lv_has ls 2 [(0, .ref (wa E 0 0)), (1, .int a1)] := hl
  refine lv_aload_n hx hb dX11_candidate_0 rfl (lv_at hl 0 rfl) ?_
  refine lv_iload_n hx hb dX11_candidate_1 rfl (lv_at hl 1 rfl) ?_
  refine af_r hW (rn_V X hW (As := [.int a1]) (rest := []) (okS hW sc0_0) rfl rfl (kX11_personAt h) mbX11_personAt tw271 tw273 tp2 rfl hl.1 (Nat.le_of_ble_eq_true rfl) ⟨(Nat.le_of_ble_eq_true rfl), (Nat.le_of_ble_eq_true rfl)⟩ dX11_candidate_2) (fun I2 J2 H locs h hW => ?_) (fun r2 I2 J2 H locs c2 h hW => ?_)
  · have h := h.1 rfl
    refine lv_ifnonnullN hx hb dX11_candidate_5 ?_
    refine lv_bipush (v := (-101)) hx hb dX11_candidate_8 (by decide) ?_
    exact e_i X hW h dX11_candidate_10
  · have h := h.2 r2 rfl
    refine lv_ifnonnull (tgt := 11) hx hb dX11_candidate_5 (by decide) ?_
    refine lv_aload_n hx hb dX11_candidate_11 rfl (lv_at hl 0 rfl) ?_
    refine r_get X hW 11 (okS hW sc0_0) rfl rfl inX11 (Nat.le_of_ble_eq_true rfl) tw143 rfl dX11_candidate_12 ?_
    refine lv_bipush (v := 6) hx hb dX11_candidate_15 (by decide) ?_
    refine lv_icmp_lt (tgt := 23) hx hb dX11_candidate_17 (by decide) (fun c17 => ?_) (fun c17 => ?_)
    · have h := h.1 c17
      refine lv_aload_n hx hb dX11_candidate_23 rfl (lv_at hl 0 rfl) ?_
      refine r_get X hW 3 (okS hW sc0_0) rfl rfl inX11 (Nat.le_of_ble_eq_true rfl) tw135 rfl dX11_candidate_24 ?_
      refine lv_aload_n hx hb dX11_candidate_27 rfl (lv_at hl 0 rfl) ?_
      refine r_get X hW 11 (okS hW sc0_0) rfl rfl inX11 (Nat.le_of_ble_eq_true rfl) tw143 rfl dX11_candidate_28 ?_
      refine lv_iload_n hx hb dX11_candidate_31 rfl (lv_at hl 1 rfl) ?_
      refine r_iast X hW (okS hW sc5_0) (fun _ => rfl) h.1 dX11_candidate_32 (fun H locs hW => ?_)
      have h := h.2
      refine lv_aload_n hx hb dX11_candidate_33 rfl (lv_at hl 0 rfl) ?_
      refine lv_dup hx hb dX11_candidate_34 rfl ?_
      refine r_get X hW 11 (okS hW sc0_0) rfl rfl inX11 (Nat.le_of_ble_eq_true rfl) tw143 rfl dX11_candidate_35 ?_
      refine lv_iconst (v := 1) hx hb dX11_candidate_38 (by decide) ?_
      refine lv_iadd hx hb dX11_candidate_39 ?_
      refine r_putI X hW 11 (okS hW sc0_0) rfl rfl inX11 tyX11 tyX11_ok nmX11 (Nat.le_of_ble_eq_true rfl) tw143 rfl rfl rfl rfl (Nat.le_of_ble_eq_true rfl) rfl dX11_candidate_40 (fun H locs hW => ?_)
      obtain ⟨I40, eI40⟩ : ∃ z : MI, z = u3 (u3 I2 5 0 (upd (I2 5 0) (Int32.toNatClampNeg (I2 0 0 11)) a1)) 0 0 (upd ((u3 I2 5 0 (upd (I2 5 0) (Int32.toNatClampNeg (I2 0 0 11)) a1)) 0 0) 11 (((u3 I2 5 0 (upd (I2 5 0) (Int32.toNatClampNeg (I2 0 0 11)) a1)) 0 0 11) + 1)) := ⟨_, rfl⟩
      rw [← eI40] at hW
      have h := h I40 eI40
      refine lv_aload_n hx hb dX11_candidate_43 rfl (lv_at hl 0 rfl) ?_
      refine r_get X hW 11 (okS hW sc0_0) rfl rfl inX11 (Nat.le_of_ble_eq_true rfl) tw143 rfl dX11_candidate_44 ?_
      refine lv_iconst (v := 1) hx hb dX11_candidate_47 (by decide) ?_
      refine lv_isub hx hb dX11_candidate_48 ?_
      exact e_i X hW h dX11_candidate_49
    · have h := h.2 c17
      refine lv_bipush (v := (-104)) hx hb dX11_candidate_20 (by decide) ?_
      exact e_i X hW h dX11_candidate_22
def wX11_isCandidate (g : GS) (a1 : Int32) (I : MI) (J : MJ) (Q : Int32 → MI → MJ → Prop) : Prop :=
  ((a1 < 0 → Q 0 I J) ∧ (¬ a1 < 0 → (((I 0 0 11) ≤ a1 → Q 0 I J) ∧ (¬ (I 0 0 11) ≤ a1 → Q 1 I J))))
theorem mbX11_isCandidate : MB yX11_isCandidate cX11_isCandidate 2 ((Option.some FieldType.boolean)) 1 := ⟨tw420, tw1, ⟨by decide, by decide⟩, by decide +kernel, by decide +kernel⟩
set_option maxHeartbeats 4000000 in
set_option maxRecDepth 100000 in
theorem kX11_isCandidate {l : Launch} {E : WE} {a1 : Int32} {I : MI} {J : MJ} {Q : Int32 → MI → MJ → Prop} (h : wX11_isCandidate (wg E) a1 I J Q) : Met l yX11_isCandidate (wsM yX11_isCandidate cX11_isCandidate 2 ((Option.some FieldType.boolean))) (rmO 0 0) (va_Pc [.ref (wa E 0 0), .int a1] (Wp E I J)) (QI E Q) 0 0 (AA E) := by
  refine m_entry mbX11_isCandidate (Nat.le_of_ble_eq_true rfl) ?_
  intro p e s m args below meth c X ls hW hl
  have X : Cx E cX11_isCandidate 2 RX11 ((Option.some FieldType.boolean)) p s m args c meth := X
  have hx := X.1.1
  have hb := X.1.2.1
  have hl : lv_has ls 2 [(0, .ref (wa E 0 0)), (1, .int a1)] := hl
  refine lv_iload_n hx hb dX11_isCandidate_0 rfl (lv_at hl 1 rfl) ?_
  refine lv_if_lt (tgt := 16) hx hb dX11_isCandidate_1 (by decide) (fun c1 => ?_) (fun c1 => ?_)
  · have h := h.1 c1
    refine lv_iconst (v := 0) hx hb dX11_isCandidate_16 (by decide) ?_
    exact e_z X hW rfl h dX11_isCandidate_17
  · have h := h.2 c1
    refine lv_iload_n hx hb dX11_isCandidate_4 rfl (lv_at hl 1 rfl) ?_
    refine lv_aload_n hx hb dX11_isCandidate_5 rfl (lv_at hl 0 rfl) ?_
    refine r_get X hW 11 (okS hW sc0_0) rfl rfl inX11 (Nat.le_of_ble_eq_true rfl) tw143 rfl dX11_isCandidate_6 ?_
    refine lv_icmp_ge (tgt := 16) hx hb dX11_isCandidate_9 (by decide) (fun c9 => ?_) (fun c9 => ?_)
    · have h := h.1 c9
      refine lv_iconst (v := 0) hx hb dX11_isCandidate_16 (by decide) ?_
      exact e_z X hW rfl h dX11_isCandidate_17
    · have h := h.2 c9
      refine lv_iconst (v := 1) hx hb dX11_isCandidate_12 (by decide) ?_
      refine lv_goto (tgt := 17) hx hb dX11_isCandidate_13 (by decide) ?_
      exact e_z X hW rfl h dX11_isCandidate_17
def wX11_minds (g : GS) (a1 : Int32) (a2 : Int32) (a3 : Int32) (I : MI) (J : MJ) (Q : Int32 → MI → MJ → Prop) : Prop :=
  wX11_personAt g a1 I J (fun o2 I2 J2 => (o2 = none → Q ((-101)) I2 J2) ∧ (∀ r2, o2 = some r2 → wX11_isCandidate g a2 I2 J2 (fun r14 I14 J14 => ((¬ r14 = 0 → wX11_within g a3 ((-1)) 10 I14 J14 (fun r27 I27 J27 => ((¬ r27 = 0 → wX5_mindsOf g r2 a2 I27 J27 (fun r39 I39 J39 => ((a3 = ((-1)) → Q r39 I39 J39) ∧ (¬ a3 = ((-1)) → wX5_mindFrom g r2 a2 a3 I39 J39 (fun I53 J53 => Q r39 I53 J53))))) ∧ (r27 = 0 → Q ((-102)) I27 J27)))) ∧ (r14 = 0 → Q ((-101)) I14 J14)))))
theorem mbX11_minds : MB yX11_minds cX11_minds 6 ((Option.some FieldType.int)) 3 := ⟨tw416, tw1, ⟨by decide, by decide⟩, by decide +kernel, by decide +kernel⟩
set_option maxHeartbeats 4000000 in
set_option maxRecDepth 100000 in
theorem kX11_minds {l : Launch} {E : WE} {a1 : Int32} {a2 : Int32} {a3 : Int32} {I : MI} {J : MJ} {Q : Int32 → MI → MJ → Prop} (h : wX11_minds (wg E) a1 a2 a3 I J Q) : Met l yX11_minds (wsM yX11_minds cX11_minds 6 ((Option.some FieldType.int))) (rmO 1 22) (va_Pc [.ref (wa E 0 0), .int a1, .int a2, .int a3] (Wp E I J)) (QI E Q) 0 0 (AA E) := by
  refine m_entry mbX11_minds (Nat.le_of_ble_eq_true rfl) ?_
  intro p e s m args below meth c X ls hW hl
  have X : Cx E cX11_minds 6 RX11 ((Option.some FieldType.int)) p s m args c meth := X
  have hx := X.1.1
  have hb := X.1.2.1
  have hl : lv_has ls 6 [(0, .ref (wa E 0 0)), (1, .int a1), (2, .int a2), (3, .int a3)] := hl
  refine lv_aload_n hx hb dX11_minds_0 rfl (lv_at hl 0 rfl) ?_
  refine lv_iload_n hx hb dX11_minds_1 rfl (lv_at hl 1 rfl) ?_
  refine af_r hW (rn_V X hW (As := [.int a1]) (rest := []) (okS hW sc0_0) rfl rfl (kX11_personAt h) mbX11_personAt tw271 tw273 tp2 rfl hl.1 (Nat.le_of_ble_eq_true rfl) ⟨(Nat.le_of_ble_eq_true rfl), (Nat.le_of_ble_eq_true rfl)⟩ dX11_minds_2) (fun I2 J2 H locs h hW => ?_) (fun r2 I2 J2 H locs c2 h hW => ?_)
  · have h := h.1 rfl
    refine lv_astoreN (lv' := [(4, .null), (0, .ref (wa E 0 0)), (1, .int a1), (2, .int a2), (3, .int a3)]) hx hb dX11_minds_5 hl (by decide) rfl (fun ls hl => ?_)
    refine lv_aloadN hx hb dX11_minds_7 (lv_at hl 0 rfl) ?_
    refine lv_ifnullN (tgt := 20) hx hb dX11_minds_9 (by decide) ?_
    refine lv_bipush (v := (-101)) hx hb dX11_minds_20 (by decide) ?_
    exact e_i X hW h dX11_minds_22
  · have h := h.2 r2 rfl
    refine lv_astore (lv' := [(4, .ref (wa E 40 r2)), (0, .ref (wa E 0 0)), (1, .int a1), (2, .int a2), (3, .int a3)]) hx hb dX11_minds_5 hl (by decide) rfl (fun ls hl => ?_)
    refine lv_aload hx hb dX11_minds_7 (lv_at hl 0 rfl) ?_
    refine lv_ifnull hx hb dX11_minds_9 ?_
    refine lv_aload_n hx hb dX11_minds_12 rfl (lv_at hl 1 rfl) ?_
    refine lv_iload_n hx hb dX11_minds_13 rfl (lv_at hl 3 rfl) ?_
    refine af_i hW (rn_V X hW (As := [.int a2]) (rest := []) (okS hW sc0_0) rfl rfl (kX11_isCandidate h) mbX11_isCandidate tw417 tw419 tp4 rfl hl.1 (Nat.le_of_ble_eq_true rfl) ⟨(Nat.le_of_ble_eq_true rfl), (Nat.le_of_ble_eq_true rfl)⟩ dX11_minds_14) (fun r14 I14 J14 H locs h hW => ?_)
    refine lv_if_ne (tgt := 23) hx hb dX11_minds_17 (by decide) (fun c17 => ?_) (fun c17 => ?_)
    · have h := h.1 c17
      refine lv_iload_n hx hb dX11_minds_23 rfl (lv_at hl 4 rfl) ?_
      refine lv_iconst (v := (-1)) hx hb dX11_minds_24 (by decide) ?_
      refine lv_bipush (v := 10) hx hb dX11_minds_25 (by decide) ?_
      refine af_i hW (rn_S X hW (As := [.int a3, .int ((-1)), .int 10]) (rest := []) (kX11_within h) mbX11_within tw262 tw207 rfl hl.1 (Nat.le_of_ble_eq_true rfl) ⟨(Nat.le_of_ble_eq_true rfl), (Nat.le_of_ble_eq_true rfl)⟩ dX11_minds_27) (fun r27 I27 J27 H locs h hW => ?_)
      refine lv_if_ne (tgt := 36) hx hb dX11_minds_30 (by decide) (fun c30 => ?_) (fun c30 => ?_)
      · have h := h.1 c30
        refine lv_aload hx hb dX11_minds_36 (lv_at hl 0 rfl) ?_
        refine lv_iload_n hx hb dX11_minds_38 rfl (lv_at hl 3 rfl) ?_
        refine af_i hW (rn_P X hW (As := [.int a2]) (rest := []) c2 (kX5_mindsOf c2 h) mbX5_mindsOf tw421 tw422 tw425 tw426 tw427 tw428 tw423 rfl hl.1 (Nat.le_of_ble_eq_true rfl) ⟨(Nat.le_of_ble_eq_true rfl), (Nat.le_of_ble_eq_true rfl)⟩ dX11_minds_39) (fun r39 I39 J39 H locs h hW => ?_)
        refine lv_istore (lv' := [(5, .int r39), (4, .ref (wa E 40 r2)), (0, .ref (wa E 0 0)), (1, .int a1), (2, .int a2), (3, .int a3)]) hx hb dX11_minds_42 hl (by decide) rfl (fun ls hl => ?_)
        refine lv_iload_n hx hb dX11_minds_44 rfl (lv_at hl 5 rfl) ?_
        refine lv_iconst (v := (-1)) hx hb dX11_minds_45 (by decide) ?_
        refine lv_icmp_eq (tgt := 56) hx hb dX11_minds_46 (by decide) (fun c46 => ?_) (fun c46 => ?_)
        · have h := h.1 c46
          refine lv_iload hx hb dX11_minds_56 (lv_at hl 0 rfl) ?_
          exact e_i X hW h dX11_minds_58
        · have h := h.2 c46
          refine lv_aload hx hb dX11_minds_49 (lv_at hl 1 rfl) ?_
          refine lv_iload_n hx hb dX11_minds_51 rfl (lv_at hl 4 rfl) ?_
          refine lv_iload_n hx hb dX11_minds_52 rfl (lv_at hl 5 rfl) ?_
          refine af_v hW (rn_P X hW (As := [.int a2, .int a3]) (rest := []) c2 (kX5_mindFrom c2 h) mbX5_mindFrom tw430 tw431 tw434 tw435 tw436 tw437 tw432 rfl hl.1 (Nat.le_of_ble_eq_true rfl) ⟨(Nat.le_of_ble_eq_true rfl), (Nat.le_of_ble_eq_true rfl)⟩ dX11_minds_53) (fun I53 J53 H locs h hW => ?_)
          refine lv_iload hx hb dX11_minds_56 (lv_at hl 0 rfl) ?_
          exact e_i X hW h dX11_minds_58
      · have h := h.2 c30
        refine lv_bipush (v := (-102)) hx hb dX11_minds_33 (by decide) ?_
        exact e_i X hW h dX11_minds_35
    · have h := h.2 c17
      refine lv_bipush (v := (-101)) hx hb dX11_minds_20 (by decide) ?_
      exact e_i X hW h dX11_minds_22
def wX11_friendOf (g : GS) (a1 : Int32) (I : MI) (J : MJ) (Q : Int32 → MI → MJ → Prop) : Prop :=
  wX11_isCandidate g a1 I J (fun r2 I2 J2 => ((r2 = 0 → Q ((-1)) I2 J2) ∧ (¬ r2 = 0 → vp_in a1 6 ∧ (Q (I2 5 0 (Int32.toNatClampNeg a1)) I2 J2))))
theorem mbX11_friendOf : MB yX11_friendOf cX11_friendOf 2 ((Option.some FieldType.int)) 1 := ⟨tw446, tw1, ⟨by decide, by decide⟩, by decide +kernel, by decide +kernel⟩
set_option maxHeartbeats 4000000 in
set_option maxRecDepth 100000 in
theorem kX11_friendOf {l : Launch} {E : WE} {a1 : Int32} {I : MI} {J : MJ} {Q : Int32 → MI → MJ → Prop} (h : wX11_friendOf (wg E) a1 I J Q) : Met l yX11_friendOf (wsM yX11_friendOf cX11_friendOf 2 ((Option.some FieldType.int))) (rmO 1 21) (va_Pc [.ref (wa E 0 0), .int a1] (Wp E I J)) (QI E Q) 0 0 (AA E) := by
  refine m_entry mbX11_friendOf (Nat.le_of_ble_eq_true rfl) ?_
  intro p e s m args below meth c X ls hW hl
  have X : Cx E cX11_friendOf 2 RX11 ((Option.some FieldType.int)) p s m args c meth := X
  have hx := X.1.1
  have hb := X.1.2.1
  have hl : lv_has ls 2 [(0, .ref (wa E 0 0)), (1, .int a1)] := hl
  refine lv_aload_n hx hb dX11_friendOf_0 rfl (lv_at hl 0 rfl) ?_
  refine lv_iload_n hx hb dX11_friendOf_1 rfl (lv_at hl 1 rfl) ?_
  refine af_i hW (rn_V X hW (As := [.int a1]) (rest := []) (okS hW sc0_0) rfl rfl (kX11_isCandidate h) mbX11_isCandidate tw417 tw419 tp4 rfl hl.1 (Nat.le_of_ble_eq_true rfl) ⟨(Nat.le_of_ble_eq_true rfl), (Nat.le_of_ble_eq_true rfl)⟩ dX11_friendOf_2) (fun r2 I2 J2 H locs h hW => ?_)
  refine lv_if_eq (tgt := 17) hx hb dX11_friendOf_5 (by decide) (fun c5 => ?_) (fun c5 => ?_)
  · have h := h.1 c5
    refine lv_iconst (v := (-1)) hx hb dX11_friendOf_17 (by decide) ?_
    exact e_i X hW h dX11_friendOf_18
  · have h := h.2 c5
    refine lv_aload_n hx hb dX11_friendOf_8 rfl (lv_at hl 0 rfl) ?_
    refine r_get X hW 3 (okS hW sc0_0) rfl rfl inX11 (Nat.le_of_ble_eq_true rfl) tw135 rfl dX11_friendOf_9 ?_
    refine lv_iload_n hx hb dX11_friendOf_12 rfl (lv_at hl 1 rfl) ?_
    refine r_iald X hW (okS hW sc5_0) rfl h.1 dX11_friendOf_13 ?_
    have h := h.2
    refine lv_goto (tgt := 18) hx hb dX11_friendOf_14 (by decide) ?_
    exact e_i X hW h dX11_friendOf_18
