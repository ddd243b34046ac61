def wX11_howManyMinded_b23 (g : GS) (ko4 : Int32 → Int32 → MI → MJ → Prop) (Q : Int32 → MI → MJ → Prop) (v1 : Int32) (v2 : Int32) (I : MI) (J : MJ) : Prop :=
  ko4 v1 (v2 + 1) I J
set_option maxHeartbeats 4000000 in
set_option maxRecDepth 100000 in
theorem bX11_howManyMinded_23 {p : Program} {l : Launch} {e : Env} {s : State} {m : MethodId} {args : Array Value} {below : List Frame} {meth : Method} {c : Code} {E : WE} {Q : Int32 → MI → MJ → Prop} {ko4 : Int32 → Int32 → MI → MJ → Prop} (X : Cx E cX11_howManyMinded 3 RX11 ((Option.some FieldType.int)) p s m args c meth)
    (hk4 : ∀ (v1 : Int32) (v2 : Int32) (I : MI) (J : MJ) (H : Heap) (locs : List Loc) (ls : Array Slot), ko4 v1 v2 I J → Wd E I J s H locs → lv_has ls 3 [(0, .ref (wa E 0 0)), (1, .int v1), (2, .int v2)] → W p l e (rmO 4 86) s m args below meth c H locs 0 0 (MQ below (QI E Q) args s 0 0 (AA E)) (F0 m 4 ls [])) : ∀ (v1 : Int32) (v2 : Int32) (I : MI) (J : MJ) (H : Heap) (locs : List Loc) (ls : Array Slot), wX11_howManyMinded_b23 (wg E) ko4 Q v1 v2 I J → Wd E I J s H locs → lv_has ls 3 [(0, .ref (wa E 0 0)), (1, .int v1), (2, .int v2)] → W p l e (rmO 4 86) s m args below meth c H locs 0 0 (MQ below (QI E Q) args s 0 0 (AA E)) (F0 m 23 ls []) := by
  have hx := X.1.1
  have hb := X.1.2.1
  intro v1 v2 I J H locs ls h hW hl
  refine lv_iinc (v := v2 + 1) (lv' := [(2, .int (v2 + 1)), (0, .ref (wa E 0 0)), (1, .int v1)]) hx hb dX11_howManyMinded_23 hl (k := 2) rfl rfl (by decide) rfl (fun ls hl => ?_)
  refine lv_goto (tgt := 4) hx hb dX11_howManyMinded_26 (by decide) ?_
  exact hk4 v1 (v2 + 1) _ _ _ _ _  h hW (lv_sub hl [1, 2, 0] rfl)
def wX11_howManyMinded_b4 (g : GS) (Q : Int32 → MI → MJ → Prop) : Nat → Int32 → Int32 → MI → MJ → Prop
  | 0, _, _, _, _ => False
  | n + 1, v1, v2, I, J => (((I 0 0 11) ≤ v2 → Q v1 I J) ∧ (¬ (I 0 0 11) ≤ v2 → wX11_isMinded g v2 I J (fun r14 I14 J14 => ((r14 = 0 → wX11_howManyMinded_b23 g (fun v1 v2 I J => wX11_howManyMinded_b4 g Q n v1 v2 I J) Q v1 v2 I14 J14) ∧ (¬ r14 = 0 → wX11_howManyMinded_b23 g (fun v1 v2 I J => wX11_howManyMinded_b4 g Q n v1 v2 I J) Q (v1 + 1) v2 I14 J14)))))
set_option maxHeartbeats 4000000 in
set_option maxRecDepth 100000 in
theorem bX11_howManyMinded_4 {p : Program} {l : Launch} {e : Env} {s : State} {m : MethodId} {args : Array Value} {below : List Frame} {meth : Method} {c : Code} {E : WE} {Q : Int32 → MI → MJ → Prop} (X : Cx E cX11_howManyMinded 3 RX11 ((Option.some FieldType.int)) p s m args c meth) (n : Nat) : ∀ (v1 : Int32) (v2 : Int32) (I : MI) (J : MJ) (H : Heap) (locs : List Loc) (ls : Array Slot), wX11_howManyMinded_b4 (wg E) Q n v1 v2 I J → Wd E I J s H locs → lv_has ls 3 [(0, .ref (wa E 0 0)), (1, .int v1), (2, .int v2)] → W p l e (rmO 4 86) s m args below meth c H locs 0 0 (MQ below (QI E Q) args s 0 0 (AA E)) (F0 m 4 ls []) := by
  have hx := X.1.1
  have hb := X.1.2.1
  induction n with
  | zero => intro v1 v2 I J H locs ls h hW hl; exact h.elim
  | succ n ih =>
    intro v1 v2 I J H locs ls h hW hl
    refine lv_iload_n hx hb dX11_howManyMinded_4 rfl (lv_at hl 2 rfl) ?_
    refine lv_aload_n hx hb dX11_howManyMinded_5 rfl (lv_at hl 0 rfl) ?_
    refine r_get X hW 11 (okS hW sc0_0) rfl rfl inX11 (Nat.le_of_ble_eq_true rfl) tw143 rfl dX11_howManyMinded_6 ?_
    refine lv_icmp_ge (tgt := 29) hx hb dX11_howManyMinded_9 (by decide) (fun c9 => ?_) (fun c9 => ?_)
    · have h := h.1 c9
      refine lv_iload_n hx hb dX11_howManyMinded_29 rfl (lv_at hl 1 rfl) ?_
      exact e_i X hW h dX11_howManyMinded_30
    · have h := h.2 c9
      refine lv_aload_n hx hb dX11_howManyMinded_12 rfl (lv_at hl 0 rfl) ?_
      refine lv_iload_n hx hb dX11_howManyMinded_13 rfl (lv_at hl 2 rfl) ?_
      refine af_i hW (rn_V X hW (As := [.int v2]) (rest := []) (okS hW sc0_0) rfl rfl (kX11_isMinded h) mbX11_isMinded tw447 tw449 tp6 rfl hl.1 (Nat.le_of_ble_eq_true rfl) ⟨(Nat.le_of_ble_eq_true rfl), (Nat.le_of_ble_eq_true rfl)⟩ dX11_howManyMinded_14) (fun r14 I14 J14 H locs h hW => ?_)
      refine lv_if_eq (tgt := 23) hx hb dX11_howManyMinded_17 (by decide) (fun c17 => ?_) (fun c17 => ?_)
      · have h := h.1 c17
        exact bX11_howManyMinded_23 X ih v1 v2 _ _ _ _ _  h hW (lv_sub hl [0, 1, 2] rfl)
      · have h := h.2 c17
        refine lv_iinc (v := v1 + 1) (lv' := [(1, .int (v1 + 1)), (0, .ref (wa E 0 0)), (2, .int v2)]) hx hb dX11_howManyMinded_20 hl (k := 1) rfl rfl (by decide) rfl (fun ls hl => ?_)
        exact bX11_howManyMinded_23 X ih (v1 + 1) v2 _ _ _ _ _  h hW (lv_sub hl [1, 0, 2] rfl)
def wX11_howManyMinded (g : GS) (I : MI) (J : MJ) (Q : Int32 → MI → MJ → Prop) : Prop :=
  ∃ n4, wX11_howManyMinded_b4 g Q n4 0 0 I J
theorem mbX11_howManyMinded : MB yX11_howManyMinded cX11_howManyMinded 3 ((Option.some FieldType.int)) 0 := ⟨tw760, tw1, ⟨by decide, by decide⟩, by decide +kernel, by decide +kernel⟩
set_option maxHeartbeats 4000000 in
set_option maxRecDepth 100000 in
theorem kX11_howManyMinded {l : Launch} {E : WE} {I : MI} {J : MJ} {Q : Int32 → MI → MJ → Prop} (h : wX11_howManyMinded (wg E) I J Q) : Met l yX11_howManyMinded (wsM yX11_howManyMinded cX11_howManyMinded 3 ((Option.some FieldType.int))) (rmO 4 86) (va_Pc [.ref (wa E 0 0)] (Wp E I J)) (QI E Q) 0 0 (AA E) := by
  refine m_entry mbX11_howManyMinded (Nat.le_of_ble_eq_true rfl) ?_
  intro p e s m args below meth c X ls hW hl
  have X : Cx E cX11_howManyMinded 3 RX11 ((Option.some FieldType.int)) p s m args c meth := X
  have hx := X.1.1
  have hb := X.1.2.1
  have hl : lv_has ls 3 [(0, .ref (wa E 0 0))] := hl
  refine lv_iconst (v := 0) hx hb dX11_howManyMinded_0 (by decide) ?_
  refine lv_istore_n (lv' := [(1, .int 0), (0, .ref (wa E 0 0))]) hx hb dX11_howManyMinded_1 rfl hl (by decide) rfl (fun ls hl => ?_)
  refine lv_iconst (v := 0) hx hb dX11_howManyMinded_2 (by decide) ?_
  refine lv_istore_n (lv' := [(2, .int 0), (1, .int 0), (0, .ref (wa E 0 0))]) hx hb dX11_howManyMinded_3 rfl hl (by decide) rfl (fun ls hl => ?_)
  obtain ⟨n4, h⟩ := h
  exact bX11_howManyMinded_4 X n4 0 0 _ _ _ _ _  h hW (lv_sub hl [2, 1, 0] rfl)
def wX11_lot (g : GS) (a1 : Int32) (a2 : Int32) (I : MI) (J : MJ) (Q : Int32 → MI → MJ → Prop) : Prop :=
  wX11_isCandidate g a1 I J (fun r2 I2 J2 => ((¬ r2 = 0 → wX11_isPart g a2 I2 J2 (fun r12 I12 J12 => ((¬ r12 = 0 → wX11_isMinded g a1 I12 J12 (fun r23 I23 J23 => ((r23 = 0 → ((¬ a2 = 0 → wX11_howManyMinded g I23 J23 (fun r44 I44 J44 => Q ((I23 0 0 11) - r44) I44 J44)) ∧ (a2 = 0 → Q 1 I23 J23))) ∧ (¬ r23 = 0 → Q a2 I23 J23)))) ∧ (r12 = 0 → Q ((-102)) I12 J12)))) ∧ (r2 = 0 → Q ((-101)) I2 J2)))
theorem mbX11_lot : MB yX11_lot cX11_lot 3 ((Option.some FieldType.int)) 2 := ⟨tw756, tw1, ⟨by decide, by decide⟩, by decide +kernel, by decide +kernel⟩
set_option maxHeartbeats 4000000 in
set_option maxRecDepth 100000 in
theorem kX11_lot {l : Launch} {E : WE} {a1 : Int32} {a2 : Int32} {I : MI} {J : MJ} {Q : Int32 → MI → MJ → Prop} (h : wX11_lot (wg E) a1 a2 I J Q) : Met l yX11_lot (wsM yX11_lot cX11_lot 3 ((Option.some FieldType.int))) (rmO 5 108) (va_Pc [.ref (wa E 0 0), .int a1, .int a2] (Wp E I J)) (QI E Q) 0 0 (AA E) := by
  refine m_entry mbX11_lot (Nat.le_of_ble_eq_true rfl) ?_
  intro p e s m args below meth c X ls hW hl
  have X : Cx E cX11_lot 3 RX11 ((Option.some FieldType.int)) p s m args c meth := X
  have hx := X.1.1
  have hb := X.1.2.1
  have hl : lv_has ls 3 [(0, .ref (wa E 0 0)), (1, .int a1), (2, .int a2)] := hl
  refine lv_aload_n hx hb dX11_lot_0 rfl (lv_at hl 0 rfl) ?_
  refine lv_iload_n hx hb dX11_lot_1 rfl (lv_at hl 1 rfl) ?_
  refine af_i hW (rn_V X hW (As := [.int a1]) (rest := []) (okS hW sc0_0) rfl rfl (kX11_isCandidate h) mbX11_isCandidate tw417 tw419 tp4 rfl hl.1 (Nat.le_of_ble_eq_true rfl) ⟨(Nat.le_of_ble_eq_true rfl), (Nat.le_of_ble_eq_true rfl)⟩ dX11_lot_2) (fun r2 I2 J2 H locs h hW => ?_)
  refine lv_if_ne (tgt := 11) hx hb dX11_lot_5 (by decide) (fun c5 => ?_) (fun c5 => ?_)
  · have h := h.1 c5
    refine lv_iload_n hx hb dX11_lot_11 rfl (lv_at hl 2 rfl) ?_
    refine af_i hW (rn_S X hW (As := [.int a2]) (rest := []) (kX11_isPart h) mbX11_isPart tw527 tw528 rfl hl.1 (Nat.le_of_ble_eq_true rfl) ⟨(Nat.le_of_ble_eq_true rfl), (Nat.le_of_ble_eq_true rfl)⟩ dX11_lot_12) (fun r12 I12 J12 H locs h hW => ?_)
    refine lv_if_ne (tgt := 21) hx hb dX11_lot_15 (by decide) (fun c15 => ?_) (fun c15 => ?_)
    · have h := h.1 c15
      refine lv_aload_n hx hb dX11_lot_21 rfl (lv_at hl 0 rfl) ?_
      refine lv_iload_n hx hb dX11_lot_22 rfl (lv_at hl 1 rfl) ?_
      refine af_i hW (rn_V X hW (As := [.int a1]) (rest := []) (okS hW sc0_0) rfl rfl (kX11_isMinded h) mbX11_isMinded tw447 tw449 tp6 rfl hl.1 (Nat.le_of_ble_eq_true rfl) ⟨(Nat.le_of_ble_eq_true rfl), (Nat.le_of_ble_eq_true rfl)⟩ dX11_lot_23) (fun r23 I23 J23 H locs h hW => ?_)
      refine lv_if_eq (tgt := 31) hx hb dX11_lot_26 (by decide) (fun c26 => ?_) (fun c26 => ?_)
      · have h := h.1 c26
        refine lv_iload_n hx hb dX11_lot_31 rfl (lv_at hl 2 rfl) ?_
        refine lv_if_ne (tgt := 39) hx hb dX11_lot_32 (by decide) (fun c32 => ?_) (fun c32 => ?_)
        · have h := h.1 c32
          refine lv_aload_n hx hb dX11_lot_39 rfl (lv_at hl 0 rfl) ?_
          refine r_get X hW 11 (okS hW sc0_0) rfl rfl inX11 (Nat.le_of_ble_eq_true rfl) tw143 rfl dX11_lot_40 ?_
          refine lv_aload_n hx hb dX11_lot_43 rfl (lv_at hl 0 rfl) ?_
          refine af_i hW (rn_V X hW (As := []) (rest := [.int (I23 0 0 11)]) (okS hW sc0_0) rfl rfl (kX11_howManyMinded h) mbX11_howManyMinded tw757 tw759 tp20 rfl hl.1 (Nat.le_of_ble_eq_true rfl) ⟨(Nat.le_of_ble_eq_true rfl), (Nat.le_of_ble_eq_true rfl)⟩ dX11_lot_44) (fun r44 I44 J44 H locs h hW => ?_)
          refine lv_isub hx hb dX11_lot_47 ?_
          exact e_i X hW h dX11_lot_48
        · have h := h.2 c32
          refine lv_iconst (v := 1) hx hb dX11_lot_35 (by decide) ?_
          refine lv_goto (tgt := 48) hx hb dX11_lot_36 (by decide) ?_
          exact e_i X hW h dX11_lot_48
      · have h := h.2 c26
        refine lv_iload_n hx hb dX11_lot_29 rfl (lv_at hl 2 rfl) ?_
        exact e_i X hW h dX11_lot_30
    · have h := h.2 c15
      refine lv_bipush (v := (-102)) hx hb dX11_lot_18 (by decide) ?_
      exact e_i X hW h dX11_lot_20
  · have h := h.2 c5
    refine lv_bipush (v := (-101)) hx hb dX11_lot_8 (by decide) ?_
    exact e_i X hW h dX11_lot_10
def wX11_image_b2 (g : GS) (Q : Int32 → MI → MJ → Prop) : Nat → Int32 → MI → MJ → Prop
  | 0, _, _, _ => False
  | n + 1, v1, I, J => (((I 0 0 10) ≤ v1 → Q ((u3 I 0 0 (upd (I 0 0) 12 1)) 0 0 10) (u3 I 0 0 (upd (I 0 0) 12 1)) J) ∧ (¬ (I 0 0 10) ≤ v1 → vp_in v1 8 ∧ ((¬ (Int32.toNatClampNeg v1) < g.2.1 → False) ∧ ((Int32.toNatClampNeg v1) < g.2.1 → wX5_keep g ((Int32.toNatClampNeg v1)) (I 0 0 11) I J (fun I20 J20 => wX11_image_b2 g Q n (v1 + 1) I20 J20)))))
set_option maxHeartbeats 4000000 in
set_option maxRecDepth 100000 in
theorem bX11_image_2 {p : Program} {l : Launch} {e : Env} {s : State} {m : MethodId} {args : Array Value} {below : List Frame} {meth : Method} {c : Code} {E : WE} {Q : Int32 → MI → MJ → Prop} (X : Cx E cX11_image 2 RX11 ((Option.some FieldType.int)) p s m args c meth) (n : Nat) : ∀ (v1 : Int32) (I : MI) (J : MJ) (H : Heap) (locs : List Loc) (ls : Array Slot), wX11_image_b2 (wg E) Q n v1 I J → Wd E I J s H locs → lv_has ls 2 [(0, .ref (wa E 0 0)), (1, .int v1)] → W p l e (rmO 2 61) s m args below meth c H locs 0 0 (MQ below (QI E Q) args s 0 0 (AA E)) (F0 m 2 ls []) := by
  have hx := X.1.1
  have hb := X.1.2.1
  induction n with
  | zero => intro v1 I J H locs ls h hW hl; exact h.elim
  | succ n ih =>
    intro v1 I J H locs ls h hW hl
    refine lv_iload_n hx hb dX11_image_2 rfl (lv_at hl 1 rfl) ?_
    refine lv_aload_n hx hb dX11_image_3 rfl (lv_at hl 0 rfl) ?_
    refine r_get X hW 10 (okS hW sc0_0) rfl rfl inX11 (Nat.le_of_ble_eq_true rfl) tw142 rfl dX11_image_4 ?_
    refine lv_icmp_ge (tgt := 29) hx hb dX11_image_7 (by decide) (fun c7 => ?_) (fun c7 => ?_)
    · have h := h.1 c7
      refine lv_aload_n hx hb dX11_image_29 rfl (lv_at hl 0 rfl) ?_
      refine lv_iconst (v := 1) hx hb dX11_image_30 (by decide) ?_
      refine r_putI X hW 12 (okS hW sc0_0) rfl rfl inX11 tyX11 tyX11_ok nmX11 (Nat.le_of_ble_eq_true rfl) tw144 rfl rfl rfl rfl (Nat.le_of_ble_eq_true rfl) rfl dX11_image_31 (fun H locs hW => ?_)
      refine lv_aload_n hx hb dX11_image_34 rfl (lv_at hl 0 rfl) ?_
      refine r_get X hW 10 (okS hW sc0_0) rfl rfl inX11 (Nat.le_of_ble_eq_true rfl) tw142 rfl dX11_image_35 ?_
      exact e_i X hW h dX11_image_38
    · have h := h.2 c7
      refine lv_aload_n hx hb dX11_image_10 rfl (lv_at hl 0 rfl) ?_
      refine r_get X hW 2 (okS hW sc0_0) rfl rfl inX11 (Nat.le_of_ble_eq_true rfl) tw134 rfl dX11_image_11 ?_
      refine lv_iload_n hx hb dX11_image_14 rfl (lv_at hl 1 rfl) ?_
      refine r_aaP X hW h.1 dX11_image_15 (fun c15 => ?_) (fun c15 => ?_)
      · have h := h.2.1 c15
        refine lv_aload_n hx hb dX11_image_16 rfl (lv_at hl 0 rfl) ?_
        refine r_get X hW 11 (okS hW sc0_0) rfl rfl inX11 (Nat.le_of_ble_eq_true rfl) tw143 rfl dX11_image_17 ?_
        exact h.elim
      · have h := h.2.2 c15
        refine lv_aload_n hx hb dX11_image_16 rfl (lv_at hl 0 rfl) ?_
        refine r_get X hW 11 (okS hW sc0_0) rfl rfl inX11 (Nat.le_of_ble_eq_true rfl) tw143 rfl dX11_image_17 ?_
        refine af_v hW (rn_P X hW (As := [.int (I 0 0 11)]) (rest := []) c15 (kX5_keep c15 h) mbX5_keep tw765 tw766 tw769 tw770 tw771 tw772 tw767 rfl hl.1 (Nat.le_of_ble_eq_true rfl) ⟨(Nat.le_of_ble_eq_true rfl), (Nat.le_of_ble_eq_true rfl)⟩ dX11_image_20) (fun I20 J20 H locs h hW => ?_)
        refine lv_iinc (v := v1 + 1) (lv' := [(1, .int (v1 + 1)), (0, .ref (wa E 0 0))]) hx hb dX11_image_23 hl (k := 1) rfl rfl (by decide) rfl (fun ls hl => ?_)
        refine lv_goto (tgt := 2) hx hb dX11_image_26 (by decide) ?_
        exact ih (v1 + 1) _ _ _ _ _  h hW (lv_sub hl [1, 0] rfl)
def wX11_image (g : GS) (I : MI) (J : MJ) (Q : Int32 → MI → MJ → Prop) : Prop :=
  ∃ n2, wX11_image_b2 g Q n2 0 I J
theorem mbX11_image : MB yX11_image cX11_image 2 ((Option.some FieldType.int)) 0 := ⟨tw764, tw1, ⟨by decide, by decide⟩, by decide +kernel, by decide +kernel⟩
set_option maxHeartbeats 4000000 in
set_option maxRecDepth 100000 in
theorem kX11_image {l : Launch} {E : WE} {I : MI} {J : MJ} {Q : Int32 → MI → MJ → Prop} (h : wX11_image (wg E) I J Q) : Met l yX11_image (wsM yX11_image cX11_image 2 ((Option.some FieldType.int))) (rmO 2 61) (va_Pc [.ref (wa E 0 0)] (Wp E I J)) (QI E Q) 0 0 (AA E) := by
  refine m_entry mbX11_image (Nat.le_of_ble_eq_true rfl) ?_
  intro p e s m args below meth c X ls hW hl
  have X : Cx E cX11_image 2 RX11 ((Option.some FieldType.int)) p s m args c meth := X
  have hx := X.1.1
  have hb := X.1.2.1
  have hl : lv_has ls 2 [(0, .ref (wa E 0 0))] := hl
  refine lv_iconst (v := 0) hx hb dX11_image_0 (by decide) ?_
  refine lv_istore_n (lv' := [(1, .int 0), (0, .ref (wa E 0 0))]) hx hb dX11_image_1 rfl hl (by decide) rfl (fun ls hl => ?_)
  obtain ⟨n2, h⟩ := h
  exact bX11_image_2 X n2 0 _ _ _ _ _  h hW (lv_sub hl [1, 0] rfl)
def wX11_restore_b12 (g : GS) (Q : Int32 → MI → MJ → Prop) : Nat → Int32 → MI → MJ → Prop
  | 0, _, _, _ => False
  | n + 1, v1, I, J => (((I 0 0 10) ≤ v1 → Q (I 0 0 10) I J) ∧ (¬ (I 0 0 10) ≤ v1 → vp_in v1 8 ∧ ((¬ (Int32.toNatClampNeg v1) < g.2.1 → False) ∧ ((Int32.toNatClampNeg v1) < g.2.1 → wX5_takeBack g ((Int32.toNatClampNeg v1)) I J (fun I26 J26 => wX11_restore_b12 g Q n (v1 + 1) I26 J26)))))
set_option maxHeartbeats 4000000 in
set_option maxRecDepth 100000 in
theorem bX11_restore_12 {p : Program} {l : Launch} {e : Env} {s : State} {m : MethodId} {args : Array Value} {below : List Frame} {meth : Method} {c : Code} {E : WE} {Q : Int32 → MI → MJ → Prop} (X : Cx E cX11_restore 2 RX11 ((Option.some FieldType.int)) p s m args c meth) (n : Nat) : ∀ (v1 : Int32) (I : MI) (J : MJ) (H : Heap) (locs : List Loc) (ls : Array Slot), wX11_restore_b12 (wg E) Q n v1 I J → Wd E I J s H locs → lv_has ls 2 [(0, .ref (wa E 0 0)), (1, .int v1)] → W p l e (rmO 2 60) s m args below meth c H locs 0 0 (MQ below (QI E Q) args s 0 0 (AA E)) (F0 m 12 ls []) := by
  have hx := X.1.1
  have hb := X.1.2.1
  induction n with
  | zero => intro v1 I J H locs ls h hW hl; exact h.elim
  | succ n ih =>
    intro v1 I J H locs ls h hW hl
    refine lv_iload_n hx hb dX11_restore_12 rfl (lv_at hl 1 rfl) ?_
    refine lv_aload_n hx hb dX11_restore_13 rfl (lv_at hl 0 rfl) ?_
    refine r_get X hW 10 (okS hW sc0_0) rfl rfl inX11 (Nat.le_of_ble_eq_true rfl) tw142 rfl dX11_restore_14 ?_
    refine lv_icmp_ge (tgt := 35) hx hb dX11_restore_17 (by decide) (fun c17 => ?_) (fun c17 => ?_)
    · have h := h.1 c17
      refine lv_aload_n hx hb dX11_restore_35 rfl (lv_at hl 0 rfl) ?_
      refine r_get X hW 10 (okS hW sc0_0) rfl rfl inX11 (Nat.le_of_ble_eq_true rfl) tw142 rfl dX11_restore_36 ?_
      exact e_i X hW h dX11_restore_39
    · have h := h.2 c17
      refine lv_aload_n hx hb dX11_restore_20 rfl (lv_at hl 0 rfl) ?_
      refine r_get X hW 2 (okS hW sc0_0) rfl rfl inX11 (Nat.le_of_ble_eq_true rfl) tw134 rfl dX11_restore_21 ?_
      refine lv_iload_n hx hb dX11_restore_24 rfl (lv_at hl 1 rfl) ?_
      refine r_aaP X hW h.1 dX11_restore_25 (fun c25 => ?_) (fun c25 => ?_)
      · have h := h.2.1 c25
        exact h.elim
      · have h := h.2.2 c25
        refine af_v hW (rn_P X hW (As := []) (rest := []) c25 (kX5_takeBack c25 h) mbX5_takeBack tw782 tw783 tw786 tw787 tw788 tw789 tw784 rfl hl.1 (Nat.le_of_ble_eq_true rfl) ⟨(Nat.le_of_ble_eq_true rfl), (Nat.le_of_ble_eq_true rfl)⟩ dX11_restore_26) (fun I26 J26 H locs h hW => ?_)
        refine lv_iinc (v := v1 + 1) (lv' := [(1, .int (v1 + 1)), (0, .ref (wa E 0 0))]) hx hb dX11_restore_29 hl (k := 1) rfl rfl (by decide) rfl (fun ls hl => ?_)
        refine lv_goto (tgt := 12) hx hb dX11_restore_32 (by decide) ?_
        exact ih (v1 + 1) _ _ _ _ _  h hW (lv_sub hl [1, 0] rfl)
def wX11_restore (g : GS) (I : MI) (J : MJ) (Q : Int32 → MI → MJ → Prop) : Prop :=
  ((¬ (I 0 0 12) = 0 → ∃ n12, wX11_restore_b12 g Q n12 0 I J) ∧ ((I 0 0 12) = 0 → Q ((-103)) I J))
theorem mbX11_restore : MB yX11_restore cX11_restore 2 ((Option.some FieldType.int)) 0 := ⟨tw781, tw1, ⟨by decide, by decide⟩, by decide +kernel, by decide +kernel⟩
set_option maxHeartbeats 4000000 in
set_option maxRecDepth 100000 in
theorem kX11_restore {l : Launch} {E : WE} {I : MI} {J : MJ} {Q : Int32 → MI → MJ → Prop} (h : wX11_restore (wg E) I J Q) : Met l yX11_restore (wsM yX11_restore cX11_restore 2 ((Option.some FieldType.int))) (rmO 2 60) (va_Pc [.ref (wa E 0 0)] (Wp E I J)) (QI E Q) 0 0 (AA E) := by
  refine m_entry mbX11_restore (Nat.le_of_ble_eq_true rfl) ?_
  intro p e s m args below meth c X ls hW hl
  have X : Cx E cX11_restore 2 RX11 ((Option.some FieldType.int)) p s m args c meth := X
  have hx := X.1.1
  have hb := X.1.2.1
  have hl : lv_has ls 2 [(0, .ref (wa E 0 0))] := hl
  refine lv_aload_n hx hb dX11_restore_0 rfl (lv_at hl 0 rfl) ?_
  refine r_get X hW 12 (okS hW sc0_0) rfl rfl inX11 (Nat.le_of_ble_eq_true rfl) tw144 rfl dX11_restore_1 ?_
  refine lv_if_ne (tgt := 10) hx hb dX11_restore_4 (by decide) (fun c4 => ?_) (fun c4 => ?_)
  · have h := h.1 c4
    refine lv_iconst (v := 0) hx hb dX11_restore_10 (by decide) ?_
    refine lv_istore_n (lv' := [(1, .int 0), (0, .ref (wa E 0 0))]) hx hb dX11_restore_11 rfl hl (by decide) rfl (fun ls hl => ?_)
    obtain ⟨n12, h⟩ := h
    exact bX11_restore_12 X n12 0 _ _ _ _ _  h hW (lv_sub hl [1, 0] rfl)
  · have h := h.2 c4
    refine lv_bipush (v := (-103)) hx hb dX11_restore_7 (by decide) ?_
    exact e_i X hW h dX11_restore_9
def wX11_count (g : GS) (a1 : Int32) (I : MI) (J : MJ) (Q : Int32 → MI → MJ → Prop) : Prop :=
  ((a1 = 0 → Q (I 0 0 10) I J) ∧ (¬ a1 = 0 → ((a1 = 1 → Q (I 0 0 11) I J) ∧ (¬ a1 = 1 → ((a1 = 2 → Q (I 0 0 9) I J) ∧ (¬ a1 = 2 → ((a1 = 3 → Q (I 1 0 1) I J) ∧ (¬ a1 = 3 → ((a1 = 4 → wX11_howManyMinded g I J (fun r60 I60 J60 => Q r60 I60 J60)) ∧ (¬ a1 = 4 → Q ((-102)) I J))))))))))
theorem mbX11_count : MB yX11_count cX11_count 2 ((Option.some FieldType.int)) 1 := ⟨tw794, tw1, ⟨by decide, by decide⟩, by decide +kernel, by decide +kernel⟩
set_option maxHeartbeats 4000000 in
set_option maxRecDepth 100000 in
theorem kX11_count {l : Launch} {E : WE} {a1 : Int32} {I : MI} {J : MJ} {Q : Int32 → MI → MJ → Prop} (h : wX11_count (wg E) a1 I J Q) : Met l yX11_count (wsM yX11_count cX11_count 2 ((Option.some FieldType.int))) (rmO 5 108) (va_Pc [.ref (wa E 0 0), .int a1] (Wp E I J)) (QI E Q) 0 0 (AA E) := by
  refine m_entry mbX11_count (Nat.le_of_ble_eq_true rfl) ?_
  intro p e s m args below meth c X ls hW hl
  have X : Cx E cX11_count 2 RX11 ((Option.some FieldType.int)) p s m args c meth := X
  have hx := X.1.1
  have hb := X.1.2.1
  have hl : lv_has ls 2 [(0, .ref (wa E 0 0)), (1, .int a1)] := hl
  refine lv_iload_n hx hb dX11_count_0 rfl (lv_at hl 1 rfl) ?_
  by_cases s1_0 : a1 = 0
  · have h := h.1 s1_0
    refine sw_in (tgt := 36) (off := 35) hx hb dX11_count_1 s1_0 (by decide) (by decide) (by decide) (by decide) ?_
    refine lv_aload_n hx hb dX11_count_36 rfl (lv_at hl 0 rfl) ?_
    refine r_get X hW 10 (okS hW sc0_0) rfl rfl inX11 (Nat.le_of_ble_eq_true rfl) tw142 rfl dX11_count_37 ?_
    exact e_i X hW h dX11_count_40
  · have h := h.2 s1_0
    by_cases s1_1 : a1 = 1
    · have h := h.1 s1_1
      refine sw_in (tgt := 41) (off := 40) hx hb dX11_count_1 s1_1 (by decide) (by decide) (by decide) (by decide) ?_
      refine lv_aload_n hx hb dX11_count_41 rfl (lv_at hl 0 rfl) ?_
      refine r_get X hW 11 (okS hW sc0_0) rfl rfl inX11 (Nat.le_of_ble_eq_true rfl) tw143 rfl dX11_count_42 ?_
      exact e_i X hW h dX11_count_45
    · have h := h.2 s1_1
      by_cases s1_2 : a1 = 2
      · have h := h.1 s1_2
        refine sw_in (tgt := 46) (off := 45) hx hb dX11_count_1 s1_2 (by decide) (by decide) (by decide) (by decide) ?_
        refine lv_aload_n hx hb dX11_count_46 rfl (lv_at hl 0 rfl) ?_
        refine r_get X hW 9 (okS hW sc0_0) rfl rfl inX11 (Nat.le_of_ble_eq_true rfl) tw141 rfl dX11_count_47 ?_
        exact e_i X hW h dX11_count_50
      · have h := h.2 s1_2
        by_cases s1_3 : a1 = 3
        · have h := h.1 s1_3
          refine sw_in (tgt := 51) (off := 50) hx hb dX11_count_1 s1_3 (by decide) (by decide) (by decide) (by decide) ?_
          refine lv_aload_n hx hb dX11_count_51 rfl (lv_at hl 0 rfl) ?_
          refine r_get X hW 0 (okS hW sc0_0) rfl rfl inX11 (Nat.le_of_ble_eq_true rfl) tw132 rfl dX11_count_52 ?_
          refine r_getN X hW 1 (okS hW sc1_0) rfl rfl inX4 (Nat.le_of_ble_eq_true rfl) nw34 rfl dX11_count_55 ?_
          exact e_i X hW h dX11_count_58
        · have h := h.2 s1_3
          by_cases s1_4 : a1 = 4
          · have h := h.1 s1_4
            refine sw_in (tgt := 59) (off := 58) hx hb dX11_count_1 s1_4 (by decide) (by decide) (by decide) (by decide) ?_
            refine lv_aload_n hx hb dX11_count_59 rfl (lv_at hl 0 rfl) ?_
            refine af_i hW (rn_V X hW (As := []) (rest := []) (okS hW sc0_0) rfl rfl (kX11_howManyMinded h) mbX11_howManyMinded tw757 tw759 tp20 rfl hl.1 (Nat.le_of_ble_eq_true rfl) ⟨(Nat.le_of_ble_eq_true rfl), (Nat.le_of_ble_eq_true rfl)⟩ dX11_count_60) (fun r60 I60 J60 H locs h hW => ?_)
            exact e_i X hW h dX11_count_63
          · have h := h.2 s1_4
            have z1 : Int32.toInt a1 < 0 ∨ 4 < Int32.toInt a1 := by
              have := ne_ti s1_0 (a := 0) (by decide)
              have := ne_ti s1_1 (a := 1) (by decide)
              have := ne_ti s1_2 (a := 2) (by decide)
              have := ne_ti s1_3 (a := 3) (by decide)
              have := ne_ti s1_4 (a := 4) (by decide)
              omega
            refine lv_tableOut (tgt := 64) hx hb dX11_count_1 z1 (by decide) ?_
            refine lv_bipush (v := (-102)) hx hb dX11_count_64 (by decide) ?_
            exact e_i X hW h dX11_count_66
def wX11_digestCandidates_b17 (g : GS) (ko5 : Int64 → Int32 → MI → MJ → Prop) (Q : Int64 → MI → MJ → Prop) : Nat → Int64 → Int32 → Int32 → MI → MJ → Prop
  | 0, _, _, _, _, _ => False
  | n + 1, v3, v5, v6, I, J => ((2 < v6 → ko5 v3 (v5 + 1) I J) ∧ (¬ 2 < v6 → wX11_friend g v5 v6 I J (fun r29 I29 J29 => wX11_mix g v3 (Int32.toInt64 r29) I29 J29 (fun r33 I33 J33 => wX11_digestCandidates_b17 g ko5 Q n r33 v5 (v6 + 1) I33 J33))))
set_option maxHeartbeats 4000000 in
set_option maxRecDepth 100000 in
theorem bX11_digestCandidates_17 {p : Program} {l : Launch} {e : Env} {s : State} {m : MethodId} {args : Array Value} {below : List Frame} {meth : Method} {c : Code} {E : WE} {Q : Int64 → MI → MJ → Prop} {ko5 : Int64 → Int32 → MI → MJ → Prop} (X : Cx E cX11_digestCandidates 7 RX11 ((Option.some FieldType.long)) p s m args c meth)
    (hk5 : ∀ (v3 : Int64) (v5 : Int32) (I : MI) (J : MJ) (H : Heap) (locs : List Loc) (ls : Array Slot), ko5 v3 v5 I J → Wd E I J s H locs → lv_has ls 7 [(0, .ref (wa E 0 0)), (3, .long v3), (5, .int v5)] → W p l e (rmO 5 108) s m args below meth c H locs 0 0 (MQ below (QL E Q) args s 0 0 (AA E)) (F0 m 5 ls [])) (n : Nat) : ∀ (v3 : Int64) (v5 : Int32) (v6 : Int32) (I : MI) (J : MJ) (H : Heap) (locs : List Loc) (ls : Array Slot), wX11_digestCandidates_b17 (wg E) ko5 Q n v3 v5 v6 I J → Wd E I J s H locs → lv_has ls 7 [(0, .ref (wa E 0 0)), (3, .long v3), (5, .int v5), (6, .int v6)] → W p l e (rmO 5 108) s m args below meth c H locs 0 0 (MQ below (QL E Q) args s 0 0 (AA E)) (F0 m 17 ls []) := by
  have hx := X.1.1
  have hb := X.1.2.1
  induction n with
  | zero => intro v3 v5 v6 I J H locs ls h hW hl; exact h.elim
  | succ n ih =>
    intro v3 v5 v6 I J H locs ls h hW hl
    refine lv_iload hx hb dX11_digestCandidates_17 (lv_at hl 3 rfl) ?_
    refine lv_iconst (v := 2) hx hb dX11_digestCandidates_19 (by decide) ?_
    refine lv_icmp_gt (tgt := 43) hx hb dX11_digestCandidates_20 (by decide) (fun c20 => ?_) (fun c20 => ?_)
    · have h := h.1 c20
      refine lv_iinc (v := v5 + 1) (lv' := [(5, .int (v5 + 1)), (0, .ref (wa E 0 0)), (3, .long v3), (6, .int v6)]) hx hb dX11_digestCandidates_43 hl (k := 2) rfl rfl (by decide) rfl (fun ls hl => ?_)
      refine lv_goto (tgt := 5) hx hb dX11_digestCandidates_46 (by decide) ?_
      exact hk5 v3 (v5 + 1) _ _ _ _ _  h hW (lv_sub hl [1, 2, 0] rfl)
    · have h := h.2 c20
      refine lv_lload_n hx hb dX11_digestCandidates_23 rfl (lv_at hl 1 rfl) ?_
      refine lv_aload_n hx hb dX11_digestCandidates_24 rfl (lv_at hl 0 rfl) ?_
      refine lv_iload hx hb dX11_digestCandidates_25 (lv_at hl 2 rfl) ?_
      refine lv_iload hx hb dX11_digestCandidates_27 (lv_at hl 3 rfl) ?_
      refine af_i hW (rn_V X hW (As := [.int v5, .int v6]) (rest := [.long v3]) (okS hW sc0_0) rfl rfl (kX11_friend h) mbX11_friend tw817 tw440 tw441 rfl hl.1 (Nat.le_of_ble_eq_true rfl) ⟨(Nat.le_of_ble_eq_true rfl), (Nat.le_of_ble_eq_true rfl)⟩ dX11_digestCandidates_29) (fun r29 I29 J29 H locs h hW => ?_)
      refine lv_i2l hx hb dX11_digestCandidates_32 rfl ?_
      refine af_l hW (rn_S X hW (As := [.long v3, .long (Int32.toInt64 r29)]) (rest := []) (kX11_mix h) mbX11_mix tw804 tw805 rfl hl.1 (Nat.le_of_ble_eq_true rfl) ⟨(Nat.le_of_ble_eq_true rfl), (Nat.le_of_ble_eq_true rfl)⟩ dX11_digestCandidates_33) (fun r33 I33 J33 H locs h hW => ?_)
      refine lv_lstore_n (lv' := [(3, .long r33), (0, .ref (wa E 0 0)), (5, .int v5), (6, .int v6)]) hx hb dX11_digestCandidates_36 rfl hl (by decide) rfl (fun ls hl => ?_)
      refine lv_iinc (v := v6 + 1) (lv' := [(6, .int (v6 + 1)), (3, .long r33), (0, .ref (wa E 0 0)), (5, .int v5)]) hx hb dX11_digestCandidates_37 hl (k := 3) rfl rfl (by decide) rfl (fun ls hl => ?_)
      refine lv_goto (tgt := 17) hx hb dX11_digestCandidates_40 (by decide) ?_
      exact ih r33 v5 (v6 + 1) _ _ _ _ _  h hW (lv_sub hl [2, 1, 3, 0] rfl)
def wX11_digestCandidates_b5 (g : GS) (Q : Int64 → MI → MJ → Prop) : Nat → Int64 → Int32 → MI → MJ → Prop
  | 0, _, _, _, _ => False
  | n + 1, v3, v5, I, J => (((I 0 0 11) ≤ v5 → Q v3 I J) ∧ (¬ (I 0 0 11) ≤ v5 → ∃ n17, wX11_digestCandidates_b17 g (fun v3 v5 I J => wX11_digestCandidates_b5 g Q n v3 v5 I J) Q n17 v3 v5 0 I J))
set_option maxHeartbeats 4000000 in
set_option maxRecDepth 100000 in
theorem bX11_digestCandidates_5 {p : Program} {l : Launch} {e : Env} {s : State} {m : MethodId} {args : Array Value} {below : List Frame} {meth : Method} {c : Code} {E : WE} {Q : Int64 → MI → MJ → Prop} (X : Cx E cX11_digestCandidates 7 RX11 ((Option.some FieldType.long)) p s m args c meth) (n : Nat) : ∀ (v3 : Int64) (v5 : Int32) (I : MI) (J : MJ) (H : Heap) (locs : List Loc) (ls : Array Slot), wX11_digestCandidates_b5 (wg E) Q n v3 v5 I J → Wd E I J s H locs → lv_has ls 7 [(0, .ref (wa E 0 0)), (3, .long v3), (5, .int v5)] → W p l e (rmO 5 108) s m args below meth c H locs 0 0 (MQ below (QL E Q) args s 0 0 (AA E)) (F0 m 5 ls []) := by
  have hx := X.1.1
  have hb := X.1.2.1
  induction n with
  | zero => intro v3 v5 I J H locs ls h hW hl; exact h.elim
  | succ n ih =>
    intro v3 v5 I J H locs ls h hW hl
    refine lv_iload hx hb dX11_digestCandidates_5 (lv_at hl 2 rfl) ?_
    refine lv_aload_n hx hb dX11_digestCandidates_7 rfl (lv_at hl 0 rfl) ?_
    refine r_get X hW 11 (okS hW sc0_0) rfl rfl inX11 (Nat.le_of_ble_eq_true rfl) tw143 rfl dX11_digestCandidates_8 ?_
    refine lv_icmp_ge (tgt := 49) hx hb dX11_digestCandidates_11 (by decide) (fun c11 => ?_) (fun c11 => ?_)
    · have h := h.1 c11
      refine lv_lload_n hx hb dX11_digestCandidates_49 rfl (lv_at hl 1 rfl) ?_
      exact e_l X hW h dX11_digestCandidates_50
    · have h := h.2 c11
      refine lv_iconst (v := 0) hx hb dX11_digestCandidates_14 (by decide) ?_
      refine lv_istore (lv' := [(6, .int 0), (0, .ref (wa E 0 0)), (3, .long v3), (5, .int v5)]) hx hb dX11_digestCandidates_15 hl (by decide) rfl (fun ls hl => ?_)
      obtain ⟨n17, h⟩ := h
      exact bX11_digestCandidates_17 X ih n17 v3 v5 0 _ _ _ _ _  h hW (lv_sub hl [1, 2, 3, 0] rfl)
def wX11_digestCandidates (g : GS) (a1 : Int64) (I : MI) (J : MJ) (Q : Int64 → MI → MJ → Prop) : Prop :=
  ∃ n5, wX11_digestCandidates_b5 g Q n5 a1 0 I J
theorem mbX11_digestCandidates : MB yX11_digestCandidates cX11_digestCandidates 7 ((Option.some FieldType.long)) 1 := ⟨tw816, tw1, ⟨by decide, by decide⟩, by decide +kernel, by decide +kernel⟩
set_option maxHeartbeats 4000000 in
set_option maxRecDepth 100000 in
theorem kX11_digestCandidates {l : Launch} {E : WE} {a1 : Int64} {I : MI} {J : MJ} {Q : Int64 → MI → MJ → Prop} (h : wX11_digestCandidates (wg E) a1 I J Q) : Met l yX11_digestCandidates (wsM yX11_digestCandidates cX11_digestCandidates 7 ((Option.some FieldType.long))) (rmO 5 108) (va_Pc [.ref (wa E 0 0), .long a1] (Wp E I J)) (QL E Q) 0 0 (AA E) := by
  refine m_entry mbX11_digestCandidates (Nat.le_of_ble_eq_true rfl) ?_
  intro p e s m args below meth c X ls hW hl
  have X : Cx E cX11_digestCandidates 7 RX11 ((Option.some FieldType.long)) p s m args c meth := X
  have hx := X.1.1
  have hb := X.1.2.1
  have hl : lv_has ls 7 [(0, .ref (wa E 0 0)), (1, .long a1)] := hl
  refine lv_lload_n hx hb dX11_digestCandidates_0 rfl (lv_at hl 1 rfl) ?_
  refine lv_lstore_n (lv' := [(3, .long a1), (0, .ref (wa E 0 0)), (1, .long a1)]) hx hb dX11_digestCandidates_1 rfl hl (by decide) rfl (fun ls hl => ?_)
  refine lv_iconst (v := 0) hx hb dX11_digestCandidates_2 (by decide) ?_
  refine lv_istore (lv' := [(5, .int 0), (3, .long a1), (0, .ref (wa E 0 0)), (1, .long a1)]) hx hb dX11_digestCandidates_3 hl (by decide) rfl (fun ls hl => ?_)
  obtain ⟨n5, h⟩ := h
  exact bX11_digestCandidates_5 X n5 a1 0 _ _ _ _ _  h hW (lv_sub hl [2, 1, 0] rfl)
def wX11_digestIn_b26 (g : GS) (ko14 : Int64 → Int64 → Int32 → MI → MJ → Prop) (Q : Int64 → MI → MJ → Prop) : Nat → Int64 → Int64 → Int32 → Int32 → MI → MJ → Prop
  | 0, _, _, _, _, _, _ => False
  | n + 1, v3, v5, v7, v8, I, J => (((I 0 0 11) ≤ v8 → ko14 v3 v5 (v7 + 1) I J) ∧ (¬ (I 0 0 11) ≤ v8 → vp_in v7 6 ∧ ((¬ (Int32.toNatClampNeg v7) < g.2.2 → wX11_everybody g I J (fun r46 I46 J46 => False)) ∧ ((Int32.toNatClampNeg v7) < g.2.2 → wX11_everybody g I J (fun r46 I46 J46 => wX11_inWays g ((Int32.toNatClampNeg v7)) v8 r46 I46 J46 (fun r49 I49 J49 => wX11_lowest g r49 v5 0 I49 J49 (fun r60 I60 J60 => wX11_mix g v3 r60 I60 J60 (fun r63 I63 J63 => wX11_lowest g r49 v5 1 I63 J63 (fun r73 I73 J73 => wX11_mix g r63 r73 I73 J73 (fun r76 I76 J76 => wX11_digestIn_b26 g ko14 Q n r76 v5 v7 (v8 + 1) I76 J76))))))))))
set_option maxHeartbeats 4000000 in
set_option maxRecDepth 100000 in
theorem bX11_digestIn_26 {p : Program} {l : Launch} {e : Env} {s : State} {m : MethodId} {args : Array Value} {below : List Frame} {meth : Method} {c : Code} {E : WE} {Q : Int64 → MI → MJ → Prop} {ko14 : Int64 → Int64 → Int32 → MI → MJ → Prop} (X : Cx E cX11_digestIn 11 RX11 ((Option.some FieldType.long)) p s m args c meth)
    (hk14 : ∀ (v3 : Int64) (v5 : Int64) (v7 : Int32) (I : MI) (J : MJ) (H : Heap) (locs : List Loc) (ls : Array Slot), ko14 v3 v5 v7 I J → Wd E I J s H locs → lv_has ls 11 [(0, .ref (wa E 0 0)), (3, .long v3), (5, .long v5), (7, .int v7)] → W p l e (rmO 6 142) s m args below meth c H locs 0 0 (MQ below (QL E Q) args s 0 0 (AA E)) (F0 m 14 ls [])) (n : Nat) : ∀ (v3 : Int64) (v5 : Int64) (v7 : Int32) (v8 : Int32) (I : MI) (J : MJ) (H : Heap) (locs : List Loc) (ls : Array Slot), wX11_digestIn_b26 (wg E) ko14 Q n v3 v5 v7 v8 I J → Wd E I J s H locs → lv_has ls 11 [(0, .ref (wa E 0 0)), (3, .long v3), (5, .long v5), (7, .int v7), (8, .int v8)] → W p l e (rmO 6 142) s m args below meth c H locs 0 0 (MQ below (QL E Q) args s 0 0 (AA E)) (F0 m 26 ls []) := by
  have hx := X.1.1
  have hb := X.1.2.1
  induction n with
  | zero => intro v3 v5 v7 v8 I J H locs ls h hW hl; exact h.elim
  | succ n ih =>
    intro v3 v5 v7 v8 I J H locs ls h hW hl
    refine lv_iload hx hb dX11_digestIn_26 (lv_at hl 4 rfl) ?_
    refine lv_aload_n hx hb dX11_digestIn_28 rfl (lv_at hl 0 rfl) ?_
    refine r_get X hW 11 (okS hW sc0_0) rfl rfl inX11 (Nat.le_of_ble_eq_true rfl) tw143 rfl dX11_digestIn_29 ?_
    refine lv_icmp_ge (tgt := 86) hx hb dX11_digestIn_32 (by decide) (fun c32 => ?_) (fun c32 => ?_)
    · have h := h.1 c32
      refine lv_iinc (v := v7 + 1) (lv' := [(7, .int (v7 + 1)), (0, .ref (wa E 0 0)), (3, .long v3), (5, .long v5), (8, .int v8)]) hx hb dX11_digestIn_86 hl (k := 3) rfl rfl (by decide) rfl (fun ls hl => ?_)
      refine lv_goto (tgt := 14) hx hb dX11_digestIn_89 (by decide) ?_
      exact hk14 v3 v5 (v7 + 1) _ _ _ _ _  h hW (lv_sub hl [1, 2, 3, 0] rfl)
    · have h := h.2 c32
      refine lv_aload_n hx hb dX11_digestIn_35 rfl (lv_at hl 0 rfl) ?_
      refine lv_aload_n hx hb dX11_digestIn_36 rfl (lv_at hl 0 rfl) ?_
      refine r_get X hW 1 (okS hW sc0_0) rfl rfl inX11 (Nat.le_of_ble_eq_true rfl) tw133 rfl dX11_digestIn_37 ?_
      refine lv_iload hx hb dX11_digestIn_40 (lv_at hl 3 rfl) ?_
      refine r_aaR X hW h.1 dX11_digestIn_42 (fun c42 => ?_) (fun c42 => ?_)
      · have h := h.2.1 c42
        refine lv_iload hx hb dX11_digestIn_43 (lv_at hl 4 rfl) ?_
        refine lv_aload_n hx hb dX11_digestIn_45 rfl (lv_at hl 0 rfl) ?_
        refine af_i hW (rn_V X hW (As := []) (rest := [.int v8, .null, .ref (wa E 0 0)]) (okS hW sc0_0) rfl rfl (kX11_everybody h) mbX11_everybody tw473 tw475 tp9 rfl hl.1 (Nat.le_of_ble_eq_true rfl) ⟨(Nat.le_of_ble_eq_true rfl), (Nat.le_of_ble_eq_true rfl)⟩ dX11_digestIn_46) (fun r46 I46 J46 H locs h hW => ?_)
        exact h.elim
      · have h := h.2.2 c42
        refine lv_iload hx hb dX11_digestIn_43 (lv_at hl 4 rfl) ?_
        refine lv_aload_n hx hb dX11_digestIn_45 rfl (lv_at hl 0 rfl) ?_
        refine af_i hW (rn_V X hW (As := []) (rest := [.int v8, .ref (wa E 43 (Int32.toNatClampNeg v7)), .ref (wa E 0 0)]) (okS hW sc0_0) rfl rfl (kX11_everybody h) mbX11_everybody tw473 tw475 tp9 rfl hl.1 (Nat.le_of_ble_eq_true rfl) ⟨(Nat.le_of_ble_eq_true rfl), (Nat.le_of_ble_eq_true rfl)⟩ dX11_digestIn_46) (fun r46 I46 J46 H locs h hW => ?_)
        refine af_l hW (rn_V X hW (As := [.ref (wa E 43 (Int32.toNatClampNeg v7)), .int v8, .int r46]) (rest := []) (okS hW sc0_0) rfl rfl (kX11_inWays c42 h) mbX11_inWays tw564 tw566 tp12 rfl hl.1 (Nat.le_of_ble_eq_true rfl) ⟨(Nat.le_of_ble_eq_true rfl), (Nat.le_of_ble_eq_true rfl)⟩ dX11_digestIn_49) (fun r49 I49 J49 H locs h hW => ?_)
        refine lv_lstore (lv' := [(9, .long r49), (0, .ref (wa E 0 0)), (3, .long v3), (5, .long v5), (7, .int v7), (8, .int v8)]) hx hb dX11_digestIn_52 hl (by decide) rfl (fun ls hl => ?_)
        refine lv_lload_n hx hb dX11_digestIn_54 rfl (lv_at hl 2 rfl) ?_
        refine lv_lload hx hb dX11_digestIn_55 (lv_at hl 0 rfl) ?_
        refine lv_lload hx hb dX11_digestIn_57 (lv_at hl 3 rfl) ?_
        refine lv_iconst (v := 0) hx hb dX11_digestIn_59 (by decide) ?_
        refine af_l hW (rn_S X hW (As := [.long r49, .long v5, .int 0]) (rest := [.long v3]) (kX11_lowest h) mbX11_lowest tw551 tw552 rfl hl.1 (Nat.le_of_ble_eq_true rfl) ⟨(Nat.le_of_ble_eq_true rfl), (Nat.le_of_ble_eq_true rfl)⟩ dX11_digestIn_60) (fun r60 I60 J60 H locs h hW => ?_)
        refine af_l hW (rn_S X hW (As := [.long v3, .long r60]) (rest := []) (kX11_mix h) mbX11_mix tw804 tw805 rfl hl.1 (Nat.le_of_ble_eq_true rfl) ⟨(Nat.le_of_ble_eq_true rfl), (Nat.le_of_ble_eq_true rfl)⟩ dX11_digestIn_63) (fun r63 I63 J63 H locs h hW => ?_)
        refine lv_lstore_n (lv' := [(3, .long r63), (9, .long r49), (0, .ref (wa E 0 0)), (5, .long v5), (7, .int v7), (8, .int v8)]) hx hb dX11_digestIn_66 rfl hl (by decide) rfl (fun ls hl => ?_)
        refine lv_lload_n hx hb dX11_digestIn_67 rfl (lv_at hl 0 rfl) ?_
        refine lv_lload hx hb dX11_digestIn_68 (lv_at hl 1 rfl) ?_
        refine lv_lload hx hb dX11_digestIn_70 (lv_at hl 3 rfl) ?_
        refine lv_iconst (v := 1) hx hb dX11_digestIn_72 (by decide) ?_
        refine af_l hW (rn_S X hW (As := [.long r49, .long v5, .int 1]) (rest := [.long r63]) (kX11_lowest h) mbX11_lowest tw551 tw552 rfl hl.1 (Nat.le_of_ble_eq_true rfl) ⟨(Nat.le_of_ble_eq_true rfl), (Nat.le_of_ble_eq_true rfl)⟩ dX11_digestIn_73) (fun r73 I73 J73 H locs h hW => ?_)
        refine af_l hW (rn_S X hW (As := [.long r63, .long r73]) (rest := []) (kX11_mix h) mbX11_mix tw804 tw805 rfl hl.1 (Nat.le_of_ble_eq_true rfl) ⟨(Nat.le_of_ble_eq_true rfl), (Nat.le_of_ble_eq_true rfl)⟩ dX11_digestIn_76) (fun r76 I76 J76 H locs h hW => ?_)
        refine lv_lstore_n (lv' := [(3, .long r76), (9, .long r49), (0, .ref (wa E 0 0)), (5, .long v5), (7, .int v7), (8, .int v8)]) hx hb dX11_digestIn_79 rfl hl (by decide) rfl (fun ls hl => ?_)
        refine lv_iinc (v := v8 + 1) (lv' := [(8, .int (v8 + 1)), (3, .long r76), (9, .long r49), (0, .ref (wa E 0 0)), (5, .long v5), (7, .int v7)]) hx hb dX11_digestIn_80 hl (k := 5) rfl rfl (by decide) rfl (fun ls hl => ?_)
        refine lv_goto (tgt := 26) hx hb dX11_digestIn_83 (by decide) ?_
        exact ih r76 v5 v7 (v8 + 1) _ _ _ _ _  h hW (lv_sub hl [3, 1, 4, 5, 0] rfl)
def wX11_digestIn_b14 (g : GS) (Q : Int64 → MI → MJ → Prop) : Nat → Int64 → Int64 → Int32 → MI → MJ → Prop
  | 0, _, _, _, _, _ => False
  | n + 1, v3, v5, v7, I, J => (((I 0 0 9) ≤ v7 → Q v3 I J) ∧ (¬ (I 0 0 9) ≤ v7 → ∃ n26, wX11_digestIn_b26 g (fun v3 v5 v7 I J => wX11_digestIn_b14 g Q n v3 v5 v7 I J) Q n26 v3 v5 v7 0 I J))
set_option maxHeartbeats 4000000 in
set_option maxRecDepth 100000 in
theorem bX11_digestIn_14 {p : Program} {l : Launch} {e : Env} {s : State} {m : MethodId} {args : Array Value} {below : List Frame} {meth : Method} {c : Code} {E : WE} {Q : Int64 → MI → MJ → Prop} (X : Cx E cX11_digestIn 11 RX11 ((Option.some FieldType.long)) p s m args c meth) (n : Nat) : ∀ (v3 : Int64) (v5 : Int64) (v7 : Int32) (I : MI) (J : MJ) (H : Heap) (locs : List Loc) (ls : Array Slot), wX11_digestIn_b14 (wg E) Q n v3 v5 v7 I J → Wd E I J s H locs → lv_has ls 11 [(0, .ref (wa E 0 0)), (3, .long v3), (5, .long v5), (7, .int v7)] → W p l e (rmO 6 142) s m args below meth c H locs 0 0 (MQ below (QL E Q) args s 0 0 (AA E)) (F0 m 14 ls []) := by
  have hx := X.1.1
  have hb := X.1.2.1
  induction n with
  | zero => intro v3 v5 v7 I J H locs ls h hW hl; exact h.elim
  | succ n ih =>
    intro v3 v5 v7 I J H locs ls h hW hl
    refine lv_iload hx hb dX11_digestIn_14 (lv_at hl 3 rfl) ?_
    refine lv_aload_n hx hb dX11_digestIn_16 rfl (lv_at hl 0 rfl) ?_
    refine r_get X hW 9 (okS hW sc0_0) rfl rfl inX11 (Nat.le_of_ble_eq_true rfl) tw141 rfl dX11_digestIn_17 ?_
    refine lv_icmp_ge (tgt := 92) hx hb dX11_digestIn_20 (by decide) (fun c20 => ?_) (fun c20 => ?_)
    · have h := h.1 c20
      refine lv_lload_n hx hb dX11_digestIn_92 rfl (lv_at hl 1 rfl) ?_
      exact e_l X hW h dX11_digestIn_93
    · have h := h.2 c20
      refine lv_iconst (v := 0) hx hb dX11_digestIn_23 (by decide) ?_
      refine lv_istore (lv' := [(8, .int 0), (0, .ref (wa E 0 0)), (3, .long v3), (5, .long v5), (7, .int v7)]) hx hb dX11_digestIn_24 hl (by decide) rfl (fun ls hl => ?_)
      obtain ⟨n26, h⟩ := h
      exact bX11_digestIn_26 X ih n26 v3 v5 v7 0 _ _ _ _ _  h hW (lv_sub hl [1, 2, 3, 4, 0] rfl)
def wX11_digestIn (g : GS) (a1 : Int64) (I : MI) (J : MJ) (Q : Int64 → MI → MJ → Prop) : Prop :=
  wX11_everybody g I J (fun r3 I3 J3 => wX11_squaredTens g r3 I3 J3 (fun r6 I6 J6 => ∃ n14, wX11_digestIn_b14 g Q n14 a1 r6 0 I6 J6))
theorem mbX11_digestIn : MB yX11_digestIn cX11_digestIn 11 ((Option.some FieldType.long)) 1 := ⟨tw821, tw1, ⟨by decide, by decide⟩, by decide +kernel, by decide +kernel⟩
set_option maxHeartbeats 4000000 in
set_option maxRecDepth 100000 in
theorem kX11_digestIn {l : Launch} {E : WE} {a1 : Int64} {I : MI} {J : MJ} {Q : Int64 → MI → MJ → Prop} (h : wX11_digestIn (wg E) a1 I J Q) : Met l yX11_digestIn (wsM yX11_digestIn cX11_digestIn 11 ((Option.some FieldType.long))) (rmO 6 142) (va_Pc [.ref (wa E 0 0), .long a1] (Wp E I J)) (QL E Q) 0 0 (AA E) := by
  refine m_entry mbX11_digestIn (Nat.le_of_ble_eq_true rfl) ?_
  intro p e s m args below meth c X ls hW hl
  have X : Cx E cX11_digestIn 11 RX11 ((Option.some FieldType.long)) p s m args c meth := X
  have hx := X.1.1
  have hb := X.1.2.1
  have hl : lv_has ls 11 [(0, .ref (wa E 0 0)), (1, .long a1)] := hl
  refine lv_lload_n hx hb dX11_digestIn_0 rfl (lv_at hl 1 rfl) ?_
  refine lv_lstore_n (lv' := [(3, .long a1), (0, .ref (wa E 0 0)), (1, .long a1)]) hx hb dX11_digestIn_1 rfl hl (by decide) rfl (fun ls hl => ?_)
  refine lv_aload_n hx hb dX11_digestIn_2 rfl (lv_at hl 1 rfl) ?_
  refine af_i hW (rn_V X hW (As := []) (rest := []) (okS hW sc0_0) rfl rfl (kX11_everybody h) mbX11_everybody tw473 tw475 tp9 rfl hl.1 (Nat.le_of_ble_eq_true rfl) ⟨(Nat.le_of_ble_eq_true rfl), (Nat.le_of_ble_eq_true rfl)⟩ dX11_digestIn_3) (fun r3 I3 J3 H locs h hW => ?_)
  refine af_l hW (rn_S X hW (As := [.int r3]) (rest := []) (kX11_squaredTens h) mbX11_squaredTens tw576 tw577 rfl hl.1 (Nat.le_of_ble_eq_true rfl) ⟨(Nat.le_of_ble_eq_true rfl), (Nat.le_of_ble_eq_true rfl)⟩ dX11_digestIn_6) (fun r6 I6 J6 H locs h hW => ?_)
  refine lv_lstore (lv' := [(5, .long r6), (3, .long a1), (0, .ref (wa E 0 0)), (1, .long a1)]) hx hb dX11_digestIn_9 hl (by decide) rfl (fun ls hl => ?_)
  refine lv_iconst (v := 0) hx hb dX11_digestIn_11 (by decide) ?_
  refine lv_istore (lv' := [(7, .int 0), (5, .long r6), (3, .long a1), (0, .ref (wa E 0 0)), (1, .long a1)]) hx hb dX11_digestIn_12 hl (by decide) rfl (fun ls hl => ?_)
  obtain ⟨n14, h⟩ := h
  exact bX11_digestIn_14 X n14 a1 r6 0 _ _ _ _ _  h hW (lv_sub hl [3, 2, 1, 0] rfl)
def wX11_digestPeople_b46 (g : GS) (ko5 : Int64 → Int32 → MI → MJ → Prop) (Q : Int64 → MI → MJ → Prop) : Nat → Int64 → Int32 → Int32 → MI → MJ → Prop
  | 0, _, _, _, _, _ => False
  | n + 1, v3, v5, v6, I, J => (((I 0 0 11) ≤ v6 → ko5 v3 (v5 + 1) I J) ∧ (¬ (I 0 0 11) ≤ v6 → vp_in v5 8 ∧ ((¬ (Int32.toNatClampNeg v5) < g.2.1 → False) ∧ ((Int32.toNatClampNeg v5) < g.2.1 → wX5_mindsOf g ((Int32.toNatClampNeg v5)) v6 I J (fun r65 I65 J65 => wX11_mix g v3 (Int32.toInt64 r65) I65 J65 (fun r69 I69 J69 => wX11_digestPeople_b46 g ko5 Q n r69 v5 (v6 + 1) I69 J69))))))
set_option maxHeartbeats 4000000 in
set_option maxRecDepth 100000 in
theorem bX11_digestPeople_46 {p : Program} {l : Launch} {e : Env} {s : State} {m : MethodId} {args : Array Value} {below : List Frame} {meth : Method} {c : Code} {E : WE} {Q : Int64 → MI → MJ → Prop} {ko5 : Int64 → Int32 → MI → MJ → Prop} (X : Cx E cX11_digestPeople 7 RX11 ((Option.some FieldType.long)) p s m args c meth)
    (hk5 : ∀ (v3 : Int64) (v5 : Int32) (I : MI) (J : MJ) (H : Heap) (locs : List Loc) (ls : Array Slot), ko5 v3 v5 I J → Wd E I J s H locs → lv_has ls 7 [(0, .ref (wa E 0 0)), (3, .long v3), (5, .int v5)] → W p l e (rmO 2 46) s m args below meth c H locs 0 0 (MQ below (QL E Q) args s 0 0 (AA E)) (F0 m 5 ls [])) (n : Nat) : ∀ (v3 : Int64) (v5 : Int32) (v6 : Int32) (I : MI) (J : MJ) (H : Heap) (locs : List Loc) (ls : Array Slot), wX11_digestPeople_b46 (wg E) ko5 Q n v3 v5 v6 I J → Wd E I J s H locs → lv_has ls 7 [(0, .ref (wa E 0 0)), (3, .long v3), (5, .int v5), (6, .int v6)] → W p l e (rmO 2 46) s m args below meth c H locs 0 0 (MQ below (QL E Q) args s 0 0 (AA E)) (F0 m 46 ls []) := by
  have hx := X.1.1
  have hb := X.1.2.1
  induction n with
  | zero => intro v3 v5 v6 I J H locs ls h hW hl; exact h.elim
  | succ n ih =>
    intro v3 v5 v6 I J H locs ls h hW hl
    refine lv_iload hx hb dX11_digestPeople_46 (lv_at hl 3 rfl) ?_
    refine lv_aload_n hx hb dX11_digestPeople_48 rfl (lv_at hl 0 rfl) ?_
    refine r_get X hW 11 (okS hW sc0_0) rfl rfl inX11 (Nat.le_of_ble_eq_true rfl) tw143 rfl dX11_digestPeople_49 ?_
    refine lv_icmp_ge (tgt := 79) hx hb dX11_digestPeople_52 (by decide) (fun c52 => ?_) (fun c52 => ?_)
    · have h := h.1 c52
      refine lv_iinc (v := v5 + 1) (lv' := [(5, .int (v5 + 1)), (0, .ref (wa E 0 0)), (3, .long v3), (6, .int v6)]) hx hb dX11_digestPeople_79 hl (k := 2) rfl rfl (by decide) rfl (fun ls hl => ?_)
      refine lv_goto (tgt := 5) hx hb dX11_digestPeople_82 (by decide) ?_
      exact hk5 v3 (v5 + 1) _ _ _ _ _  h hW (lv_sub hl [1, 2, 0] rfl)
    · have h := h.2 c52
      refine lv_lload_n hx hb dX11_digestPeople_55 rfl (lv_at hl 1 rfl) ?_
      refine lv_aload_n hx hb dX11_digestPeople_56 rfl (lv_at hl 0 rfl) ?_
      refine r_get X hW 2 (okS hW sc0_0) rfl rfl inX11 (Nat.le_of_ble_eq_true rfl) tw134 rfl dX11_digestPeople_57 ?_
      refine lv_iload hx hb dX11_digestPeople_60 (lv_at hl 2 rfl) ?_
      refine r_aaP X hW h.1 dX11_digestPeople_62 (fun c62 => ?_) (fun c62 => ?_)
      · have h := h.2.1 c62
        refine lv_iload hx hb dX11_digestPeople_63 (lv_at hl 3 rfl) ?_
        exact h.elim
      · have h := h.2.2 c62
        refine lv_iload hx hb dX11_digestPeople_63 (lv_at hl 3 rfl) ?_
        refine af_i hW (rn_P X hW (As := [.int v6]) (rest := [.long v3]) c62 (kX5_mindsOf c62 h) mbX5_mindsOf tw421 tw422 tw425 tw426 tw427 tw428 tw423 rfl hl.1 (Nat.le_of_ble_eq_true rfl) ⟨(Nat.le_of_ble_eq_true rfl), (Nat.le_of_ble_eq_true rfl)⟩ dX11_digestPeople_65) (fun r65 I65 J65 H locs h hW => ?_)
        refine lv_i2l hx hb dX11_digestPeople_68 rfl ?_
        refine af_l hW (rn_S X hW (As := [.long v3, .long (Int32.toInt64 r65)]) (rest := []) (kX11_mix h) mbX11_mix tw804 tw805 rfl hl.1 (Nat.le_of_ble_eq_true rfl) ⟨(Nat.le_of_ble_eq_true rfl), (Nat.le_of_ble_eq_true rfl)⟩ dX11_digestPeople_69) (fun r69 I69 J69 H locs h hW => ?_)
        refine lv_lstore_n (lv' := [(3, .long r69), (0, .ref (wa E 0 0)), (5, .int v5), (6, .int v6)]) hx hb dX11_digestPeople_72 rfl hl (by decide) rfl (fun ls hl => ?_)
        refine lv_iinc (v := v6 + 1) (lv' := [(6, .int (v6 + 1)), (3, .long r69), (0, .ref (wa E 0 0)), (5, .int v5)]) hx hb dX11_digestPeople_73 hl (k := 3) rfl rfl (by decide) rfl (fun ls hl => ?_)
        refine lv_goto (tgt := 46) hx hb dX11_digestPeople_76 (by decide) ?_
        exact ih r69 v5 (v6 + 1) _ _ _ _ _  h hW (lv_sub hl [2, 1, 3, 0] rfl)
def wX11_digestPeople_b17 (g : GS) (ko5 : Int64 → Int32 → MI → MJ → Prop) (Q : Int64 → MI → MJ → Prop) : Nat → Int64 → Int32 → Int32 → MI → MJ → Prop
  | 0, _, _, _, _, _ => False
  | n + 1, v3, v5, v6, I, J => ((2 < v6 → ∃ n46, wX11_digestPeople_b46 g ko5 Q n46 v3 v5 0 I J) ∧ (¬ 2 < v6 → wX11_about g v5 v6 I J (fun r29 I29 J29 => wX11_mix g v3 (Int32.toInt64 r29) I29 J29 (fun r33 I33 J33 => wX11_digestPeople_b17 g ko5 Q n r33 v5 (v6 + 1) I33 J33))))
set_option maxHeartbeats 4000000 in
set_option maxRecDepth 100000 in
theorem bX11_digestPeople_17 {p : Program} {l : Launch} {e : Env} {s : State} {m : MethodId} {args : Array Value} {below : List Frame} {meth : Method} {c : Code} {E : WE} {Q : Int64 → MI → MJ → Prop} {ko5 : Int64 → Int32 → MI → MJ → Prop} (X : Cx E cX11_digestPeople 7 RX11 ((Option.some FieldType.long)) p s m args c meth)
    (hk5 : ∀ (v3 : Int64) (v5 : Int32) (I : MI) (J : MJ) (H : Heap) (locs : List Loc) (ls : Array Slot), ko5 v3 v5 I J → Wd E I J s H locs → lv_has ls 7 [(0, .ref (wa E 0 0)), (3, .long v3), (5, .int v5)] → W p l e (rmO 2 46) s m args below meth c H locs 0 0 (MQ below (QL E Q) args s 0 0 (AA E)) (F0 m 5 ls [])) (n : Nat) : ∀ (v3 : Int64) (v5 : Int32) (v6 : Int32) (I : MI) (J : MJ) (H : Heap) (locs : List Loc) (ls : Array Slot), wX11_digestPeople_b17 (wg E) ko5 Q n v3 v5 v6 I J → Wd E I J s H locs → lv_has ls 7 [(0, .ref (wa E 0 0)), (3, .long v3), (5, .int v5), (6, .int v6)] → W p l e (rmO 2 46) s m args below meth c H locs 0 0 (MQ below (QL E Q) args s 0 0 (AA E)) (F0 m 17 ls []) := by
  have hx := X.1.1
  have hb := X.1.2.1
  induction n with
  | zero => intro v3 v5 v6 I J H locs ls h hW hl; exact h.elim
  | succ n ih =>
    intro v3 v5 v6 I J H locs ls h hW hl
    refine lv_iload hx hb dX11_digestPeople_17 (lv_at hl 3 rfl) ?_
    refine lv_iconst (v := 2) hx hb dX11_digestPeople_19 (by decide) ?_
    refine lv_icmp_gt (tgt := 43) hx hb dX11_digestPeople_20 (by decide) (fun c20 => ?_) (fun c20 => ?_)
    · have h := h.1 c20
      refine lv_iconst (v := 0) hx hb dX11_digestPeople_43 (by decide) ?_
      refine lv_istore (lv' := [(6, .int 0), (0, .ref (wa E 0 0)), (3, .long v3), (5, .int v5)]) hx hb dX11_digestPeople_44 hl (by decide) rfl (fun ls hl => ?_)
      obtain ⟨n46, h⟩ := h
      exact bX11_digestPeople_46 X hk5 n46 v3 v5 0 _ _ _ _ _  h hW (lv_sub hl [1, 2, 3, 0] rfl)
    · have h := h.2 c20
      refine lv_lload_n hx hb dX11_digestPeople_23 rfl (lv_at hl 1 rfl) ?_
      refine lv_aload_n hx hb dX11_digestPeople_24 rfl (lv_at hl 0 rfl) ?_
      refine lv_iload hx hb dX11_digestPeople_25 (lv_at hl 2 rfl) ?_
      refine lv_iload hx hb dX11_digestPeople_27 (lv_at hl 3 rfl) ?_
      refine af_i hW (rn_V X hW (As := [.int v5, .int v6]) (rest := [.long v3]) (okS hW sc0_0) rfl rfl (kX11_about h) mbX11_about tw812 tw372 tw373 rfl hl.1 (Nat.le_of_ble_eq_true rfl) ⟨(Nat.le_of_ble_eq_true rfl), (Nat.le_of_ble_eq_true rfl)⟩ dX11_digestPeople_29) (fun r29 I29 J29 H locs h hW => ?_)
      refine lv_i2l hx hb dX11_digestPeople_32 rfl ?_
      refine af_l hW (rn_S X hW (As := [.long v3, .long (Int32.toInt64 r29)]) (rest := []) (kX11_mix h) mbX11_mix tw804 tw805 rfl hl.1 (Nat.le_of_ble_eq_true rfl) ⟨(Nat.le_of_ble_eq_true rfl), (Nat.le_of_ble_eq_true rfl)⟩ dX11_digestPeople_33) (fun r33 I33 J33 H locs h hW => ?_)
      refine lv_lstore_n (lv' := [(3, .long r33), (0, .ref (wa E 0 0)), (5, .int v5), (6, .int v6)]) hx hb dX11_digestPeople_36 rfl hl (by decide) rfl (fun ls hl => ?_)
      refine lv_iinc (v := v6 + 1) (lv' := [(6, .int (v6 + 1)), (3, .long r33), (0, .ref (wa E 0 0)), (5, .int v5)]) hx hb dX11_digestPeople_37 hl (k := 3) rfl rfl (by decide) rfl (fun ls hl => ?_)
      refine lv_goto (tgt := 17) hx hb dX11_digestPeople_40 (by decide) ?_
      exact ih r33 v5 (v6 + 1) _ _ _ _ _  h hW (lv_sub hl [2, 1, 3, 0] rfl)
def wX11_digestPeople_b5 (g : GS) (Q : Int64 → MI → MJ → Prop) : Nat → Int64 → Int32 → MI → MJ → Prop
  | 0, _, _, _, _ => False
  | n + 1, v3, v5, I, J => (((I 0 0 10) ≤ v5 → Q v3 I J) ∧ (¬ (I 0 0 10) ≤ v5 → ∃ n17, wX11_digestPeople_b17 g (fun v3 v5 I J => wX11_digestPeople_b5 g Q n v3 v5 I J) Q n17 v3 v5 0 I J))
set_option maxHeartbeats 4000000 in
set_option maxRecDepth 100000 in
theorem bX11_digestPeople_5 {p : Program} {l : Launch} {e : Env} {s : State} {m : MethodId} {args : Array Value} {below : List Frame} {meth : Method} {c : Code} {E : WE} {Q : Int64 → MI → MJ → Prop} (X : Cx E cX11_digestPeople 7 RX11 ((Option.some FieldType.long)) p s m args c meth) (n : Nat) : ∀ (v3 : Int64) (v5 : Int32) (I : MI) (J : MJ) (H : Heap) (locs : List Loc) (ls : Array Slot), wX11_digestPeople_b5 (wg E) Q n v3 v5 I J → Wd E I J s H locs → lv_has ls 7 [(0, .ref (wa E 0 0)), (3, .long v3), (5, .int v5)] → W p l e (rmO 2 46) s m args below meth c H locs 0 0 (MQ below (QL E Q) args s 0 0 (AA E)) (F0 m 5 ls []) := by
  have hx := X.1.1
  have hb := X.1.2.1
  induction n with
  | zero => intro v3 v5 I J H locs ls h hW hl; exact h.elim
  | succ n ih =>
    intro v3 v5 I J H locs ls h hW hl
    refine lv_iload hx hb dX11_digestPeople_5 (lv_at hl 2 rfl) ?_
    refine lv_aload_n hx hb dX11_digestPeople_7 rfl (lv_at hl 0 rfl) ?_
    refine r_get X hW 10 (okS hW sc0_0) rfl rfl inX11 (Nat.le_of_ble_eq_true rfl) tw142 rfl dX11_digestPeople_8 ?_
    refine lv_icmp_ge (tgt := 85) hx hb dX11_digestPeople_11 (by decide) (fun c11 => ?_) (fun c11 => ?_)
    · have h := h.1 c11
      refine lv_lload_n hx hb dX11_digestPeople_85 rfl (lv_at hl 1 rfl) ?_
      exact e_l X hW h dX11_digestPeople_86
    · have h := h.2 c11
      refine lv_iconst (v := 0) hx hb dX11_digestPeople_14 (by decide) ?_
      refine lv_istore (lv' := [(6, .int 0), (0, .ref (wa E 0 0)), (3, .long v3), (5, .int v5)]) hx hb dX11_digestPeople_15 hl (by decide) rfl (fun ls hl => ?_)
      obtain ⟨n17, h⟩ := h
      exact bX11_digestPeople_17 X ih n17 v3 v5 0 _ _ _ _ _  h hW (lv_sub hl [1, 2, 3, 0] rfl)
def wX11_digestPeople (g : GS) (a1 : Int64) (I : MI) (J : MJ) (Q : Int64 → MI → MJ → Prop) : Prop :=
  ∃ n5, wX11_digestPeople_b5 g Q n5 a1 0 I J
theorem mbX11_digestPeople : MB yX11_digestPeople cX11_digestPeople 7 ((Option.some FieldType.long)) 1 := ⟨tw811, tw1, ⟨by decide, by decide⟩, by decide +kernel, by decide +kernel⟩
set_option maxHeartbeats 4000000 in
set_option maxRecDepth 100000 in
theorem kX11_digestPeople {l : Launch} {E : WE} {a1 : Int64} {I : MI} {J : MJ} {Q : Int64 → MI → MJ → Prop} (h : wX11_digestPeople (wg E) a1 I J Q) : Met l yX11_digestPeople (wsM yX11_digestPeople cX11_digestPeople 7 ((Option.some FieldType.long))) (rmO 2 46) (va_Pc [.ref (wa E 0 0), .long a1] (Wp E I J)) (QL E Q) 0 0 (AA E) := by
  refine m_entry mbX11_digestPeople (Nat.le_of_ble_eq_true rfl) ?_
  intro p e s m args below meth c X ls hW hl
  have X : Cx E cX11_digestPeople 7 RX11 ((Option.some FieldType.long)) p s m args c meth := X
  have hx := X.1.1
  have hb := X.1.2.1
  have hl : lv_has ls 7 [(0, .ref (wa E 0 0)), (1, .long a1)] := hl
  refine lv_lload_n hx hb dX11_digestPeople_0 rfl (lv_at hl 1 rfl) ?_
  refine lv_lstore_n (lv' := [(3, .long a1), (0, .ref (wa E 0 0)), (1, .long a1)]) hx hb dX11_digestPeople_1 rfl hl (by decide) rfl (fun ls hl => ?_)
  refine lv_iconst (v := 0) hx hb dX11_digestPeople_2 (by decide) ?_
  refine lv_istore (lv' := [(5, .int 0), (3, .long a1), (0, .ref (wa E 0 0)), (1, .long a1)]) hx hb dX11_digestPeople_3 hl (by decide) rfl (fun ls hl => ?_)
  obtain ⟨n5, h⟩ := h
  exact bX11_digestPeople_5 X n5 a1 0 _ _ _ _ _  h hW (lv_sub hl [2, 1, 0] rfl)
def wX11_digestRules_b17 (g : GS) (ko5 : Int64 → Int32 → MI → MJ → Prop) (Q : Int64 → MI → MJ → Prop) : Nat → Int64 → Int32 → Int32 → MI → MJ → Prop
  | 0, _, _, _, _, _ => False
  | n + 1, v3, v5, v6, I, J => ((4 < v6 → ko5 v3 (v5 + 1) I J) ∧ (¬ 4 < v6 → vp_in v5 6 ∧ ((¬ (Int32.toNatClampNeg v5) < g.2.2 → False) ∧ ((Int32.toNatClampNeg v5) < g.2.2 → wX6_told g ((Int32.toNatClampNeg v5)) v6 I J (fun r33 I33 J33 => wX11_mix g v3 (Int32.toInt64 r33) I33 J33 (fun r37 I37 J37 => wX11_digestRules_b17 g ko5 Q n r37 v5 (v6 + 1) I37 J37))))))
set_option maxHeartbeats 4000000 in
set_option maxRecDepth 100000 in
theorem bX11_digestRules_17 {p : Program} {l : Launch} {e : Env} {s : State} {m : MethodId} {args : Array Value} {below : List Frame} {meth : Method} {c : Code} {E : WE} {Q : Int64 → MI → MJ → Prop} {ko5 : Int64 → Int32 → MI → MJ → Prop} (X : Cx E cX11_digestRules 7 RX11 ((Option.some FieldType.long)) p s m args c meth)
    (hk5 : ∀ (v3 : Int64) (v5 : Int32) (I : MI) (J : MJ) (H : Heap) (locs : List Loc) (ls : Array Slot), ko5 v3 v5 I J → Wd E I J s H locs → lv_has ls 7 [(0, .ref (wa E 0 0)), (3, .long v3), (5, .int v5)] → W p l e (rmO 1 23) s m args below meth c H locs 0 0 (MQ below (QL E Q) args s 0 0 (AA E)) (F0 m 5 ls [])) (n : Nat) : ∀ (v3 : Int64) (v5 : Int32) (v6 : Int32) (I : MI) (J : MJ) (H : Heap) (locs : List Loc) (ls : Array Slot), wX11_digestRules_b17 (wg E) ko5 Q n v3 v5 v6 I J → Wd E I J s H locs → lv_has ls 7 [(0, .ref (wa E 0 0)), (3, .long v3), (5, .int v5), (6, .int v6)] → W p l e (rmO 1 23) s m args below meth c H locs 0 0 (MQ below (QL E Q) args s 0 0 (AA E)) (F0 m 17 ls []) := by
  have hx := X.1.1
  have hb := X.1.2.1
  induction n with
  | zero => intro v3 v5 v6 I J H locs ls h hW hl; exact h.elim
  | succ n ih =>
    intro v3 v5 v6 I J H locs ls h hW hl
    refine lv_iload hx hb dX11_digestRules_17 (lv_at hl 3 rfl) ?_
    refine lv_iconst (v := 4) hx hb dX11_digestRules_19 (by decide) ?_
    refine lv_icmp_gt (tgt := 47) hx hb dX11_digestRules_20 (by decide) (fun c20 => ?_) (fun c20 => ?_)
    · have h := h.1 c20
      refine lv_iinc (v := v5 + 1) (lv' := [(5, .int (v5 + 1)), (0, .ref (wa E 0 0)), (3, .long v3), (6, .int v6)]) hx hb dX11_digestRules_47 hl (k := 2) rfl rfl (by decide) rfl (fun ls hl => ?_)
      refine lv_goto (tgt := 5) hx hb dX11_digestRules_50 (by decide) ?_
      exact hk5 v3 (v5 + 1) _ _ _ _ _  h hW (lv_sub hl [1, 2, 0] rfl)
    · have h := h.2 c20
      refine lv_lload_n hx hb dX11_digestRules_23 rfl (lv_at hl 1 rfl) ?_
      refine lv_aload_n hx hb dX11_digestRules_24 rfl (lv_at hl 0 rfl) ?_
      refine r_get X hW 1 (okS hW sc0_0) rfl rfl inX11 (Nat.le_of_ble_eq_true rfl) tw133 rfl dX11_digestRules_25 ?_
      refine lv_iload hx hb dX11_digestRules_28 (lv_at hl 2 rfl) ?_
      refine r_aaR X hW h.1 dX11_digestRules_30 (fun c30 => ?_) (fun c30 => ?_)
      · have h := h.2.1 c30
        refine lv_iload hx hb dX11_digestRules_31 (lv_at hl 3 rfl) ?_
        exact h.elim
      · have h := h.2.2 c30
        refine lv_iload hx hb dX11_digestRules_31 (lv_at hl 3 rfl) ?_
        refine af_i hW (rn_V X hW (As := [.int v6]) (rest := [.long v3]) (okR hW c30) rfl rfl (kX6_told c30 h) mbX6_told tw263 tw264 tw265 rfl hl.1 (Nat.le_of_ble_eq_true rfl) ⟨(Nat.le_of_ble_eq_true rfl), (Nat.le_of_ble_eq_true rfl)⟩ dX11_digestRules_33) (fun r33 I33 J33 H locs h hW => ?_)
        refine lv_i2l hx hb dX11_digestRules_36 rfl ?_
        refine af_l hW (rn_S X hW (As := [.long v3, .long (Int32.toInt64 r33)]) (rest := []) (kX11_mix h) mbX11_mix tw804 tw805 rfl hl.1 (Nat.le_of_ble_eq_true rfl) ⟨(Nat.le_of_ble_eq_true rfl), (Nat.le_of_ble_eq_true rfl)⟩ dX11_digestRules_37) (fun r37 I37 J37 H locs h hW => ?_)
        refine lv_lstore_n (lv' := [(3, .long r37), (0, .ref (wa E 0 0)), (5, .int v5), (6, .int v6)]) hx hb dX11_digestRules_40 rfl hl (by decide) rfl (fun ls hl => ?_)
        refine lv_iinc (v := v6 + 1) (lv' := [(6, .int (v6 + 1)), (3, .long r37), (0, .ref (wa E 0 0)), (5, .int v5)]) hx hb dX11_digestRules_41 hl (k := 3) rfl rfl (by decide) rfl (fun ls hl => ?_)
        refine lv_goto (tgt := 17) hx hb dX11_digestRules_44 (by decide) ?_
        exact ih r37 v5 (v6 + 1) _ _ _ _ _  h hW (lv_sub hl [2, 1, 3, 0] rfl)
def wX11_digestRules_b5 (g : GS) (Q : Int64 → MI → MJ → Prop) : Nat → Int64 → Int32 → MI → MJ → Prop
  | 0, _, _, _, _ => False
  | n + 1, v3, v5, I, J => (((I 0 0 9) ≤ v5 → Q v3 I J) ∧ (¬ (I 0 0 9) ≤ v5 → ∃ n17, wX11_digestRules_b17 g (fun v3 v5 I J => wX11_digestRules_b5 g Q n v3 v5 I J) Q n17 v3 v5 0 I J))
set_option maxHeartbeats 4000000 in
set_option maxRecDepth 100000 in
theorem bX11_digestRules_5 {p : Program} {l : Launch} {e : Env} {s : State} {m : MethodId} {args : Array Value} {below : List Frame} {meth : Method} {c : Code} {E : WE} {Q : Int64 → MI → MJ → Prop} (X : Cx E cX11_digestRules 7 RX11 ((Option.some FieldType.long)) p s m args c meth) (n : Nat) : ∀ (v3 : Int64) (v5 : Int32) (I : MI) (J : MJ) (H : Heap) (locs : List Loc) (ls : Array Slot), wX11_digestRules_b5 (wg E) Q n v3 v5 I J → Wd E I J s H locs → lv_has ls 7 [(0, .ref (wa E 0 0)), (3, .long v3), (5, .int v5)] → W p l e (rmO 1 23) s m args below meth c H locs 0 0 (MQ below (QL E Q) args s 0 0 (AA E)) (F0 m 5 ls []) := by
  have hx := X.1.1
  have hb := X.1.2.1
  induction n with
  | zero => intro v3 v5 I J H locs ls h hW hl; exact h.elim
  | succ n ih =>
    intro v3 v5 I J H locs ls h hW hl
    refine lv_iload hx hb dX11_digestRules_5 (lv_at hl 2 rfl) ?_
    refine lv_aload_n hx hb dX11_digestRules_7 rfl (lv_at hl 0 rfl) ?_
    refine r_get X hW 9 (okS hW sc0_0) rfl rfl inX11 (Nat.le_of_ble_eq_true rfl) tw141 rfl dX11_digestRules_8 ?_
    refine lv_icmp_ge (tgt := 53) hx hb dX11_digestRules_11 (by decide) (fun c11 => ?_) (fun c11 => ?_)
    · have h := h.1 c11
      refine lv_lload_n hx hb dX11_digestRules_53 rfl (lv_at hl 1 rfl) ?_
      exact e_l X hW h dX11_digestRules_54
    · have h := h.2 c11
      refine lv_iconst (v := 0) hx hb dX11_digestRules_14 (by decide) ?_
      refine lv_istore (lv' := [(6, .int 0), (0, .ref (wa E 0 0)), (3, .long v3), (5, .int v5)]) hx hb dX11_digestRules_15 hl (by decide) rfl (fun ls hl => ?_)
      obtain ⟨n17, h⟩ := h
      exact bX11_digestRules_17 X ih n17 v3 v5 0 _ _ _ _ _  h hW (lv_sub hl [1, 2, 3, 0] rfl)
def wX11_digestRules (g : GS) (a1 : Int64) (I : MI) (J : MJ) (Q : Int64 → MI → MJ → Prop) : Prop :=
  ∃ n5, wX11_digestRules_b5 g Q n5 a1 0 I J
theorem mbX11_digestRules : MB yX11_digestRules cX11_digestRules 7 ((Option.some FieldType.long)) 1 := ⟨tw803, tw1, ⟨by decide, by decide⟩, by decide +kernel, by decide +kernel⟩
set_option maxHeartbeats 4000000 in
set_option maxRecDepth 100000 in
theorem kX11_digestRules {l : Launch} {E : WE} {a1 : Int64} {I : MI} {J : MJ} {Q : Int64 → MI → MJ → Prop} (h : wX11_digestRules (wg E) a1 I J Q) : Met l yX11_digestRules (wsM yX11_digestRules cX11_digestRules 7 ((Option.some FieldType.long))) (rmO 1 23) (va_Pc [.ref (wa E 0 0), .long a1] (Wp E I J)) (QL E Q) 0 0 (AA E) := by
  refine m_entry mbX11_digestRules (Nat.le_of_ble_eq_true rfl) ?_
  intro p e s m args below meth c X ls hW hl
  have X : Cx E cX11_digestRules 7 RX11 ((Option.some FieldType.long)) p s m args c meth := X
  have hx := X.1.1
  have hb := X.1.2.1
  have hl : lv_has ls 7 [(0, .ref (wa E 0 0)), (1, .long a1)] := hl
  refine lv_lload_n hx hb dX11_digestRules_0 rfl (lv_at hl 1 rfl) ?_
  refine lv_lstore_n (lv' := [(3, .long a1), (0, .ref (wa E 0 0)), (1, .long a1)]) hx hb dX11_digestRules_1 rfl hl (by decide) rfl (fun ls hl => ?_)
  refine lv_iconst (v := 0) hx hb dX11_digestRules_2 (by decide) ?_
  refine lv_istore (lv' := [(5, .int 0), (3, .long a1), (0, .ref (wa E 0 0)), (1, .long a1)]) hx hb dX11_digestRules_3 hl (by decide) rfl (fun ls hl => ?_)
  obtain ⟨n5, h⟩ := h
  exact bX11_digestRules_5 X n5 a1 0 _ _ _ _ _  h hW (lv_sub hl [2, 1, 0] rfl)
def wX11_digest_b39 (g : GS) (Q : Int64 → MI → MJ → Prop) : Nat → Int64 → Int32 → MI → MJ → Prop
  | 0, _, _, _, _ => False
  | n + 1, v1, v3, I, J => ((4 < v3 → Q v1 I J) ∧ (¬ 4 < v3 → wX11_count g v3 I J (fun r47 I47 J47 => wX11_mix g v1 (Int32.toInt64 r47) I47 J47 (fun r51 I51 J51 => wX11_digest_b39 g Q n r51 (v3 + 1) I51 J51))))
set_option maxHeartbeats 4000000 in
set_option maxRecDepth 100000 in
theorem bX11_digest_39 {p : Program} {l : Launch} {e : Env} {s : State} {m : MethodId} {args : Array Value} {below : List Frame} {meth : Method} {c : Code} {E : WE} {Q : Int64 → MI → MJ → Prop} (X : Cx E cX11_digest 4 RX11 ((Option.some FieldType.long)) p s m args c meth) (n : Nat) : ∀ (v1 : Int64) (v3 : Int32) (I : MI) (J : MJ) (H : Heap) (locs : List Loc) (ls : Array Slot), wX11_digest_b39 (wg E) Q n v1 v3 I J → Wd E I J s H locs → lv_has ls 4 [(0, .ref (wa E 0 0)), (1, .long v1), (3, .int v3)] → W p l e (rmO 7 172) s m args below meth c H locs 0 0 (MQ below (QL E Q) args s 0 0 (AA E)) (F0 m 39 ls []) := by
  have hx := X.1.1
  have hb := X.1.2.1
  induction n with
  | zero => intro v1 v3 I J H locs ls h hW hl; exact h.elim
  | succ n ih =>
    intro v1 v3 I J H locs ls h hW hl
    refine lv_iload_n hx hb dX11_digest_39 rfl (lv_at hl 2 rfl) ?_
    refine lv_iconst (v := 4) hx hb dX11_digest_40 (by decide) ?_
    refine lv_icmp_gt (tgt := 61) hx hb dX11_digest_41 (by decide) (fun c41 => ?_) (fun c41 => ?_)
    · have h := h.1 c41
      refine lv_lload_n hx hb dX11_digest_61 rfl (lv_at hl 1 rfl) ?_
      exact e_l X hW h dX11_digest_62
    · have h := h.2 c41
      refine lv_lload_n hx hb dX11_digest_44 rfl (lv_at hl 1 rfl) ?_
      refine lv_aload_n hx hb dX11_digest_45 rfl (lv_at hl 0 rfl) ?_
      refine lv_iload_n hx hb dX11_digest_46 rfl (lv_at hl 2 rfl) ?_
      refine af_i hW (rn_V X hW (As := [.int v3]) (rest := [.long v1]) (okS hW sc0_0) rfl rfl (kX11_count h) mbX11_count tw827 tw792 tw793 rfl hl.1 (Nat.le_of_ble_eq_true rfl) ⟨(Nat.le_of_ble_eq_true rfl), (Nat.le_of_ble_eq_true rfl)⟩ dX11_digest_47) (fun r47 I47 J47 H locs h hW => ?_)
      refine lv_i2l hx hb dX11_digest_50 rfl ?_
      refine af_l hW (rn_S X hW (As := [.long v1, .long (Int32.toInt64 r47)]) (rest := []) (kX11_mix h) mbX11_mix tw804 tw805 rfl hl.1 (Nat.le_of_ble_eq_true rfl) ⟨(Nat.le_of_ble_eq_true rfl), (Nat.le_of_ble_eq_true rfl)⟩ dX11_digest_51) (fun r51 I51 J51 H locs h hW => ?_)
      refine lv_lstore_n (lv' := [(1, .long r51), (0, .ref (wa E 0 0)), (3, .int v3)]) hx hb dX11_digest_54 rfl hl (by decide) rfl (fun ls hl => ?_)
      refine lv_iinc (v := v3 + 1) (lv' := [(3, .int (v3 + 1)), (1, .long r51), (0, .ref (wa E 0 0))]) hx hb dX11_digest_55 hl (k := 2) rfl rfl (by decide) rfl (fun ls hl => ?_)
      refine lv_goto (tgt := 39) hx hb dX11_digest_58 (by decide) ?_
      exact ih r51 (v3 + 1) _ _ _ _ _  h hW (lv_sub hl [2, 1, 0] rfl)
def wX11_digest (g : GS) (I : MI) (J : MJ) (Q : Int64 → MI → MJ → Prop) : Prop :=
  wX11_digestRules g 487 I J (fun r6 I6 J6 => wX11_digestPeople g r6 I6 J6 (fun r12 I12 J12 => wX11_digestCandidates g r12 I12 J12 (fun r18 I18 J18 => wX11_digestIn g r18 I18 J18 (fun r24 I24 J24 => wX4_digestLetters g r24 I24 J24 (fun r33 I33 J33 => ∃ n39, wX11_digest_b39 g Q n39 r33 0 I33 J33)))))
theorem mbX11_digest : MB yX11_digest cX11_digest 4 ((Option.some FieldType.long)) 0 := ⟨tw798, tw1, ⟨by decide, by decide⟩, by decide +kernel, by decide +kernel⟩
set_option maxHeartbeats 4000000 in
set_option maxRecDepth 100000 in
theorem kX11_digest {l : Launch} {E : WE} {I : MI} {J : MJ} {Q : Int64 → MI → MJ → Prop} (h : wX11_digest (wg E) I J Q) : Met l yX11_digest (wsM yX11_digest cX11_digest 4 ((Option.some FieldType.long))) (rmO 7 172) (va_Pc [.ref (wa E 0 0)] (Wp E I J)) (QL E Q) 0 0 (AA E) := by
  refine m_entry mbX11_digest (Nat.le_of_ble_eq_true rfl) ?_
  intro p e s m args below meth c X ls hW hl
  have X : Cx E cX11_digest 4 RX11 ((Option.some FieldType.long)) p s m args c meth := X
  have hx := X.1.1
  have hb := X.1.2.1
  have hl : lv_has ls 4 [(0, .ref (wa E 0 0))] := hl
  refine lv_ldc2 hx hb X.1.2.2.2.1 (X.1.2.2.2.2 _ tw799) dX11_digest_0 ?_
  refine lv_lstore_n (lv' := [(1, .long 487), (0, .ref (wa E 0 0))]) hx hb dX11_digest_3 rfl hl (by decide) rfl (fun ls hl => ?_)
  refine lv_aload_n hx hb dX11_digest_4 rfl (lv_at hl 1 rfl) ?_
  refine lv_lload_n hx hb dX11_digest_5 rfl (lv_at hl 0 rfl) ?_
  refine af_l hW (rn_V X hW (As := [.long 487]) (rest := []) (okS hW sc0_0) rfl rfl (kX11_digestRules h) mbX11_digestRules tw800 tw802 tp21 rfl hl.1 (Nat.le_of_ble_eq_true rfl) ⟨(Nat.le_of_ble_eq_true rfl), (Nat.le_of_ble_eq_true rfl)⟩ dX11_digest_6) (fun r6 I6 J6 H locs h hW => ?_)
  refine lv_lstore_n (lv' := [(1, .long r6), (0, .ref (wa E 0 0))]) hx hb dX11_digest_9 rfl hl (by decide) rfl (fun ls hl => ?_)
  refine lv_aload_n hx hb dX11_digest_10 rfl (lv_at hl 1 rfl) ?_
  refine lv_lload_n hx hb dX11_digest_11 rfl (lv_at hl 0 rfl) ?_
  refine af_l hW (rn_V X hW (As := [.long r6]) (rest := []) (okS hW sc0_0) rfl rfl (kX11_digestPeople h) mbX11_digestPeople tw808 tw810 tp22 rfl hl.1 (Nat.le_of_ble_eq_true rfl) ⟨(Nat.le_of_ble_eq_true rfl), (Nat.le_of_ble_eq_true rfl)⟩ dX11_digest_12) (fun r12 I12 J12 H locs h hW => ?_)
  refine lv_lstore_n (lv' := [(1, .long r12), (0, .ref (wa E 0 0))]) hx hb dX11_digest_15 rfl hl (by decide) rfl (fun ls hl => ?_)
  refine lv_aload_n hx hb dX11_digest_16 rfl (lv_at hl 1 rfl) ?_
  refine lv_lload_n hx hb dX11_digest_17 rfl (lv_at hl 0 rfl) ?_
  refine af_l hW (rn_V X hW (As := [.long r12]) (rest := []) (okS hW sc0_0) rfl rfl (kX11_digestCandidates h) mbX11_digestCandidates tw813 tw815 tp23 rfl hl.1 (Nat.le_of_ble_eq_true rfl) ⟨(Nat.le_of_ble_eq_true rfl), (Nat.le_of_ble_eq_true rfl)⟩ dX11_digest_18) (fun r18 I18 J18 H locs h hW => ?_)
  refine lv_lstore_n (lv' := [(1, .long r18), (0, .ref (wa E 0 0))]) hx hb dX11_digest_21 rfl hl (by decide) rfl (fun ls hl => ?_)
  refine lv_aload_n hx hb dX11_digest_22 rfl (lv_at hl 1 rfl) ?_
  refine lv_lload_n hx hb dX11_digest_23 rfl (lv_at hl 0 rfl) ?_
  refine af_l hW (rn_V X hW (As := [.long r18]) (rest := []) (okS hW sc0_0) rfl rfl (kX11_digestIn h) mbX11_digestIn tw818 tw820 tp24 rfl hl.1 (Nat.le_of_ble_eq_true rfl) ⟨(Nat.le_of_ble_eq_true rfl), (Nat.le_of_ble_eq_true rfl)⟩ dX11_digest_24) (fun r24 I24 J24 H locs h hW => ?_)
  refine lv_lstore_n (lv' := [(1, .long r24), (0, .ref (wa E 0 0))]) hx hb dX11_digest_27 rfl hl (by decide) rfl (fun ls hl => ?_)
  refine lv_aload_n hx hb dX11_digest_28 rfl (lv_at hl 1 rfl) ?_
  refine r_get X hW 0 (okS hW sc0_0) rfl rfl inX11 (Nat.le_of_ble_eq_true rfl) tw132 rfl dX11_digest_29 ?_
  refine lv_lload_n hx hb dX11_digest_32 rfl (lv_at hl 0 rfl) ?_
  refine af_l hW (rn_V X hW (As := [.long r24]) (rest := []) (okS hW sc1_0) rfl rfl (kX4_digestLetters h) mbX4_digestLetters tw822 tw823 tw824 rfl hl.1 (Nat.le_of_ble_eq_true rfl) ⟨(Nat.le_of_ble_eq_true rfl), (Nat.le_of_ble_eq_true rfl)⟩ dX11_digest_33) (fun r33 I33 J33 H locs h hW => ?_)
  refine lv_lstore_n (lv' := [(1, .long r33), (0, .ref (wa E 0 0))]) hx hb dX11_digest_36 rfl hl (by decide) rfl (fun ls hl => ?_)
  refine lv_iconst (v := 0) hx hb dX11_digest_37 (by decide) ?_
  refine lv_istore_n (lv' := [(3, .int 0), (1, .long r33), (0, .ref (wa E 0 0))]) hx hb dX11_digest_38 rfl hl (by decide) rfl (fun ls hl => ?_)
  obtain ⟨n39, h⟩ := h
  exact bX11_digest_39 X n39 r33 0 _ _ _ _ _  h hW (lv_sub hl [2, 1, 0] rfl)
