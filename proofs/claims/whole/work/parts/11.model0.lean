def wX12_within (g : GS) (a0 : Int32) (a1 : Int32) (a2 : Int32) (I : MI) (J : MJ) (Q : Int32 → MI → MJ → Prop) : Prop :=
  ((a0 < a1 → Q 0 I J) ∧ (¬ a0 < a1 → ((a2 < a0 → Q 0 I J) ∧ (¬ a2 < a0 → Q 1 I J))))
theorem mbX12_within : MB yX12_within cX12_within 3 ((Option.some FieldType.boolean)) 3 := ⟨tw971, tw7, ⟨by decide, by decide⟩, by decide +kernel, by decide +kernel⟩
set_option maxHeartbeats 4000000 in
set_option maxRecDepth 100000 in
theorem kX12_within {l : Launch} {E : WE} {a0 : Int32} {a1 : Int32} {a2 : Int32} {I : MI} {J : MJ} {Q : Int32 → MI → MJ → Prop} (h : wX12_within (wg E) a0 a1 a2 I J Q) : Met l yX12_within (wsM yX12_within cX12_within 3 ((Option.some FieldType.boolean))) (rmO 0 0) (va_Pc [.int a0, .int a1, .int a2] (Wp E I J)) (QI E Q) 0 0 (AA E) := by
  refine m_entry mbX12_within (Nat.le_of_ble_eq_true rfl) ?_
  intro p e s m args below meth c X ls hW hl
  have X : Cx E cX12_within 3 RX12 ((Option.some FieldType.boolean)) p s m args c meth := X
  have hx := X.1.1
  have hb := X.1.2.1
  have hl : lv_has ls 3 [(0, .int a0), (1, .int a1), (2, .int a2)] := hl
  refine lv_iload_n hx hb dX12_within_0 rfl (lv_at hl 0 rfl) ?_
  refine lv_iload_n hx hb dX12_within_1 rfl (lv_at hl 1 rfl) ?_
  refine lv_icmp_lt (tgt := 14) hx hb dX12_within_2 (by decide) (fun c2 => ?_) (fun c2 => ?_)
  · have h := h.1 c2
    refine lv_iconst (v := 0) hx hb dX12_within_14 (by decide) ?_
    exact e_z X hW rfl h dX12_within_15
  · have h := h.2 c2
    refine lv_iload_n hx hb dX12_within_5 rfl (lv_at hl 0 rfl) ?_
    refine lv_iload_n hx hb dX12_within_6 rfl (lv_at hl 2 rfl) ?_
    refine lv_icmp_gt (tgt := 14) hx hb dX12_within_7 (by decide) (fun c7 => ?_) (fun c7 => ?_)
    · have h := h.1 c7
      refine lv_iconst (v := 0) hx hb dX12_within_14 (by decide) ?_
      exact e_z X hW rfl h dX12_within_15
    · have h := h.2 c7
      refine lv_iconst (v := 1) hx hb dX12_within_10 (by decide) ?_
      refine lv_goto (tgt := 15) hx hb dX12_within_11 (by decide) ?_
      exact e_z X hW rfl h dX12_within_15
def wX12_has (g : GS) (a0 : Int32) (a1 : Int32) (I : MI) (J : MJ) (Q : Int32 → MI → MJ → Prop) : Prop :=
  ((¬ ((a0 >>> (a1 &&& 31)) &&& 1) = 1 → Q 0 I J) ∧ (((a0 >>> (a1 &&& 31)) &&& 1) = 1 → Q 1 I J))
theorem mbX12_has : MB yX12_has cX12_has 2 ((Option.some FieldType.boolean)) 2 := ⟨tw1057, tw7, ⟨by decide, by decide⟩, by decide +kernel, by decide +kernel⟩
set_option maxHeartbeats 4000000 in
set_option maxRecDepth 100000 in
theorem kX12_has {l : Launch} {E : WE} {a0 : Int32} {a1 : Int32} {I : MI} {J : MJ} {Q : Int32 → MI → MJ → Prop} (h : wX12_has (wg E) a0 a1 I J Q) : Met l yX12_has (wsM yX12_has cX12_has 2 ((Option.some FieldType.boolean))) (rmO 0 0) (va_Pc [.int a0, .int a1] (Wp E I J)) (QI E Q) 0 0 (AA E) := by
  refine m_entry mbX12_has (Nat.le_of_ble_eq_true rfl) ?_
  intro p e s m args below meth c X ls hW hl
  have X : Cx E cX12_has 2 RX12 ((Option.some FieldType.boolean)) p s m args c meth := X
  have hx := X.1.1
  have hb := X.1.2.1
  have hl : lv_has ls 2 [(0, .int a0), (1, .int a1)] := hl
  refine lv_iload_n hx hb dX12_has_0 rfl (lv_at hl 0 rfl) ?_
  refine lv_iload_n hx hb dX12_has_1 rfl (lv_at hl 1 rfl) ?_
  refine lv_ishr hx hb dX12_has_2 ?_
  refine lv_iconst (v := 1) hx hb dX12_has_3 (by decide) ?_
  refine lv_iand hx hb dX12_has_4 ?_
  refine lv_iconst (v := 1) hx hb dX12_has_5 (by decide) ?_
  refine lv_icmp_ne (tgt := 13) hx hb dX12_has_6 (by decide) (fun c6 => ?_) (fun c6 => ?_)
  · have h := h.1 c6
    refine lv_iconst (v := 0) hx hb dX12_has_13 (by decide) ?_
    exact e_z X hW rfl h dX12_has_14
  · have h := h.2 c6
    refine lv_iconst (v := 1) hx hb dX12_has_9 (by decide) ?_
    refine lv_goto (tgt := 14) hx hb dX12_has_10 (by decide) ?_
    exact e_z X hW rfl h dX12_has_14
def wX12_ones_b4 (g : GS) (Q : Int32 → MI → MJ → Prop) : Nat → Int32 → Int32 → MI → MJ → Prop
  | 0, _, _, _, _ => False
  | n + 1, v1, v2, I, J => ((v2 = 0 → Q v1 I J) ∧ (¬ v2 = 0 → wX12_ones_b4 g Q n (v1 + 1) (v2 &&& (v2 - 1)) I J))
set_option maxHeartbeats 4000000 in
set_option maxRecDepth 100000 in
theorem bX12_ones_4 {p : Program} {l : Launch} {e : Env} {s : State} {m : MethodId} {args : Array Value} {below : List Frame} {meth : Method} {c : Code} {E : WE} {Q : Int32 → MI → MJ → Prop} (X : Cx E cX12_ones 3 RX12 ((Option.some FieldType.int)) p s m args c meth) (n : Nat) : ∀ (v1 : Int32) (v2 : Int32) (I : MI) (J : MJ) (H : Heap) (locs : List Loc) (ls : Array Slot), wX12_ones_b4 (wg E) Q n v1 v2 I J → Wd E I J s H locs → lv_has ls 3 [(1, .int v1), (2, .int v2)] → W p l e (rmO 0 0) s m args below meth c H locs 0 0 (MQ below (QI E Q) args s 0 0 (AA E)) (F0 m 4 ls []) := by
  have hx := X.1.1
  have hb := X.1.2.1
  induction n with
  | zero => intro v1 v2 I J H locs ls h hW hl; exact h.elim
  | succ n ih =>
    intro v1 v2 I J H locs ls h hW hl
    refine lv_iload_n hx hb dX12_ones_4 rfl (lv_at hl 1 rfl) ?_
    refine lv_if_eq (tgt := 20) hx hb dX12_ones_5 (by decide) (fun c5 => ?_) (fun c5 => ?_)
    · have h := h.1 c5
      refine lv_iload_n hx hb dX12_ones_20 rfl (lv_at hl 0 rfl) ?_
      exact e_i X hW h dX12_ones_21
    · have h := h.2 c5
      refine lv_iinc (v := v1 + 1) (lv' := [(1, .int (v1 + 1)), (2, .int v2)]) hx hb dX12_ones_8 hl (k := 0) rfl rfl (by decide) rfl (fun ls hl => ?_)
      refine lv_iload_n hx hb dX12_ones_11 rfl (lv_at hl 1 rfl) ?_
      refine lv_iload_n hx hb dX12_ones_12 rfl (lv_at hl 1 rfl) ?_
      refine lv_iconst (v := 1) hx hb dX12_ones_13 (by decide) ?_
      refine lv_isub hx hb dX12_ones_14 ?_
      refine lv_iand hx hb dX12_ones_15 ?_
      refine lv_istore_n (lv' := [(2, .int (v2 &&& (v2 - 1))), (1, .int (v1 + 1))]) hx hb dX12_ones_16 rfl hl (by decide) rfl (fun ls hl => ?_)
      refine lv_goto (tgt := 4) hx hb dX12_ones_17 (by decide) ?_
      exact ih (v1 + 1) (v2 &&& (v2 - 1)) _ _ _ _ _  h hW (lv_sub hl [1, 0] rfl)
def wX12_ones (g : GS) (a0 : Int32) (I : MI) (J : MJ) (Q : Int32 → MI → MJ → Prop) : Prop :=
  ∃ n4, wX12_ones_b4 g Q n4 0 a0 I J
theorem mbX12_ones : MB yX12_ones cX12_ones 3 ((Option.some FieldType.int)) 1 := ⟨tw1060, tw7, ⟨by decide, by decide⟩, by decide +kernel, by decide +kernel⟩
set_option maxHeartbeats 4000000 in
set_option maxRecDepth 100000 in
theorem kX12_ones {l : Launch} {E : WE} {a0 : Int32} {I : MI} {J : MJ} {Q : Int32 → MI → MJ → Prop} (h : wX12_ones (wg E) a0 I J Q) : Met l yX12_ones (wsM yX12_ones cX12_ones 3 ((Option.some FieldType.int))) (rmO 0 0) (va_Pc [.int a0] (Wp E I J)) (QI E Q) 0 0 (AA E) := by
  refine m_entry mbX12_ones (Nat.le_of_ble_eq_true rfl) ?_
  intro p e s m args below meth c X ls hW hl
  have X : Cx E cX12_ones 3 RX12 ((Option.some FieldType.int)) p s m args c meth := X
  have hx := X.1.1
  have hb := X.1.2.1
  have hl : lv_has ls 3 [(0, .int a0)] := hl
  refine lv_iconst (v := 0) hx hb dX12_ones_0 (by decide) ?_
  refine lv_istore_n (lv' := [(1, .int 0), (0, .int a0)]) hx hb dX12_ones_1 rfl hl (by decide) rfl (fun ls hl => ?_)
  refine lv_iload_n hx hb dX12_ones_2 rfl (lv_at hl 1 rfl) ?_
  refine lv_istore_n (lv' := [(2, .int a0), (1, .int 0), (0, .int a0)]) hx hb dX12_ones_3 rfl hl (by decide) rfl (fun ls hl => ?_)
  obtain ⟨n4, h⟩ := h
  exact bX12_ones_4 X n4 0 a0 _ _ _ _ _  h hW (lv_sub hl [1, 0] rfl)
def wX12_isPart (g : GS) (a0 : Int32) (I : MI) (J : MJ) (Q : Int32 → MI → MJ → Prop) : Prop :=
  wX12_within g a0 0 1 I J (fun r3 I3 J3 => isB r3 ∧ Q r3 I3 J3)
theorem mbX12_isPart : MB yX12_isPart cX12_isPart 1 ((Option.some FieldType.boolean)) 1 := ⟨tw1075, tw7, ⟨by decide, by decide⟩, by decide +kernel, by decide +kernel⟩
set_option maxHeartbeats 4000000 in
set_option maxRecDepth 100000 in
theorem kX12_isPart {l : Launch} {E : WE} {a0 : Int32} {I : MI} {J : MJ} {Q : Int32 → MI → MJ → Prop} (h : wX12_isPart (wg E) a0 I J Q) : Met l yX12_isPart (wsM yX12_isPart cX12_isPart 1 ((Option.some FieldType.boolean))) (rmO 1 22) (va_Pc [.int a0] (Wp E I J)) (QI E Q) 0 0 (AA E) := by
  refine m_entry mbX12_isPart (Nat.le_of_ble_eq_true rfl) ?_
  intro p e s m args below meth c X ls hW hl
  have X : Cx E cX12_isPart 1 RX12 ((Option.some FieldType.boolean)) p s m args c meth := X
  have hx := X.1.1
  have hb := X.1.2.1
  have hl : lv_has ls 1 [(0, .int a0)] := hl
  refine lv_iload_n hx hb dX12_isPart_0 rfl (lv_at hl 0 rfl) ?_
  refine lv_iconst (v := 0) hx hb dX12_isPart_1 (by decide) ?_
  refine lv_iconst (v := 1) hx hb dX12_isPart_2 (by decide) ?_
  refine af_i hW (rn_S X hW (As := [.int a0, .int 0, .int 1]) (rest := []) (kX12_within h) mbX12_within tw969 tw970 rfl hl.1 (Nat.le_of_ble_eq_true rfl) ⟨(Nat.le_of_ble_eq_true rfl), (Nat.le_of_ble_eq_true rfl)⟩ dX12_isPart_3) (fun r3 I3 J3 H locs h hW => ?_)
  exact e_z X hW (isB_n h.1) h.2 dX12_isPart_6
def wX12_lowest_b6 (g : GS) (Q : Int64 → MI → MJ → Prop) : Nat → Int64 → Int64 → Int32 → Int64 → Int64 → MI → MJ → Prop
  | 0, _, _, _, _, _, _, _ => False
  | n + 1, v0, v2, v4, v5, v7, I, J => (((lg_cmp v7 0) = 0 → ((¬ v4 = 0 → ¬ v5 = 0 ∧ (Q (v2 / v5) I J)) ∧ (v4 = 0 → ¬ v5 = 0 ∧ (Q (v0 / v5) I J)))) ∧ (¬ (lg_cmp v7 0) = 0 → ¬ v7 = 0 ∧ (wX12_lowest_b6 g Q n v0 v2 v4 v7 (v5 - v5 / v7 * v7) I J)))
set_option maxHeartbeats 4000000 in
set_option maxRecDepth 100000 in
theorem bX12_lowest_6 {p : Program} {l : Launch} {e : Env} {s : State} {m : MethodId} {args : Array Value} {below : List Frame} {meth : Method} {c : Code} {E : WE} {Q : Int64 → MI → MJ → Prop} (X : Cx E cX12_lowest 11 RX12 ((Option.some FieldType.long)) p s m args c meth) (n : Nat) : ∀ (v0 : Int64) (v2 : Int64) (v4 : Int32) (v5 : Int64) (v7 : Int64) (I : MI) (J : MJ) (H : Heap) (locs : List Loc) (ls : Array Slot), wX12_lowest_b6 (wg E) Q n v0 v2 v4 v5 v7 I J → Wd E I J s H locs → lv_has ls 11 [(0, .long v0), (2, .long v2), (4, .int v4), (5, .long v5), (7, .long v7)] → W p l e (rmO 0 0) s m args below meth c H locs 0 0 (MQ below (QL E Q) args s 0 0 (AA E)) (F0 m 6 ls []) := by
  have hx := X.1.1
  have hb := X.1.2.1
  induction n with
  | zero => intro v0 v2 v4 v5 v7 I J H locs ls h hW hl; exact h.elim
  | succ n ih =>
    intro v0 v2 v4 v5 v7 I J H locs ls h hW hl
    refine lv_lload hx hb dX12_lowest_6 (lv_at hl 4 rfl) ?_
    refine lv_lconst (v := 0) hx hb dX12_lowest_8 (by decide) ?_
    refine W.lcmp hx hb dX12_lowest_9 ?_
    refine lv_if_eq (tgt := 31) hx hb dX12_lowest_10 (by decide) (fun c10 => ?_) (fun c10 => ?_)
    · have h := h.1 c10
      refine lv_iload hx hb dX12_lowest_31 (lv_at hl 2 rfl) ?_
      refine lv_if_ne (tgt := 43) hx hb dX12_lowest_33 (by decide) (fun c33 => ?_) (fun c33 => ?_)
      · have h := h.1 c33
        refine lv_lload_n hx hb dX12_lowest_43 rfl (lv_at hl 1 rfl) ?_
        refine lv_lload hx hb dX12_lowest_44 (lv_at hl 3 rfl) ?_
        refine lv_ldiv hx hb dX12_lowest_46 h.1 ?_
        have h := h.2
        exact e_l X hW h dX12_lowest_47
      · have h := h.2 c33
        refine lv_lload_n hx hb dX12_lowest_36 rfl (lv_at hl 0 rfl) ?_
        refine lv_lload hx hb dX12_lowest_37 (lv_at hl 3 rfl) ?_
        refine lv_ldiv hx hb dX12_lowest_39 h.1 ?_
        have h := h.2
        refine lv_goto (tgt := 47) hx hb dX12_lowest_40 (by decide) ?_
        exact e_l X hW h dX12_lowest_47
    · have h := h.2 c10
      refine lv_lload hx hb dX12_lowest_13 (lv_at hl 3 rfl) ?_
      refine lv_lload hx hb dX12_lowest_15 (lv_at hl 4 rfl) ?_
      refine lv_lrem hx hb dX12_lowest_17 h.1 ?_
      have h := h.2
      refine lv_lstore (lv' := [(9, .long (v5 - v5 / v7 * v7)), (0, .long v0), (2, .long v2), (4, .int v4), (5, .long v5), (7, .long v7)]) hx hb dX12_lowest_18 hl (by decide) rfl (fun ls hl => ?_)
      refine lv_lload hx hb dX12_lowest_20 (lv_at hl 5 rfl) ?_
      refine lv_lstore (lv' := [(5, .long v7), (9, .long (v5 - v5 / v7 * v7)), (0, .long v0), (2, .long v2), (4, .int v4), (7, .long v7)]) hx hb dX12_lowest_22 hl (by decide) rfl (fun ls hl => ?_)
      refine lv_lload hx hb dX12_lowest_24 (lv_at hl 1 rfl) ?_
      refine lv_lstore (lv' := [(7, .long (v5 - v5 / v7 * v7)), (5, .long v7), (9, .long (v5 - v5 / v7 * v7)), (0, .long v0), (2, .long v2), (4, .int v4)]) hx hb dX12_lowest_26 hl (by decide) rfl (fun ls hl => ?_)
      refine lv_goto (tgt := 6) hx hb dX12_lowest_28 (by decide) ?_
      exact ih v0 v2 v4 v7 (v5 - v5 / v7 * v7) _ _ _ _ _  h hW (lv_sub hl [3, 4, 5, 1, 0] rfl)
def wX12_lowest (g : GS) (a0 : Int64) (a2 : Int64) (a4 : Int32) (I : MI) (J : MJ) (Q : Int64 → MI → MJ → Prop) : Prop :=
  ∃ n6, wX12_lowest_b6 g Q n6 a0 a2 a4 a0 a2 I J
theorem mbX12_lowest : MB yX12_lowest cX12_lowest 11 ((Option.some FieldType.long)) 3 := ⟨tw1086, tw7, ⟨by decide, by decide⟩, by decide +kernel, by decide +kernel⟩
set_option maxHeartbeats 4000000 in
set_option maxRecDepth 100000 in
theorem kX12_lowest {l : Launch} {E : WE} {a0 : Int64} {a2 : Int64} {a4 : Int32} {I : MI} {J : MJ} {Q : Int64 → MI → MJ → Prop} (h : wX12_lowest (wg E) a0 a2 a4 I J Q) : Met l yX12_lowest (wsM yX12_lowest cX12_lowest 11 ((Option.some FieldType.long))) (rmO 0 0) (va_Pc [.long a0, .long a2, .int a4] (Wp E I J)) (QL E Q) 0 0 (AA E) := by
  refine m_entry mbX12_lowest (Nat.le_of_ble_eq_true rfl) ?_
  intro p e s m args below meth c X ls hW hl
  have X : Cx E cX12_lowest 11 RX12 ((Option.some FieldType.long)) p s m args c meth := X
  have hx := X.1.1
  have hb := X.1.2.1
  have hl : lv_has ls 11 [(0, .long a0), (2, .long a2), (4, .int a4)] := hl
  refine lv_lload_n hx hb dX12_lowest_0 rfl (lv_at hl 0 rfl) ?_
  refine lv_lstore (lv' := [(5, .long a0), (0, .long a0), (2, .long a2), (4, .int a4)]) hx hb dX12_lowest_1 hl (by decide) rfl (fun ls hl => ?_)
  refine lv_lload_n hx hb dX12_lowest_3 rfl (lv_at hl 2 rfl) ?_
  refine lv_lstore (lv' := [(7, .long a2), (5, .long a0), (0, .long a0), (2, .long a2), (4, .int a4)]) hx hb dX12_lowest_4 hl (by decide) rfl (fun ls hl => ?_)
  obtain ⟨n6, h⟩ := h
  exact bX12_lowest_6 X n6 a0 a2 a4 a0 a2 _ _ _ _ _  h hW (lv_sub hl [2, 3, 4, 1, 0] rfl)
def wX12_tens_b4 (g : GS) (Q : Int64 → MI → MJ → Prop) : Nat → Int32 → Int64 → Int32 → MI → MJ → Prop
  | 0, _, _, _, _, _ => False
  | n + 1, v0, v1, v3, I, J => ((v0 ≤ v3 → Q v1 I J) ∧ (¬ v0 ≤ v3 → wX12_tens_b4 g Q n v0 (v1 * 10) (v3 + 1) I J))
set_option maxHeartbeats 4000000 in
set_option maxRecDepth 100000 in
theorem bX12_tens_4 {p : Program} {l : Launch} {e : Env} {s : State} {m : MethodId} {args : Array Value} {below : List Frame} {meth : Method} {c : Code} {E : WE} {Q : Int64 → MI → MJ → Prop} (X : Cx E cX12_tens 4 RX12 ((Option.some FieldType.long)) p s m args c meth) (n : Nat) : ∀ (v0 : Int32) (v1 : Int64) (v3 : Int32) (I : MI) (J : MJ) (H : Heap) (locs : List Loc) (ls : Array Slot), wX12_tens_b4 (wg E) Q n v0 v1 v3 I J → Wd E I J s H locs → lv_has ls 4 [(0, .int v0), (1, .long v1), (3, .int v3)] → W p l e (rmO 0 0) s m args below meth c H locs 0 0 (MQ below (QL E Q) args s 0 0 (AA E)) (F0 m 4 ls []) := by
  have hx := X.1.1
  have hb := X.1.2.1
  induction n with
  | zero => intro v0 v1 v3 I J H locs ls h hW hl; exact h.elim
  | succ n ih =>
    intro v0 v1 v3 I J H locs ls h hW hl
    refine lv_iload_n hx hb dX12_tens_4 rfl (lv_at hl 2 rfl) ?_
    refine lv_iload_n hx hb dX12_tens_5 rfl (lv_at hl 0 rfl) ?_
    refine lv_icmp_ge (tgt := 21) hx hb dX12_tens_6 (by decide) (fun c6 => ?_) (fun c6 => ?_)
    · have h := h.1 c6
      refine lv_lload_n hx hb dX12_tens_21 rfl (lv_at hl 1 rfl) ?_
      exact e_l X hW h dX12_tens_22
    · have h := h.2 c6
      refine lv_lload_n hx hb dX12_tens_9 rfl (lv_at hl 1 rfl) ?_
      refine lv_ldc2 hx hb X.1.2.2.2.1 (X.1.2.2.2.2 _ tw1083) dX12_tens_10 ?_
      refine lv_lmul hx hb dX12_tens_13 ?_
      refine lv_lstore_n (lv' := [(1, .long (v1 * 10)), (0, .int v0), (3, .int v3)]) hx hb dX12_tens_14 rfl hl (by decide) rfl (fun ls hl => ?_)
      refine lv_iinc (v := v3 + 1) (lv' := [(3, .int (v3 + 1)), (1, .long (v1 * 10)), (0, .int v0)]) hx hb dX12_tens_15 hl (k := 2) rfl rfl (by decide) rfl (fun ls hl => ?_)
      refine lv_goto (tgt := 4) hx hb dX12_tens_18 (by decide) ?_
      exact ih v0 (v1 * 10) (v3 + 1) _ _ _ _ _  h hW (lv_sub hl [2, 1, 0] rfl)
def wX12_tens (g : GS) (a0 : Int32) (I : MI) (J : MJ) (Q : Int64 → MI → MJ → Prop) : Prop :=
  ∃ n4, wX12_tens_b4 g Q n4 a0 1 0 I J
theorem mbX12_tens : MB yX12_tens cX12_tens 4 ((Option.some FieldType.long)) 1 := ⟨tw1082, tw7, ⟨by decide, by decide⟩, by decide +kernel, by decide +kernel⟩
set_option maxHeartbeats 4000000 in
set_option maxRecDepth 100000 in
theorem kX12_tens {l : Launch} {E : WE} {a0 : Int32} {I : MI} {J : MJ} {Q : Int64 → MI → MJ → Prop} (h : wX12_tens (wg E) a0 I J Q) : Met l yX12_tens (wsM yX12_tens cX12_tens 4 ((Option.some FieldType.long))) (rmO 0 0) (va_Pc [.int a0] (Wp E I J)) (QL E Q) 0 0 (AA E) := by
  refine m_entry mbX12_tens (Nat.le_of_ble_eq_true rfl) ?_
  intro p e s m args below meth c X ls hW hl
  have X : Cx E cX12_tens 4 RX12 ((Option.some FieldType.long)) p s m args c meth := X
  have hx := X.1.1
  have hb := X.1.2.1
  have hl : lv_has ls 4 [(0, .int a0)] := hl
  refine lv_lconst (v := 1) hx hb dX12_tens_0 (by decide) ?_
  refine lv_lstore_n (lv' := [(1, .long 1), (0, .int a0)]) hx hb dX12_tens_1 rfl hl (by decide) rfl (fun ls hl => ?_)
  refine lv_iconst (v := 0) hx hb dX12_tens_2 (by decide) ?_
  refine lv_istore_n (lv' := [(3, .int 0), (1, .long 1), (0, .int a0)]) hx hb dX12_tens_3 rfl hl (by decide) rfl (fun ls hl => ?_)
  obtain ⟨n4, h⟩ := h
  exact bX12_tens_4 X n4 a0 1 0 _ _ _ _ _  h hW (lv_sub hl [2, 1, 0] rfl)
def wX12_letters_b77 (g : GS) (ko8 : Int64 → Int32 → Int32 → Int32 → MI → MJ → Prop) (Q : Int32 → MI → MJ → Prop) (v1 : Int64) (v4 : Int32) (v5 : Int32) (t0 : Int32) (t1 : Int32) (I : MI) (J : MJ) : Prop :=
  ko8 v1 (t1 + t0) v4 (v5 + 1) I J
set_option maxHeartbeats 4000000 in
set_option maxRecDepth 100000 in
theorem bX12_letters_77 {p : Program} {l : Launch} {e : Env} {s : State} {m : MethodId} {args : Array Value} {below : List Frame} {meth : Method} {c : Code} {E : WE} {Q : Int32 → MI → MJ → Prop} {ko8 : Int64 → Int32 → Int32 → Int32 → MI → MJ → Prop} (X : Cx E cX12_letters 7 RX12 ((Option.some FieldType.int)) p s m args c meth)
    (hk8 : ∀ (v1 : Int64) (v3 : Int32) (v4 : Int32) (v5 : Int32) (I : MI) (J : MJ) (H : Heap) (locs : List Loc) (ls : Array Slot), ko8 v1 v3 v4 v5 I J → Wd E I J s H locs → lv_has ls 7 [(0, .ref (wa E 17 0)), (1, .long v1), (3, .int v3), (4, .int v4), (5, .int v5)] → W p l e (rmO 0 0) s m args below meth c H locs 0 0 (MQ below (QI E Q) args s 0 0 (AA E)) (F0 m 8 ls [])) : ∀ (v1 : Int64) (v4 : Int32) (v5 : Int32) (t0 : Int32) (t1 : Int32) (I : MI) (J : MJ) (H : Heap) (locs : List Loc) (ls : Array Slot), wX12_letters_b77 (wg E) ko8 Q v1 v4 v5 t0 t1 I J → Wd E I J s H locs → lv_has ls 7 [(0, .ref (wa E 17 0)), (1, .long v1), (4, .int v4), (5, .int v5)] → W p l e (rmO 0 0) s m args below meth c H locs 0 0 (MQ below (QI E Q) args s 0 0 (AA E)) (F0 m 77 ls [.int t0, .int t1]) := by
  have hx := X.1.1
  have hb := X.1.2.1
  intro v1 v4 v5 t0 t1 I J H locs ls h hW hl
  refine lv_iadd hx hb dX12_letters_77 ?_
  refine lv_istore_n (lv' := [(3, .int (t1 + t0)), (0, .ref (wa E 17 0)), (1, .long v1), (4, .int v4), (5, .int v5)]) hx hb dX12_letters_78 rfl hl (by decide) rfl (fun ls hl => ?_)
  refine lv_iinc (v := v5 + 1) (lv' := [(5, .int (v5 + 1)), (3, .int (t1 + t0)), (0, .ref (wa E 17 0)), (1, .long v1), (4, .int v4)]) hx hb dX12_letters_79 hl (k := 4) rfl rfl (by decide) rfl (fun ls hl => ?_)
  refine lv_goto (tgt := 8) hx hb dX12_letters_82 (by decide) ?_
  exact hk8 v1 (t1 + t0) v4 (v5 + 1) _ _ _ _ _  h hW (lv_sub hl [2, 3, 1, 4, 0] rfl)
def wX12_letters_b64 (g : GS) (ko8 : Int64 → Int32 → Int32 → Int32 → MI → MJ → Prop) (Q : Int32 → MI → MJ → Prop) (v1 : Int64) (v3 : Int32) (v5 : Int32) (v6 : Int32) (t0 : Int32) (I : MI) (J : MJ) : Prop :=
  ((¬ v6 = 0 → wX12_letters_b77 g ko8 Q v1 t0 v5 1 v3 I J) ∧ (v6 = 0 → wX12_letters_b77 g ko8 Q v1 t0 v5 0 v3 I J))
set_option maxHeartbeats 4000000 in
set_option maxRecDepth 100000 in
theorem bX12_letters_64 {p : Program} {l : Launch} {e : Env} {s : State} {m : MethodId} {args : Array Value} {below : List Frame} {meth : Method} {c : Code} {E : WE} {Q : Int32 → MI → MJ → Prop} {ko8 : Int64 → Int32 → Int32 → Int32 → MI → MJ → Prop} (X : Cx E cX12_letters 7 RX12 ((Option.some FieldType.int)) p s m args c meth)
    (hk8 : ∀ (v1 : Int64) (v3 : Int32) (v4 : Int32) (v5 : Int32) (I : MI) (J : MJ) (H : Heap) (locs : List Loc) (ls : Array Slot), ko8 v1 v3 v4 v5 I J → Wd E I J s H locs → lv_has ls 7 [(0, .ref (wa E 17 0)), (1, .long v1), (3, .int v3), (4, .int v4), (5, .int v5)] → W p l e (rmO 0 0) s m args below meth c H locs 0 0 (MQ below (QI E Q) args s 0 0 (AA E)) (F0 m 8 ls [])) : ∀ (v1 : Int64) (v3 : Int32) (v5 : Int32) (v6 : Int32) (t0 : Int32) (I : MI) (J : MJ) (H : Heap) (locs : List Loc) (ls : Array Slot), wX12_letters_b64 (wg E) ko8 Q v1 v3 v5 v6 t0 I J → Wd E I J s H locs → lv_has ls 7 [(0, .ref (wa E 17 0)), (1, .long v1), (3, .int v3), (5, .int v5), (6, .int v6)] → W p l e (rmO 0 0) s m args below meth c H locs 0 0 (MQ below (QI E Q) args s 0 0 (AA E)) (F0 m 64 ls [.int t0]) := by
  have hx := X.1.1
  have hb := X.1.2.1
  intro v1 v3 v5 v6 t0 I J H locs ls h hW hl
  refine lv_istore (lv' := [(4, .int t0), (0, .ref (wa E 17 0)), (1, .long v1), (3, .int v3), (5, .int v5), (6, .int v6)]) hx hb dX12_letters_64 hl (by decide) rfl (fun ls hl => ?_)
  refine lv_iload_n hx hb dX12_letters_66 rfl (lv_at hl 3 rfl) ?_
  refine lv_iload hx hb dX12_letters_67 (lv_at hl 5 rfl) ?_
  refine lv_if_ne (tgt := 76) hx hb dX12_letters_69 (by decide) (fun c69 => ?_) (fun c69 => ?_)
  · have h := h.1 c69
    refine lv_iconst (v := 1) hx hb dX12_letters_76 (by decide) ?_
    exact bX12_letters_77 X hk8 v1 t0 v5 1 v3 _ _ _ _ _  h hW (lv_sub hl [1, 2, 0, 4] rfl)
  · have h := h.2 c69
    refine lv_iconst (v := 0) hx hb dX12_letters_72 (by decide) ?_
    refine lv_goto (tgt := 77) hx hb dX12_letters_73 (by decide) ?_
    exact bX12_letters_77 X hk8 v1 t0 v5 0 v3 _ _ _ _ _  h hW (lv_sub hl [1, 2, 0, 4] rfl)
def wX12_letters_b59 (g : GS) (ko8 : Int64 → Int32 → Int32 → Int32 → MI → MJ → Prop) (Q : Int32 → MI → MJ → Prop) (v1 : Int64) (v3 : Int32) (v5 : Int32) (v6 : Int32) (I : MI) (J : MJ) : Prop :=
  wX12_letters_b64 g ko8 Q v1 v3 v5 v6 1 I J
set_option maxHeartbeats 4000000 in
set_option maxRecDepth 100000 in
theorem bX12_letters_59 {p : Program} {l : Launch} {e : Env} {s : State} {m : MethodId} {args : Array Value} {below : List Frame} {meth : Method} {c : Code} {E : WE} {Q : Int32 → MI → MJ → Prop} {ko8 : Int64 → Int32 → Int32 → Int32 → MI → MJ → Prop} (X : Cx E cX12_letters 7 RX12 ((Option.some FieldType.int)) p s m args c meth)
    (hk8 : ∀ (v1 : Int64) (v3 : Int32) (v4 : Int32) (v5 : Int32) (I : MI) (J : MJ) (H : Heap) (locs : List Loc) (ls : Array Slot), ko8 v1 v3 v4 v5 I J → Wd E I J s H locs → lv_has ls 7 [(0, .ref (wa E 17 0)), (1, .long v1), (3, .int v3), (4, .int v4), (5, .int v5)] → W p l e (rmO 0 0) s m args below meth c H locs 0 0 (MQ below (QI E Q) args s 0 0 (AA E)) (F0 m 8 ls [])) : ∀ (v1 : Int64) (v3 : Int32) (v5 : Int32) (v6 : Int32) (I : MI) (J : MJ) (H : Heap) (locs : List Loc) (ls : Array Slot), wX12_letters_b59 (wg E) ko8 Q v1 v3 v5 v6 I J → Wd E I J s H locs → lv_has ls 7 [(0, .ref (wa E 17 0)), (1, .long v1), (3, .int v3), (5, .int v5), (6, .int v6)] → W p l e (rmO 0 0) s m args below meth c H locs 0 0 (MQ below (QI E Q) args s 0 0 (AA E)) (F0 m 59 ls []) := by
  have hx := X.1.1
  have hb := X.1.2.1
  intro v1 v3 v5 v6 I J H locs ls h hW hl
  refine lv_iconst (v := 1) hx hb dX12_letters_59 (by decide) ?_
  refine lv_goto (tgt := 64) hx hb dX12_letters_60 (by decide) ?_
  exact bX12_letters_64 X hk8 v1 v3 v5 v6 1 _ _ _ _ _  h hW (lv_sub hl [0, 1, 2, 3, 4] rfl)
def wX12_letters_b49 (g : GS) (ko8 : Int64 → Int32 → Int32 → Int32 → MI → MJ → Prop) (Q : Int32 → MI → MJ → Prop) (v1 : Int64) (v3 : Int32) (v4 : Int32) (v5 : Int32) (v6 : Int32) (I : MI) (J : MJ) : Prop :=
  ((¬ v4 = 0 → wX12_letters_b59 g ko8 Q v1 v3 v5 v6 I J) ∧ (v4 = 0 → ((¬ v6 = 0 → wX12_letters_b64 g ko8 Q v1 v3 v5 v6 0 I J) ∧ (v6 = 0 → wX12_letters_b59 g ko8 Q v1 v3 v5 v6 I J))))
set_option maxHeartbeats 4000000 in
set_option maxRecDepth 100000 in
theorem bX12_letters_49 {p : Program} {l : Launch} {e : Env} {s : State} {m : MethodId} {args : Array Value} {below : List Frame} {meth : Method} {c : Code} {E : WE} {Q : Int32 → MI → MJ → Prop} {ko8 : Int64 → Int32 → Int32 → Int32 → MI → MJ → Prop} (X : Cx E cX12_letters 7 RX12 ((Option.some FieldType.int)) p s m args c meth)
    (hk8 : ∀ (v1 : Int64) (v3 : Int32) (v4 : Int32) (v5 : Int32) (I : MI) (J : MJ) (H : Heap) (locs : List Loc) (ls : Array Slot), ko8 v1 v3 v4 v5 I J → Wd E I J s H locs → lv_has ls 7 [(0, .ref (wa E 17 0)), (1, .long v1), (3, .int v3), (4, .int v4), (5, .int v5)] → W p l e (rmO 0 0) s m args below meth c H locs 0 0 (MQ below (QI E Q) args s 0 0 (AA E)) (F0 m 8 ls [])) : ∀ (v1 : Int64) (v3 : Int32) (v4 : Int32) (v5 : Int32) (v6 : Int32) (I : MI) (J : MJ) (H : Heap) (locs : List Loc) (ls : Array Slot), wX12_letters_b49 (wg E) ko8 Q v1 v3 v4 v5 v6 I J → Wd E I J s H locs → lv_has ls 7 [(0, .ref (wa E 17 0)), (1, .long v1), (3, .int v3), (4, .int v4), (5, .int v5), (6, .int v6)] → W p l e (rmO 0 0) s m args below meth c H locs 0 0 (MQ below (QI E Q) args s 0 0 (AA E)) (F0 m 49 ls []) := by
  have hx := X.1.1
  have hb := X.1.2.1
  intro v1 v3 v4 v5 v6 I J H locs ls h hW hl
  refine lv_iload hx hb dX12_letters_49 (lv_at hl 3 rfl) ?_
  refine lv_if_ne (tgt := 59) hx hb dX12_letters_51 (by decide) (fun c51 => ?_) (fun c51 => ?_)
  · have h := h.1 c51
    exact bX12_letters_59 X hk8 v1 v3 v5 v6 _ _ _ _ _  h hW (lv_sub hl [0, 1, 2, 4, 5] rfl)
  · have h := h.2 c51
    refine lv_iload hx hb dX12_letters_54 (lv_at hl 5 rfl) ?_
    refine lv_if_ne (tgt := 63) hx hb dX12_letters_56 (by decide) (fun c56 => ?_) (fun c56 => ?_)
    · have h := h.1 c56
      refine lv_iconst (v := 0) hx hb dX12_letters_63 (by decide) ?_
      exact bX12_letters_64 X hk8 v1 v3 v5 v6 0 _ _ _ _ _  h hW (lv_sub hl [0, 1, 2, 4, 5] rfl)
    · have h := h.2 c56
      exact bX12_letters_59 X hk8 v1 v3 v5 v6 _ _ _ _ _  h hW (lv_sub hl [0, 1, 2, 4, 5] rfl)
def wX12_letters_b102 (g : GS) (Q : Int32 → MI → MJ → Prop) : Nat → Int64 → Int32 → Int32 → MI → MJ → Prop
  | 0, _, _, _, _, _ => False
  | n + 1, v1, v3, v5, I, J => ((v3 ≤ v5 → Q ((u3 I 17 0 (upd (I 17 0) 13 ((I 17 0 13) + v3))) 17 0 13) (u3 I 17 0 (upd (I 17 0) 13 ((I 17 0 13) + v3))) J) ∧ (¬ v3 ≤ v5 → vp_in ((I 17 0 13) + v5) 20 ∧ (∀ I128 : MI, I128 = u3 I 28 0 (upd (I 28 0) (Int32.toNatClampNeg ((I 17 0 13) + v5)) (vp_nar .byte ((Int32.toInt8 (Int64.toInt32 (v1 >>> (Int32.toInt64 (8 * v5) &&& 63)))).toInt32))) → wX12_letters_b102 g Q n v1 v3 (v5 + 1) I128 J)))
set_option maxHeartbeats 4000000 in
set_option maxRecDepth 100000 in
theorem bX12_letters_102 {p : Program} {l : Launch} {e : Env} {s : State} {m : MethodId} {args : Array Value} {below : List Frame} {meth : Method} {c : Code} {E : WE} {Q : Int32 → MI → MJ → Prop} (X : Cx E cX12_letters 7 RX12 ((Option.some FieldType.int)) p s m args c meth) (n : Nat) : ∀ (v1 : Int64) (v3 : Int32) (v5 : Int32) (I : MI) (J : MJ) (H : Heap) (locs : List Loc) (ls : Array Slot), wX12_letters_b102 (wg E) Q n v1 v3 v5 I J → Wd E I J s H locs → lv_has ls 7 [(0, .ref (wa E 17 0)), (1, .long v1), (3, .int v3), (5, .int v5)] → W p l e (rmO 0 0) s m args below meth c H locs 0 0 (MQ below (QI E Q) args s 0 0 (AA E)) (F0 m 102 ls []) := by
  have hx := X.1.1
  have hb := X.1.2.1
  induction n with
  | zero => intro v1 v3 v5 I J H locs ls h hW hl; exact h.elim
  | succ n ih =>
    intro v1 v3 v5 I J H locs ls h hW hl
    refine lv_iload hx hb dX12_letters_102 (lv_at hl 3 rfl) ?_
    refine lv_iload_n hx hb dX12_letters_104 rfl (lv_at hl 2 rfl) ?_
    refine lv_icmp_ge (tgt := 135) hx hb dX12_letters_105 (by decide) (fun c105 => ?_) (fun c105 => ?_)
    · have h := h.1 c105
      refine lv_aload_n hx hb dX12_letters_135 rfl (lv_at hl 0 rfl) ?_
      refine lv_dup hx hb dX12_letters_136 rfl ?_
      refine r_get X hW 13 (okS hW sc17_0) rfl rfl inX12 (Nat.le_of_ble_eq_true rfl) tw847 rfl dX12_letters_137 ?_
      refine lv_iload_n hx hb dX12_letters_140 rfl (lv_at hl 2 rfl) ?_
      refine lv_iadd hx hb dX12_letters_141 ?_
      refine r_putI X hW 13 (okS hW sc17_0) rfl rfl inX12 tyX12 tyX12_ok nmX12 (Nat.le_of_ble_eq_true rfl) tw847 rfl rfl rfl rfl (Nat.le_of_ble_eq_true rfl) rfl dX12_letters_142 (fun H locs hW => ?_)
      refine lv_aload_n hx hb dX12_letters_145 rfl (lv_at hl 0 rfl) ?_
      refine r_get X hW 13 (okS hW sc17_0) rfl rfl inX12 (Nat.le_of_ble_eq_true rfl) tw847 rfl dX12_letters_146 ?_
      exact e_i X hW h dX12_letters_149
    · have h := h.2 c105
      refine lv_aload_n hx hb dX12_letters_108 rfl (lv_at hl 0 rfl) ?_
      refine r_get X hW 14 (okS hW sc17_0) rfl rfl inX12 (Nat.le_of_ble_eq_true rfl) tw848 rfl dX12_letters_109 ?_
      refine lv_aload_n hx hb dX12_letters_112 rfl (lv_at hl 0 rfl) ?_
      refine r_get X hW 13 (okS hW sc17_0) rfl rfl inX12 (Nat.le_of_ble_eq_true rfl) tw847 rfl dX12_letters_113 ?_
      refine lv_iload hx hb dX12_letters_116 (lv_at hl 3 rfl) ?_
      refine lv_iadd hx hb dX12_letters_118 ?_
      refine lv_lload_n hx hb dX12_letters_119 rfl (lv_at hl 1 rfl) ?_
      refine lv_bipush (v := 8) hx hb dX12_letters_120 (by decide) ?_
      refine lv_iload hx hb dX12_letters_122 (lv_at hl 3 rfl) ?_
      refine lv_imul hx hb dX12_letters_124 ?_
      refine lv_lshr hx hb dX12_letters_125 rfl ?_
      refine lv_l2i hx hb dX12_letters_126 rfl ?_
      refine lv_i2b hx hb dX12_letters_127 rfl ?_
      refine r_bast X hW (okS hW sc28_0) (fun _ => rfl) h.1 dX12_letters_128 (fun H locs hW => ?_)
      have h := h.2
      obtain ⟨I128, eI128⟩ : ∃ z : MI, z = u3 I 28 0 (upd (I 28 0) (Int32.toNatClampNeg ((I 17 0 13) + v5)) (vp_nar .byte ((Int32.toInt8 (Int64.toInt32 (v1 >>> (Int32.toInt64 (8 * v5) &&& 63)))).toInt32))) := ⟨_, rfl⟩
      rw [← eI128] at hW
      have h := h I128 eI128
      refine lv_iinc (v := v5 + 1) (lv' := [(5, .int (v5 + 1)), (0, .ref (wa E 17 0)), (1, .long v1), (3, .int v3)]) hx hb dX12_letters_129 hl (k := 3) rfl rfl (by decide) rfl (fun ls hl => ?_)
      refine lv_goto (tgt := 102) hx hb dX12_letters_132 (by decide) ?_
      exact ih v1 v3 (v5 + 1) _ _ _ _ _  h hW (lv_sub hl [1, 2, 3, 0] rfl)
def wX12_letters_b8 (g : GS) (Q : Int32 → MI → MJ → Prop) : Nat → Int64 → Int32 → Int32 → Int32 → MI → MJ → Prop
  | 0, _, _, _, _, _, _ => False
  | n + 1, v1, v3, v4, v5, I, J => ((8 ≤ v5 → ((((I 17 0 13) + v3) ≤ 20 → ∃ n102, wX12_letters_b102 g Q n102 v1 v3 0 I J) ∧ (¬ ((I 17 0 13) + v3) ≤ 20 → Q ((-104)) I J))) ∧ (¬ 8 ≤ v5 → ((126 < (Int64.toInt32 ((v1 >>> (Int32.toInt64 (8 * v5) &&& 63)) &&& 255)) → Q ((-102)) I J) ∧ (¬ 126 < (Int64.toInt32 ((v1 >>> (Int32.toInt64 (8 * v5) &&& 63)) &&& 255)) → ((v4 = 0 → wX12_letters_b49 g (fun v1 v3 v4 v5 I J => wX12_letters_b8 g Q n v1 v3 v4 v5 I J) Q v1 v3 v4 v5 (Int64.toInt32 ((v1 >>> (Int32.toInt64 (8 * v5) &&& 63)) &&& 255)) I J) ∧ (¬ v4 = 0 → (((Int64.toInt32 ((v1 >>> (Int32.toInt64 (8 * v5) &&& 63)) &&& 255)) = 0 → wX12_letters_b49 g (fun v1 v3 v4 v5 I J => wX12_letters_b8 g Q n v1 v3 v4 v5 I J) Q v1 v3 v4 v5 (Int64.toInt32 ((v1 >>> (Int32.toInt64 (8 * v5) &&& 63)) &&& 255)) I J) ∧ (¬ (Int64.toInt32 ((v1 >>> (Int32.toInt64 (8 * v5) &&& 63)) &&& 255)) = 0 → Q ((-102)) I J))))))))
set_option maxHeartbeats 4000000 in
set_option maxRecDepth 100000 in
theorem bX12_letters_8 {p : Program} {l : Launch} {e : Env} {s : State} {m : MethodId} {args : Array Value} {below : List Frame} {meth : Method} {c : Code} {E : WE} {Q : Int32 → MI → MJ → Prop} (X : Cx E cX12_letters 7 RX12 ((Option.some FieldType.int)) p s m args c meth) (n : Nat) : ∀ (v1 : Int64) (v3 : Int32) (v4 : Int32) (v5 : Int32) (I : MI) (J : MJ) (H : Heap) (locs : List Loc) (ls : Array Slot), wX12_letters_b8 (wg E) Q n v1 v3 v4 v5 I J → Wd E I J s H locs → lv_has ls 7 [(0, .ref (wa E 17 0)), (1, .long v1), (3, .int v3), (4, .int v4), (5, .int v5)] → W p l e (rmO 0 0) s m args below meth c H locs 0 0 (MQ below (QI E Q) args s 0 0 (AA E)) (F0 m 8 ls []) := by
  have hx := X.1.1
  have hb := X.1.2.1
  induction n with
  | zero => intro v1 v3 v4 v5 I J H locs ls h hW hl; exact h.elim
  | succ n ih =>
    intro v1 v3 v4 v5 I J H locs ls h hW hl
    refine lv_iload hx hb dX12_letters_8 (lv_at hl 4 rfl) ?_
    refine lv_bipush (v := 8) hx hb dX12_letters_10 (by decide) ?_
    refine lv_icmp_ge (tgt := 85) hx hb dX12_letters_12 (by decide) (fun c12 => ?_) (fun c12 => ?_)
    · have h := h.1 c12
      refine lv_aload_n hx hb dX12_letters_85 rfl (lv_at hl 0 rfl) ?_
      refine r_get X hW 13 (okS hW sc17_0) rfl rfl inX12 (Nat.le_of_ble_eq_true rfl) tw847 rfl dX12_letters_86 ?_
      refine lv_iload_n hx hb dX12_letters_89 rfl (lv_at hl 2 rfl) ?_
      refine lv_iadd hx hb dX12_letters_90 ?_
      refine lv_bipush (v := 20) hx hb dX12_letters_91 (by decide) ?_
      refine lv_icmp_le (tgt := 99) hx hb dX12_letters_93 (by decide) (fun c93 => ?_) (fun c93 => ?_)
      · have h := h.1 c93
        refine lv_iconst (v := 0) hx hb dX12_letters_99 (by decide) ?_
        refine lv_istore (lv' := [(5, .int 0), (0, .ref (wa E 17 0)), (1, .long v1), (3, .int v3), (4, .int v4)]) hx hb dX12_letters_100 hl (by decide) rfl (fun ls hl => ?_)
        obtain ⟨n102, h⟩ := h
        exact bX12_letters_102 X n102 v1 v3 0 _ _ _ _ _  h hW (lv_sub hl [1, 2, 3, 0] rfl)
      · have h := h.2 c93
        refine lv_bipush (v := (-104)) hx hb dX12_letters_96 (by decide) ?_
        exact e_i X hW h dX12_letters_98
    · have h := h.2 c12
      refine lv_lload_n hx hb dX12_letters_15 rfl (lv_at hl 1 rfl) ?_
      refine lv_bipush (v := 8) hx hb dX12_letters_16 (by decide) ?_
      refine lv_iload hx hb dX12_letters_18 (lv_at hl 4 rfl) ?_
      refine lv_imul hx hb dX12_letters_20 ?_
      refine lv_lshr hx hb dX12_letters_21 rfl ?_
      refine lv_ldc2 hx hb X.1.2.2.2.1 (X.1.2.2.2.2 _ tw952) dX12_letters_22 ?_
      refine lv_land hx hb dX12_letters_25 ?_
      refine lv_l2i hx hb dX12_letters_26 rfl ?_
      refine lv_istore (lv' := [(6, .int (Int64.toInt32 ((v1 >>> (Int32.toInt64 (8 * v5) &&& 63)) &&& 255))), (0, .ref (wa E 17 0)), (1, .long v1), (3, .int v3), (4, .int v4), (5, .int v5)]) hx hb dX12_letters_27 hl (by decide) rfl (fun ls hl => ?_)
      refine lv_iload hx hb dX12_letters_29 (lv_at hl 0 rfl) ?_
      refine lv_bipush (v := 126) hx hb dX12_letters_31 (by decide) ?_
      refine lv_icmp_gt (tgt := 46) hx hb dX12_letters_33 (by decide) (fun c33 => ?_) (fun c33 => ?_)
      · have h := h.1 c33
        refine lv_bipush (v := (-102)) hx hb dX12_letters_46 (by decide) ?_
        exact e_i X hW h dX12_letters_48
      · have h := h.2 c33
        refine lv_iload hx hb dX12_letters_36 (lv_at hl 4 rfl) ?_
        refine lv_if_eq (tgt := 49) hx hb dX12_letters_38 (by decide) (fun c38 => ?_) (fun c38 => ?_)
        · have h := h.1 c38
          exact bX12_letters_49 X ih v1 v3 v4 v5 (Int64.toInt32 ((v1 >>> (Int32.toInt64 (8 * v5) &&& 63)) &&& 255)) _ _ _ _ _  h hW (lv_sub hl [1, 2, 3, 4, 5, 0] rfl)
        · have h := h.2 c38
          refine lv_iload hx hb dX12_letters_41 (lv_at hl 0 rfl) ?_
          refine lv_if_eq (tgt := 49) hx hb dX12_letters_43 (by decide) (fun c43 => ?_) (fun c43 => ?_)
          · have h := h.1 c43
            exact bX12_letters_49 X ih v1 v3 v4 v5 (Int64.toInt32 ((v1 >>> (Int32.toInt64 (8 * v5) &&& 63)) &&& 255)) _ _ _ _ _  h hW (lv_sub hl [1, 2, 3, 4, 5, 0] rfl)
          · have h := h.2 c43
            refine lv_bipush (v := (-102)) hx hb dX12_letters_46 (by decide) ?_
            exact e_i X hW h dX12_letters_48
def wX12_letters (g : GS) (a1 : Int64) (I : MI) (J : MJ) (Q : Int32 → MI → MJ → Prop) : Prop :=
  ∃ n8, wX12_letters_b8 g Q n8 a1 0 0 0 I J
theorem mbX12_letters : MB yX12_letters cX12_letters 7 ((Option.some FieldType.int)) 1 := ⟨tw951, tw7, ⟨by decide, by decide⟩, by decide +kernel, by decide +kernel⟩
set_option maxHeartbeats 4000000 in
set_option maxRecDepth 100000 in
theorem kX12_letters {l : Launch} {E : WE} {a1 : Int64} {I : MI} {J : MJ} {Q : Int32 → MI → MJ → Prop} (h : wX12_letters (wg E) a1 I J Q) : Met l yX12_letters (wsM yX12_letters cX12_letters 7 ((Option.some FieldType.int))) (rmO 0 0) (va_Pc [.ref (wa E 17 0), .long a1] (Wp E I J)) (QI E Q) 0 0 (AA E) := by
  refine m_entry mbX12_letters (Nat.le_of_ble_eq_true rfl) ?_
  intro p e s m args below meth c X ls hW hl
  have X : Cx E cX12_letters 7 RX12 ((Option.some FieldType.int)) p s m args c meth := X
  have hx := X.1.1
  have hb := X.1.2.1
  have hl : lv_has ls 7 [(0, .ref (wa E 17 0)), (1, .long a1)] := hl
  refine lv_iconst (v := 0) hx hb dX12_letters_0 (by decide) ?_
  refine lv_istore_n (lv' := [(3, .int 0), (0, .ref (wa E 17 0)), (1, .long a1)]) hx hb dX12_letters_1 rfl hl (by decide) rfl (fun ls hl => ?_)
  refine lv_iconst (v := 0) hx hb dX12_letters_2 (by decide) ?_
  refine lv_istore (lv' := [(4, .int 0), (3, .int 0), (0, .ref (wa E 17 0)), (1, .long a1)]) hx hb dX12_letters_3 hl (by decide) rfl (fun ls hl => ?_)
  refine lv_iconst (v := 0) hx hb dX12_letters_5 (by decide) ?_
  refine lv_istore (lv' := [(5, .int 0), (4, .int 0), (3, .int 0), (0, .ref (wa E 17 0)), (1, .long a1)]) hx hb dX12_letters_6 hl (by decide) rfl (fun ls hl => ?_)
  obtain ⟨n8, h⟩ := h
  exact bX12_letters_8 X n8 a1 0 0 0 _ _ _ _ _  h hW (lv_sub hl [3, 4, 2, 1, 0] rfl)
def wX12_blank (g : GS) (I : MI) (J : MJ) (Q : Int32 → MI → MJ → Prop) : Prop :=
  Q (I 17 0 13) (u3 I 17 0 (upd (I 17 0) 13 0)) J
theorem mbX12_blank : MB yX12_blank cX12_blank 2 ((Option.some FieldType.int)) 0 := ⟨tw956, tw7, ⟨by decide, by decide⟩, by decide +kernel, by decide +kernel⟩
set_option maxHeartbeats 4000000 in
set_option maxRecDepth 100000 in
theorem kX12_blank {l : Launch} {E : WE} {I : MI} {J : MJ} {Q : Int32 → MI → MJ → Prop} (h : wX12_blank (wg E) I J Q) : Met l yX12_blank (wsM yX12_blank cX12_blank 2 ((Option.some FieldType.int))) (rmO 0 0) (va_Pc [.ref (wa E 17 0)] (Wp E I J)) (QI E Q) 0 0 (AA E) := by
  refine m_entry mbX12_blank (Nat.le_of_ble_eq_true rfl) ?_
  intro p e s m args below meth c X ls hW hl
  have X : Cx E cX12_blank 2 RX12 ((Option.some FieldType.int)) p s m args c meth := X
  have hx := X.1.1
  have hb := X.1.2.1
  have hl : lv_has ls 2 [(0, .ref (wa E 17 0))] := hl
  refine lv_aload_n hx hb dX12_blank_0 rfl (lv_at hl 0 rfl) ?_
  refine r_get X hW 13 (okS hW sc17_0) rfl rfl inX12 (Nat.le_of_ble_eq_true rfl) tw847 rfl dX12_blank_1 ?_
  refine lv_istore_n (lv' := [(1, .int (I 17 0 13)), (0, .ref (wa E 17 0))]) hx hb dX12_blank_4 rfl hl (by decide) rfl (fun ls hl => ?_)
  refine lv_aload_n hx hb dX12_blank_5 rfl (lv_at hl 1 rfl) ?_
  refine lv_iconst (v := 0) hx hb dX12_blank_6 (by decide) ?_
  refine r_putI X hW 13 (okS hW sc17_0) rfl rfl inX12 tyX12 tyX12_ok nmX12 (Nat.le_of_ble_eq_true rfl) tw847 rfl rfl rfl rfl (Nat.le_of_ble_eq_true rfl) rfl dX12_blank_7 (fun H locs hW => ?_)
  refine lv_iload_n hx hb dX12_blank_10 rfl (lv_at hl 0 rfl) ?_
  exact e_i X hW h dX12_blank_11
def wX12_isDigit (g : GS) (a0 : Int32) (I : MI) (J : MJ) (Q : Int32 → MI → MJ → Prop) : Prop :=
  wX12_within g a0 48 57 I J (fun r5 I5 J5 => isB r5 ∧ Q r5 I5 J5)
theorem mbX12_isDigit : MB yX12_isDigit cX12_isDigit 1 ((Option.some FieldType.boolean)) 1 := ⟨tw978, tw7, ⟨by decide, by decide⟩, by decide +kernel, by decide +kernel⟩
set_option maxHeartbeats 4000000 in
set_option maxRecDepth 100000 in
theorem kX12_isDigit {l : Launch} {E : WE} {a0 : Int32} {I : MI} {J : MJ} {Q : Int32 → MI → MJ → Prop} (h : wX12_isDigit (wg E) a0 I J Q) : Met l yX12_isDigit (wsM yX12_isDigit cX12_isDigit 1 ((Option.some FieldType.boolean))) (rmO 1 22) (va_Pc [.int a0] (Wp E I J)) (QI E Q) 0 0 (AA E) := by
  refine m_entry mbX12_isDigit (Nat.le_of_ble_eq_true rfl) ?_
  intro p e s m args below meth c X ls hW hl
  have X : Cx E cX12_isDigit 1 RX12 ((Option.some FieldType.boolean)) p s m args c meth := X
  have hx := X.1.1
  have hb := X.1.2.1
  have hl : lv_has ls 1 [(0, .int a0)] := hl
  refine lv_iload_n hx hb dX12_isDigit_0 rfl (lv_at hl 0 rfl) ?_
  refine lv_bipush (v := 48) hx hb dX12_isDigit_1 (by decide) ?_
  refine lv_bipush (v := 57) hx hb dX12_isDigit_3 (by decide) ?_
  refine af_i hW (rn_S X hW (As := [.int a0, .int 48, .int 57]) (rest := []) (kX12_within h) mbX12_within tw969 tw970 rfl hl.1 (Nat.le_of_ble_eq_true rfl) ⟨(Nat.le_of_ble_eq_true rfl), (Nat.le_of_ble_eq_true rfl)⟩ dX12_isDigit_5) (fun r5 I5 J5 H locs h hW => ?_)
  exact e_z X hW (isB_n h.1) h.2 dX12_isDigit_8
def wX12_nextRatio_b34 (g : GS) (Q : Int32 → MI → MJ → Prop) (v1 : Int32) (t0 : Int32) (I : MI) (J : MJ) : Prop :=
  ((t0 = 0 → (((I 17 0 23) ≤ 1 → Q ((-1)) I J) ∧ (¬ (I 17 0 23) ≤ 1 → ((¬ v1 = 113 → Q ((-1)) I J) ∧ (v1 = 113 → Q 5 I J))))) ∧ (¬ t0 = 0 → Q 4 (u3 I 17 0 (upd (I 17 0) 23 (((10 * (I 17 0 23)) + v1) - 48))) J))
set_option maxHeartbeats 4000000 in
set_option maxRecDepth 100000 in
theorem bX12_nextRatio_34 {p : Program} {l : Launch} {e : Env} {s : State} {m : MethodId} {args : Array Value} {below : List Frame} {meth : Method} {c : Code} {E : WE} {Q : Int32 → MI → MJ → Prop} (X : Cx E cX12_nextRatio 3 RX12 ((Option.some FieldType.int)) p s m args c meth) : ∀ (v1 : Int32) (t0 : Int32) (I : MI) (J : MJ) (H : Heap) (locs : List Loc) (ls : Array Slot), wX12_nextRatio_b34 (wg E) Q v1 t0 I J → Wd E I J s H locs → lv_has ls 3 [(0, .ref (wa E 17 0)), (1, .int v1)] → W p l e (rmO 2 42) s m args below meth c H locs 0 0 (MQ below (QI E Q) args s 0 0 (AA E)) (F0 m 34 ls [.int t0]) := by
  have hx := X.1.1
  have hb := X.1.2.1
  intro v1 t0 I J H locs ls h hW hl
  refine lv_istore_n (lv' := [(2, .int t0), (0, .ref (wa E 17 0)), (1, .int v1)]) hx hb dX12_nextRatio_34 rfl hl (by decide) rfl (fun ls hl => ?_)
  refine lv_iload_n hx hb dX12_nextRatio_35 rfl (lv_at hl 0 rfl) ?_
  refine lv_if_eq (tgt := 57) hx hb dX12_nextRatio_36 (by decide) (fun c36 => ?_) (fun c36 => ?_)
  · have h := h.1 c36
    refine lv_aload_n hx hb dX12_nextRatio_57 rfl (lv_at hl 1 rfl) ?_
    refine r_get X hW 23 (okS hW sc17_0) rfl rfl inX12 (Nat.le_of_ble_eq_true rfl) tw857 rfl dX12_nextRatio_58 ?_
    refine lv_iconst (v := 1) hx hb dX12_nextRatio_61 (by decide) ?_
    refine lv_icmp_le (tgt := 75) hx hb dX12_nextRatio_62 (by decide) (fun c62 => ?_) (fun c62 => ?_)
    · have h := h.1 c62
      refine lv_iconst (v := (-1)) hx hb dX12_nextRatio_75 (by decide) ?_
      exact e_i X hW h dX12_nextRatio_76
    · have h := h.2 c62
      refine lv_iload_n hx hb dX12_nextRatio_65 rfl (lv_at hl 2 rfl) ?_
      refine lv_bipush (v := 113) hx hb dX12_nextRatio_66 (by decide) ?_
      refine lv_icmp_ne (tgt := 75) hx hb dX12_nextRatio_68 (by decide) (fun c68 => ?_) (fun c68 => ?_)
      · have h := h.1 c68
        refine lv_iconst (v := (-1)) hx hb dX12_nextRatio_75 (by decide) ?_
        exact e_i X hW h dX12_nextRatio_76
      · have h := h.2 c68
        refine lv_iconst (v := 5) hx hb dX12_nextRatio_71 (by decide) ?_
        refine lv_goto (tgt := 76) hx hb dX12_nextRatio_72 (by decide) ?_
        exact e_i X hW h dX12_nextRatio_76
  · have h := h.2 c36
    refine lv_aload_n hx hb dX12_nextRatio_39 rfl (lv_at hl 1 rfl) ?_
    refine lv_bipush (v := 10) hx hb dX12_nextRatio_40 (by decide) ?_
    refine lv_aload_n hx hb dX12_nextRatio_42 rfl (lv_at hl 1 rfl) ?_
    refine r_get X hW 23 (okS hW sc17_0) rfl rfl inX12 (Nat.le_of_ble_eq_true rfl) tw857 rfl dX12_nextRatio_43 ?_
    refine lv_imul hx hb dX12_nextRatio_46 ?_
    refine lv_iload_n hx hb dX12_nextRatio_47 rfl (lv_at hl 2 rfl) ?_
    refine lv_iadd hx hb dX12_nextRatio_48 ?_
    refine lv_bipush (v := 48) hx hb dX12_nextRatio_49 (by decide) ?_
    refine lv_isub hx hb dX12_nextRatio_51 ?_
    refine r_putI X hW 23 (okS hW sc17_0) rfl rfl inX12 tyX12 tyX12_ok nmX12 (Nat.le_of_ble_eq_true rfl) tw857 rfl rfl rfl rfl (Nat.le_of_ble_eq_true rfl) rfl dX12_nextRatio_52 (fun H locs hW => ?_)
    refine lv_iconst (v := 4) hx hb dX12_nextRatio_55 (by decide) ?_
    exact e_i X hW h dX12_nextRatio_56
def wX12_nextRatio_b29 (g : GS) (Q : Int32 → MI → MJ → Prop) (v1 : Int32) (I : MI) (J : MJ) : Prop :=
  wX12_nextRatio_b34 g Q v1 1 I J
set_option maxHeartbeats 4000000 in
set_option maxRecDepth 100000 in
theorem bX12_nextRatio_29 {p : Program} {l : Launch} {e : Env} {s : State} {m : MethodId} {args : Array Value} {below : List Frame} {meth : Method} {c : Code} {E : WE} {Q : Int32 → MI → MJ → Prop} (X : Cx E cX12_nextRatio 3 RX12 ((Option.some FieldType.int)) p s m args c meth) : ∀ (v1 : Int32) (I : MI) (J : MJ) (H : Heap) (locs : List Loc) (ls : Array Slot), wX12_nextRatio_b29 (wg E) Q v1 I J → Wd E I J s H locs → lv_has ls 3 [(0, .ref (wa E 17 0)), (1, .int v1)] → W p l e (rmO 2 42) s m args below meth c H locs 0 0 (MQ below (QI E Q) args s 0 0 (AA E)) (F0 m 29 ls []) := by
  have hx := X.1.1
  have hb := X.1.2.1
  intro v1 I J H locs ls h hW hl
  refine lv_iconst (v := 1) hx hb dX12_nextRatio_29 (by decide) ?_
  refine lv_goto (tgt := 34) hx hb dX12_nextRatio_30 (by decide) ?_
  exact bX12_nextRatio_34 X v1 1 _ _ _ _ _  h hW (lv_sub hl [0, 1] rfl)
def wX12_nextRatio_b33 (g : GS) (Q : Int32 → MI → MJ → Prop) (v1 : Int32) (I : MI) (J : MJ) : Prop :=
  wX12_nextRatio_b34 g Q v1 0 I J
set_option maxHeartbeats 4000000 in
set_option maxRecDepth 100000 in
theorem bX12_nextRatio_33 {p : Program} {l : Launch} {e : Env} {s : State} {m : MethodId} {args : Array Value} {below : List Frame} {meth : Method} {c : Code} {E : WE} {Q : Int32 → MI → MJ → Prop} (X : Cx E cX12_nextRatio 3 RX12 ((Option.some FieldType.int)) p s m args c meth) : ∀ (v1 : Int32) (I : MI) (J : MJ) (H : Heap) (locs : List Loc) (ls : Array Slot), wX12_nextRatio_b33 (wg E) Q v1 I J → Wd E I J s H locs → lv_has ls 3 [(0, .ref (wa E 17 0)), (1, .int v1)] → W p l e (rmO 2 42) s m args below meth c H locs 0 0 (MQ below (QI E Q) args s 0 0 (AA E)) (F0 m 33 ls []) := by
  have hx := X.1.1
  have hb := X.1.2.1
  intro v1 I J H locs ls h hW hl
  refine lv_iconst (v := 0) hx hb dX12_nextRatio_33 (by decide) ?_
  exact bX12_nextRatio_34 X v1 0 _ _ _ _ _  h hW (lv_sub hl [0, 1] rfl)
def wX12_nextRatio_b15 (g : GS) (Q : Int32 → MI → MJ → Prop) (v1 : Int32) (I : MI) (J : MJ) : Prop :=
  ((¬ (I 17 0 23) = 2 → wX12_nextRatio_b33 g Q v1 I J) ∧ ((I 17 0 23) = 2 → ((¬ v1 = 48 → wX12_nextRatio_b33 g Q v1 I J) ∧ (v1 = 48 → wX12_nextRatio_b29 g Q v1 I J))))
set_option maxHeartbeats 4000000 in
set_option maxRecDepth 100000 in
theorem bX12_nextRatio_15 {p : Program} {l : Launch} {e : Env} {s : State} {m : MethodId} {args : Array Value} {below : List Frame} {meth : Method} {c : Code} {E : WE} {Q : Int32 → MI → MJ → Prop} (X : Cx E cX12_nextRatio 3 RX12 ((Option.some FieldType.int)) p s m args c meth) : ∀ (v1 : Int32) (I : MI) (J : MJ) (H : Heap) (locs : List Loc) (ls : Array Slot), wX12_nextRatio_b15 (wg E) Q v1 I J → Wd E I J s H locs → lv_has ls 3 [(0, .ref (wa E 17 0)), (1, .int v1)] → W p l e (rmO 2 42) s m args below meth c H locs 0 0 (MQ below (QI E Q) args s 0 0 (AA E)) (F0 m 15 ls []) := by
  have hx := X.1.1
  have hb := X.1.2.1
  intro v1 I J H locs ls h hW hl
  refine lv_aload_n hx hb dX12_nextRatio_15 rfl (lv_at hl 0 rfl) ?_
  refine r_get X hW 23 (okS hW sc17_0) rfl rfl inX12 (Nat.le_of_ble_eq_true rfl) tw857 rfl dX12_nextRatio_16 ?_
  refine lv_iconst (v := 2) hx hb dX12_nextRatio_19 (by decide) ?_
  refine lv_icmp_ne (tgt := 33) hx hb dX12_nextRatio_20 (by decide) (fun c20 => ?_) (fun c20 => ?_)
  · have h := h.1 c20
    exact bX12_nextRatio_33 X v1 _ _ _ _ _  h hW (lv_sub hl [0, 1] rfl)
  · have h := h.2 c20
    refine lv_iload_n hx hb dX12_nextRatio_23 rfl (lv_at hl 1 rfl) ?_
    refine lv_bipush (v := 48) hx hb dX12_nextRatio_24 (by decide) ?_
    refine lv_icmp_ne (tgt := 33) hx hb dX12_nextRatio_26 (by decide) (fun c26 => ?_) (fun c26 => ?_)
    · have h := h.1 c26
      exact bX12_nextRatio_33 X v1 _ _ _ _ _  h hW (lv_sub hl [0, 1] rfl)
    · have h := h.2 c26
      exact bX12_nextRatio_29 X v1 _ _ _ _ _  h hW (lv_sub hl [0, 1] rfl)
def wX12_nextRatio (g : GS) (a1 : Int32) (I : MI) (J : MJ) (Q : Int32 → MI → MJ → Prop) : Prop :=
  ((¬ (I 17 0 23) = 1 → wX12_nextRatio_b15 g Q a1 I J) ∧ ((I 17 0 23) = 1 → wX12_isDigit g a1 I J (fun r9 I9 J9 => ((¬ r9 = 0 → wX12_nextRatio_b29 g Q a1 I9 J9) ∧ (r9 = 0 → wX12_nextRatio_b15 g Q a1 I9 J9)))))
theorem mbX12_nextRatio : MB yX12_nextRatio cX12_nextRatio 3 ((Option.some FieldType.int)) 1 := ⟨tw975, tw7, ⟨by decide, by decide⟩, by decide +kernel, by decide +kernel⟩
set_option maxHeartbeats 4000000 in
set_option maxRecDepth 100000 in
theorem kX12_nextRatio {l : Launch} {E : WE} {a1 : Int32} {I : MI} {J : MJ} {Q : Int32 → MI → MJ → Prop} (h : wX12_nextRatio (wg E) a1 I J Q) : Met l yX12_nextRatio (wsM yX12_nextRatio cX12_nextRatio 3 ((Option.some FieldType.int))) (rmO 2 42) (va_Pc [.ref (wa E 17 0), .int a1] (Wp E I J)) (QI E Q) 0 0 (AA E) := by
  refine m_entry mbX12_nextRatio (Nat.le_of_ble_eq_true rfl) ?_
  intro p e s m args below meth c X ls hW hl
  have X : Cx E cX12_nextRatio 3 RX12 ((Option.some FieldType.int)) p s m args c meth := X
  have hx := X.1.1
  have hb := X.1.2.1
  have hl : lv_has ls 3 [(0, .ref (wa E 17 0)), (1, .int a1)] := hl
  refine lv_aload_n hx hb dX12_nextRatio_0 rfl (lv_at hl 0 rfl) ?_
  refine r_get X hW 23 (okS hW sc17_0) rfl rfl inX12 (Nat.le_of_ble_eq_true rfl) tw857 rfl dX12_nextRatio_1 ?_
  refine lv_iconst (v := 1) hx hb dX12_nextRatio_4 (by decide) ?_
  refine lv_icmp_ne (tgt := 15) hx hb dX12_nextRatio_5 (by decide) (fun c5 => ?_) (fun c5 => ?_)
  · have h := h.1 c5
    exact bX12_nextRatio_15 X a1 _ _ _ _ _  h hW (lv_sub hl [0, 1] rfl)
  · have h := h.2 c5
    refine lv_iload_n hx hb dX12_nextRatio_8 rfl (lv_at hl 1 rfl) ?_
    refine af_i hW (rn_S X hW (As := [.int a1]) (rest := []) (kX12_isDigit h) mbX12_isDigit tw976 tw977 rfl hl.1 (Nat.le_of_ble_eq_true rfl) ⟨(Nat.le_of_ble_eq_true rfl), (Nat.le_of_ble_eq_true rfl)⟩ dX12_nextRatio_9) (fun r9 I9 J9 H locs h hW => ?_)
    refine lv_if_ne (tgt := 29) hx hb dX12_nextRatio_12 (by decide) (fun c12 => ?_) (fun c12 => ?_)
    · have h := h.1 c12
      exact bX12_nextRatio_29 X a1 _ _ _ _ _  h hW (lv_sub hl [0, 1] rfl)
    · have h := h.2 c12
      exact bX12_nextRatio_15 X a1 _ _ _ _ _  h hW (lv_sub hl [0, 1] rfl)
def wX12_next_b191 (g : GS) (Q : Int32 → MI → MJ → Prop) (v2 : Int32) (t0 : Int32) (I : MI) (J : MJ) : Prop :=
  isB t0 ∧ (((((u3 I 17 0 (upd (I 17 0) 26 t0)) 17 0 25) = 0 → ((v2 = 99 → Q 8 (u3 I 17 0 (upd (I 17 0) 26 t0)) J) ∧ (¬ v2 = 99 → ((¬ v2 = 121 → Q ((-1)) (u3 I 17 0 (upd (I 17 0) 26 t0)) J) ∧ (v2 = 121 → Q 8 (u3 I 17 0 (upd (I 17 0) 26 t0)) J))))) ∧ (¬ ((u3 I 17 0 (upd (I 17 0) 26 t0)) 17 0 25) = 0 → Q 7 (u3 I 17 0 (upd (I 17 0) 26 t0)) J)))
set_option maxHeartbeats 4000000 in
set_option maxRecDepth 100000 in
theorem bX12_next_191 {p : Program} {l : Launch} {e : Env} {s : State} {m : MethodId} {args : Array Value} {below : List Frame} {meth : Method} {c : Code} {E : WE} {Q : Int32 → MI → MJ → Prop} (X : Cx E cX12_next 3 RX12 ((Option.some FieldType.int)) p s m args c meth) : ∀ (v2 : Int32) (t0 : Int32) (I : MI) (J : MJ) (H : Heap) (locs : List Loc) (ls : Array Slot), wX12_next_b191 (wg E) Q v2 t0 I J → Wd E I J s H locs → lv_has ls 3 [(0, .ref (wa E 17 0)), (2, .int v2)] → W p l e (rmO 3 64) s m args below meth c H locs 0 0 (MQ below (QI E Q) args s 0 0 (AA E)) (F0 m 191 ls [.int t0, .ref (wa E 17 0)]) := by
  have hx := X.1.1
  have hb := X.1.2.1
  intro v2 t0 I J H locs ls h hW hl
  refine r_putI X hW 26 (okS hW sc17_0) rfl rfl inX12 tyX12 tyX12_ok nmX12 (Nat.le_of_ble_eq_true rfl) tw860 rfl rfl (isB_n h.1) (isB_f h.1) (Nat.le_of_ble_eq_true rfl) rfl dX12_next_191 (fun H locs hW => ?_)
  have h := h.2
  refine lv_aload_n hx hb dX12_next_194 rfl (lv_at hl 0 rfl) ?_
  refine r_get X hW 25 (okS hW sc17_0) rfl rfl inX12 (Nat.le_of_ble_eq_true rfl) tw859 rfl dX12_next_195 ?_
  refine lv_if_eq (tgt := 206) hx hb dX12_next_198 (by decide) (fun c198 => ?_) (fun c198 => ?_)
  · have h := h.1 c198
    refine lv_iload_n hx hb dX12_next_206 rfl (lv_at hl 1 rfl) ?_
    refine lv_bipush (v := 99) hx hb dX12_next_207 (by decide) ?_
    refine lv_icmp_eq (tgt := 218) hx hb dX12_next_209 (by decide) (fun c209 => ?_) (fun c209 => ?_)
    · have h := h.1 c209
      refine lv_bipush (v := 8) hx hb dX12_next_218 (by decide) ?_
      refine lv_goto (tgt := 224) hx hb dX12_next_220 (by decide) ?_
      exact e_i X hW h dX12_next_224
    · have h := h.2 c209
      refine lv_iload_n hx hb dX12_next_212 rfl (lv_at hl 1 rfl) ?_
      refine lv_bipush (v := 121) hx hb dX12_next_213 (by decide) ?_
      refine lv_icmp_ne (tgt := 223) hx hb dX12_next_215 (by decide) (fun c215 => ?_) (fun c215 => ?_)
      · have h := h.1 c215
        refine lv_iconst (v := (-1)) hx hb dX12_next_223 (by decide) ?_
        exact e_i X hW h dX12_next_224
      · have h := h.2 c215
        refine lv_bipush (v := 8) hx hb dX12_next_218 (by decide) ?_
        refine lv_goto (tgt := 224) hx hb dX12_next_220 (by decide) ?_
        exact e_i X hW h dX12_next_224
  · have h := h.2 c198
    refine lv_bipush (v := 7) hx hb dX12_next_201 (by decide) ?_
    refine lv_goto (tgt := 224) hx hb dX12_next_203 (by decide) ?_
    exact e_i X hW h dX12_next_224
def wX12_next_b176 (g : GS) (Q : Int32 → MI → MJ → Prop) (v2 : Int32) (t0 : Int32) (I : MI) (J : MJ) : Prop :=
  isB t0 ∧ (((¬ v2 = 99 → wX12_next_b191 g Q v2 0 (u3 I 17 0 (upd (I 17 0) 25 t0)) J) ∧ (v2 = 99 → wX12_next_b191 g Q v2 1 (u3 I 17 0 (upd (I 17 0) 25 t0)) J)))
set_option maxHeartbeats 4000000 in
set_option maxRecDepth 100000 in
theorem bX12_next_176 {p : Program} {l : Launch} {e : Env} {s : State} {m : MethodId} {args : Array Value} {below : List Frame} {meth : Method} {c : Code} {E : WE} {Q : Int32 → MI → MJ → Prop} (X : Cx E cX12_next 3 RX12 ((Option.some FieldType.int)) p s m args c meth) : ∀ (v2 : Int32) (t0 : Int32) (I : MI) (J : MJ) (H : Heap) (locs : List Loc) (ls : Array Slot), wX12_next_b176 (wg E) Q v2 t0 I J → Wd E I J s H locs → lv_has ls 3 [(0, .ref (wa E 17 0)), (2, .int v2)] → W p l e (rmO 3 64) s m args below meth c H locs 0 0 (MQ below (QI E Q) args s 0 0 (AA E)) (F0 m 176 ls [.int t0, .ref (wa E 17 0)]) := by
  have hx := X.1.1
  have hb := X.1.2.1
  intro v2 t0 I J H locs ls h hW hl
  refine r_putI X hW 25 (okS hW sc17_0) rfl rfl inX12 tyX12 tyX12_ok nmX12 (Nat.le_of_ble_eq_true rfl) tw859 rfl rfl (isB_n h.1) (isB_f h.1) (Nat.le_of_ble_eq_true rfl) rfl dX12_next_176 (fun H locs hW => ?_)
  have h := h.2
  refine lv_aload_n hx hb dX12_next_179 rfl (lv_at hl 0 rfl) ?_
  refine lv_iload_n hx hb dX12_next_180 rfl (lv_at hl 1 rfl) ?_
  refine lv_bipush (v := 99) hx hb dX12_next_181 (by decide) ?_
  refine lv_icmp_ne (tgt := 190) hx hb dX12_next_183 (by decide) (fun c183 => ?_) (fun c183 => ?_)
  · have h := h.1 c183
    refine lv_iconst (v := 0) hx hb dX12_next_190 (by decide) ?_
    exact bX12_next_191 X v2 0 _ _ _ _ _  h hW (lv_sub hl [0, 1] rfl)
  · have h := h.2 c183
    refine lv_iconst (v := 1) hx hb dX12_next_186 (by decide) ?_
    refine lv_goto (tgt := 191) hx hb dX12_next_187 (by decide) ?_
    exact bX12_next_191 X v2 1 _ _ _ _ _  h hW (lv_sub hl [0, 1] rfl)
def wX12_next_b237 (g : GS) (Q : Int32 → MI → MJ → Prop) (v2 : Int32) (t0 : Int32) (I : MI) (J : MJ) : Prop :=
  isB t0 ∧ (((v2 = 99 → Q 8 (u3 I 17 0 (upd (I 17 0) 26 t0)) J) ∧ (¬ v2 = 99 → ((¬ v2 = 121 → Q ((-1)) (u3 I 17 0 (upd (I 17 0) 26 t0)) J) ∧ (v2 = 121 → Q 8 (u3 I 17 0 (upd (I 17 0) 26 t0)) J)))))
set_option maxHeartbeats 4000000 in
set_option maxRecDepth 100000 in
theorem bX12_next_237 {p : Program} {l : Launch} {e : Env} {s : State} {m : MethodId} {args : Array Value} {below : List Frame} {meth : Method} {c : Code} {E : WE} {Q : Int32 → MI → MJ → Prop} (X : Cx E cX12_next 3 RX12 ((Option.some FieldType.int)) p s m args c meth) : ∀ (v2 : Int32) (t0 : Int32) (I : MI) (J : MJ) (H : Heap) (locs : List Loc) (ls : Array Slot), wX12_next_b237 (wg E) Q v2 t0 I J → Wd E I J s H locs → lv_has ls 3 [(2, .int v2)] → W p l e (rmO 3 64) s m args below meth c H locs 0 0 (MQ below (QI E Q) args s 0 0 (AA E)) (F0 m 237 ls [.int t0, .ref (wa E 17 0)]) := by
  have hx := X.1.1
  have hb := X.1.2.1
  intro v2 t0 I J H locs ls h hW hl
  refine r_putI X hW 26 (okS hW sc17_0) rfl rfl inX12 tyX12 tyX12_ok nmX12 (Nat.le_of_ble_eq_true rfl) tw860 rfl rfl (isB_n h.1) (isB_f h.1) (Nat.le_of_ble_eq_true rfl) rfl dX12_next_237 (fun H locs hW => ?_)
  have h := h.2
  refine lv_iload_n hx hb dX12_next_240 rfl (lv_at hl 0 rfl) ?_
  refine lv_bipush (v := 99) hx hb dX12_next_241 (by decide) ?_
  refine lv_icmp_eq (tgt := 252) hx hb dX12_next_243 (by decide) (fun c243 => ?_) (fun c243 => ?_)
  · have h := h.1 c243
    refine lv_bipush (v := 8) hx hb dX12_next_252 (by decide) ?_
    refine lv_goto (tgt := 258) hx hb dX12_next_254 (by decide) ?_
    exact e_i X hW h dX12_next_258
  · have h := h.2 c243
    refine lv_iload_n hx hb dX12_next_246 rfl (lv_at hl 0 rfl) ?_
    refine lv_bipush (v := 121) hx hb dX12_next_247 (by decide) ?_
    refine lv_icmp_ne (tgt := 257) hx hb dX12_next_249 (by decide) (fun c249 => ?_) (fun c249 => ?_)
    · have h := h.1 c249
      refine lv_iconst (v := (-1)) hx hb dX12_next_257 (by decide) ?_
      exact e_i X hW h dX12_next_258
    · have h := h.2 c249
      refine lv_bipush (v := 8) hx hb dX12_next_252 (by decide) ?_
      refine lv_goto (tgt := 258) hx hb dX12_next_254 (by decide) ?_
      exact e_i X hW h dX12_next_258
def wX12_next (g : GS) (a1 : Int32) (a2 : Int32) (I : MI) (J : MJ) (Q : Int32 → MI → MJ → Prop) : Prop :=
  ((a1 = 0 → ((¬ a2 = 98 → ((¬ a2 = 114 → Q ((-1)) I J) ∧ (a2 = 114 → Q 2 I J))) ∧ (a2 = 98 → Q 1 I J))) ∧ (¬ a1 = 0 → ((a1 = 1 → wX12_within g a2 49 56 (u3 I 17 0 (upd (I 17 0) 22 (a2 - 48))) J (fun r83 I83 J83 => ((r83 = 0 → Q ((-1)) I83 J83) ∧ (¬ r83 = 0 → Q 4 I83 J83)))) ∧ (¬ a1 = 1 → ((a1 = 2 → wX12_within g a2 49 57 (u3 I 17 0 (upd (I 17 0) 23 (a2 - 48))) J (fun r108 I108 J108 => ((r108 = 0 → Q ((-1)) I108 J108) ∧ (¬ r108 = 0 → Q 3 I108 J108)))) ∧ (¬ a1 = 2 → ((a1 = 3 → wX12_nextRatio g a2 I J (fun r122 I122 J122 => Q r122 I122 J122)) ∧ (¬ a1 = 3 → ((a1 = 4 → ((¬ a2 = 113 → Q ((-1)) I J) ∧ (a2 = 113 → Q 5 I J))) ∧ (¬ a1 = 4 → ((a1 = 5 → wX12_within g a2 48 56 (u3 I 17 0 (upd (I 17 0) 24 (a2 - 48))) J (fun r151 I151 J151 => ((r151 = 0 → Q ((-1)) I151 J151) ∧ (¬ r151 = 0 → Q 6 I151 J151)))) ∧ (¬ a1 = 5 → ((a1 = 6 → ((¬ a2 = 116 → wX12_next_b176 g Q a2 0 I J) ∧ (a2 = 116 → wX12_next_b176 g Q a2 1 I J))) ∧ (¬ a1 = 6 → ((a1 = 7 → ((¬ a2 = 99 → wX12_next_b237 g Q a2 0 I J) ∧ (a2 = 99 → wX12_next_b237 g Q a2 1 I J))) ∧ (¬ a1 = 7 → Q ((-1)) I J))))))))))))))))
theorem mbX12_next : MB yX12_next cX12_next 3 ((Option.some FieldType.int)) 2 := ⟨tw968, tw7, ⟨by decide, by decide⟩, by decide +kernel, by decide +kernel⟩
set_option maxHeartbeats 4000000 in
set_option maxRecDepth 100000 in
theorem kX12_next {l : Launch} {E : WE} {a1 : Int32} {a2 : Int32} {I : MI} {J : MJ} {Q : Int32 → MI → MJ → Prop} (h : wX12_next (wg E) a1 a2 I J Q) : Met l yX12_next (wsM yX12_next cX12_next 3 ((Option.some FieldType.int))) (rmO 3 64) (va_Pc [.ref (wa E 17 0), .int a1, .int a2] (Wp E I J)) (QI E Q) 0 0 (AA E) := by
  refine m_entry mbX12_next (Nat.le_of_ble_eq_true rfl) ?_
  intro p e s m args below meth c X ls hW hl
  have X : Cx E cX12_next 3 RX12 ((Option.some FieldType.int)) p s m args c meth := X
  have hx := X.1.1
  have hb := X.1.2.1
  have hl : lv_has ls 3 [(0, .ref (wa E 17 0)), (1, .int a1), (2, .int a2)] := hl
  refine lv_iload_n hx hb dX12_next_0 rfl (lv_at hl 1 rfl) ?_
  by_cases s1_0 : a1 = 0
  · have h := h.1 s1_0
    refine sw_in (tgt := 48) (off := 47) hx hb dX12_next_1 s1_0 (by decide) (by decide) (by decide) (by decide) ?_
    refine lv_iload_n hx hb dX12_next_48 rfl (lv_at hl 2 rfl) ?_
    refine lv_bipush (v := 98) hx hb dX12_next_49 (by decide) ?_
    refine lv_icmp_ne (tgt := 58) hx hb dX12_next_51 (by decide) (fun c51 => ?_) (fun c51 => ?_)
    · have h := h.1 c51
      refine lv_iload_n hx hb dX12_next_58 rfl (lv_at hl 2 rfl) ?_
      refine lv_bipush (v := 114) hx hb dX12_next_59 (by decide) ?_
      refine lv_icmp_ne (tgt := 68) hx hb dX12_next_61 (by decide) (fun c61 => ?_) (fun c61 => ?_)
      · have h := h.1 c61
        refine lv_iconst (v := (-1)) hx hb dX12_next_68 (by decide) ?_
        exact e_i X hW h dX12_next_69
      · have h := h.2 c61
        refine lv_iconst (v := 2) hx hb dX12_next_64 (by decide) ?_
        refine lv_goto (tgt := 69) hx hb dX12_next_65 (by decide) ?_
        exact e_i X hW h dX12_next_69
    · have h := h.2 c51
      refine lv_iconst (v := 1) hx hb dX12_next_54 (by decide) ?_
      refine lv_goto (tgt := 69) hx hb dX12_next_55 (by decide) ?_
      exact e_i X hW h dX12_next_69
  · have h := h.2 s1_0
    by_cases s1_1 : a1 = 1
    · have h := h.1 s1_1
      refine sw_in (tgt := 70) (off := 69) hx hb dX12_next_1 s1_1 (by decide) (by decide) (by decide) (by decide) ?_
      refine lv_aload_n hx hb dX12_next_70 rfl (lv_at hl 0 rfl) ?_
      refine lv_iload_n hx hb dX12_next_71 rfl (lv_at hl 2 rfl) ?_
      refine lv_bipush (v := 48) hx hb dX12_next_72 (by decide) ?_
      refine lv_isub hx hb dX12_next_74 ?_
      refine r_putI X hW 22 (okS hW sc17_0) rfl rfl inX12 tyX12 tyX12_ok nmX12 (Nat.le_of_ble_eq_true rfl) tw856 rfl rfl rfl rfl (Nat.le_of_ble_eq_true rfl) rfl dX12_next_75 (fun H locs hW => ?_)
      refine lv_iload_n hx hb dX12_next_78 rfl (lv_at hl 2 rfl) ?_
      refine lv_bipush (v := 49) hx hb dX12_next_79 (by decide) ?_
      refine lv_bipush (v := 56) hx hb dX12_next_81 (by decide) ?_
      refine af_i hW (rn_S X hW (As := [.int a2, .int 49, .int 56]) (rest := []) (kX12_within h) mbX12_within tw969 tw970 rfl hl.1 (Nat.le_of_ble_eq_true rfl) ⟨(Nat.le_of_ble_eq_true rfl), (Nat.le_of_ble_eq_true rfl)⟩ dX12_next_83) (fun r83 I83 J83 H locs h hW => ?_)
      refine lv_if_eq (tgt := 93) hx hb dX12_next_86 (by decide) (fun c86 => ?_) (fun c86 => ?_)
      · have h := h.1 c86
        refine lv_iconst (v := (-1)) hx hb dX12_next_93 (by decide) ?_
        exact e_i X hW h dX12_next_94
      · have h := h.2 c86
        refine lv_iconst (v := 4) hx hb dX12_next_89 (by decide) ?_
        refine lv_goto (tgt := 94) hx hb dX12_next_90 (by decide) ?_
        exact e_i X hW h dX12_next_94
    · have h := h.2 s1_1
      by_cases s1_2 : a1 = 2
      · have h := h.1 s1_2
        refine sw_in (tgt := 95) (off := 94) hx hb dX12_next_1 s1_2 (by decide) (by decide) (by decide) (by decide) ?_
        refine lv_aload_n hx hb dX12_next_95 rfl (lv_at hl 0 rfl) ?_
        refine lv_iload_n hx hb dX12_next_96 rfl (lv_at hl 2 rfl) ?_
        refine lv_bipush (v := 48) hx hb dX12_next_97 (by decide) ?_
        refine lv_isub hx hb dX12_next_99 ?_
        refine r_putI X hW 23 (okS hW sc17_0) rfl rfl inX12 tyX12 tyX12_ok nmX12 (Nat.le_of_ble_eq_true rfl) tw857 rfl rfl rfl rfl (Nat.le_of_ble_eq_true rfl) rfl dX12_next_100 (fun H locs hW => ?_)
        refine lv_iload_n hx hb dX12_next_103 rfl (lv_at hl 2 rfl) ?_
        refine lv_bipush (v := 49) hx hb dX12_next_104 (by decide) ?_
        refine lv_bipush (v := 57) hx hb dX12_next_106 (by decide) ?_
        refine af_i hW (rn_S X hW (As := [.int a2, .int 49, .int 57]) (rest := []) (kX12_within h) mbX12_within tw969 tw970 rfl hl.1 (Nat.le_of_ble_eq_true rfl) ⟨(Nat.le_of_ble_eq_true rfl), (Nat.le_of_ble_eq_true rfl)⟩ dX12_next_108) (fun r108 I108 J108 H locs h hW => ?_)
        refine lv_if_eq (tgt := 118) hx hb dX12_next_111 (by decide) (fun c111 => ?_) (fun c111 => ?_)
        · have h := h.1 c111
          refine lv_iconst (v := (-1)) hx hb dX12_next_118 (by decide) ?_
          exact e_i X hW h dX12_next_119
        · have h := h.2 c111
          refine lv_iconst (v := 3) hx hb dX12_next_114 (by decide) ?_
          refine lv_goto (tgt := 119) hx hb dX12_next_115 (by decide) ?_
          exact e_i X hW h dX12_next_119
      · have h := h.2 s1_2
        by_cases s1_3 : a1 = 3
        · have h := h.1 s1_3
          refine sw_in (tgt := 120) (off := 119) hx hb dX12_next_1 s1_3 (by decide) (by decide) (by decide) (by decide) ?_
          refine lv_aload_n hx hb dX12_next_120 rfl (lv_at hl 0 rfl) ?_
          refine lv_iload_n hx hb dX12_next_121 rfl (lv_at hl 2 rfl) ?_
          refine af_i hW (rn_V X hW (As := [.int a2]) (rest := []) (okS hW sc17_0) rfl rfl (kX12_nextRatio h) mbX12_nextRatio tw972 tw974 tp27 rfl hl.1 (Nat.le_of_ble_eq_true rfl) ⟨(Nat.le_of_ble_eq_true rfl), (Nat.le_of_ble_eq_true rfl)⟩ dX12_next_122) (fun r122 I122 J122 H locs h hW => ?_)
          exact e_i X hW h dX12_next_125
        · have h := h.2 s1_3
          by_cases s1_4 : a1 = 4
          · have h := h.1 s1_4
            refine sw_in (tgt := 126) (off := 125) hx hb dX12_next_1 s1_4 (by decide) (by decide) (by decide) (by decide) ?_
            refine lv_iload_n hx hb dX12_next_126 rfl (lv_at hl 2 rfl) ?_
            refine lv_bipush (v := 113) hx hb dX12_next_127 (by decide) ?_
            refine lv_icmp_ne (tgt := 136) hx hb dX12_next_129 (by decide) (fun c129 => ?_) (fun c129 => ?_)
            · have h := h.1 c129
              refine lv_iconst (v := (-1)) hx hb dX12_next_136 (by decide) ?_
              exact e_i X hW h dX12_next_137
            · have h := h.2 c129
              refine lv_iconst (v := 5) hx hb dX12_next_132 (by decide) ?_
              refine lv_goto (tgt := 137) hx hb dX12_next_133 (by decide) ?_
              exact e_i X hW h dX12_next_137
          · have h := h.2 s1_4
            by_cases s1_5 : a1 = 5
            · have h := h.1 s1_5
              refine sw_in (tgt := 138) (off := 137) hx hb dX12_next_1 s1_5 (by decide) (by decide) (by decide) (by decide) ?_
              refine lv_aload_n hx hb dX12_next_138 rfl (lv_at hl 0 rfl) ?_
              refine lv_iload_n hx hb dX12_next_139 rfl (lv_at hl 2 rfl) ?_
              refine lv_bipush (v := 48) hx hb dX12_next_140 (by decide) ?_
              refine lv_isub hx hb dX12_next_142 ?_
              refine r_putI X hW 24 (okS hW sc17_0) rfl rfl inX12 tyX12 tyX12_ok nmX12 (Nat.le_of_ble_eq_true rfl) tw858 rfl rfl rfl rfl (Nat.le_of_ble_eq_true rfl) rfl dX12_next_143 (fun H locs hW => ?_)
              refine lv_iload_n hx hb dX12_next_146 rfl (lv_at hl 2 rfl) ?_
              refine lv_bipush (v := 48) hx hb dX12_next_147 (by decide) ?_
              refine lv_bipush (v := 56) hx hb dX12_next_149 (by decide) ?_
              refine af_i hW (rn_S X hW (As := [.int a2, .int 48, .int 56]) (rest := []) (kX12_within h) mbX12_within tw969 tw970 rfl hl.1 (Nat.le_of_ble_eq_true rfl) ⟨(Nat.le_of_ble_eq_true rfl), (Nat.le_of_ble_eq_true rfl)⟩ dX12_next_151) (fun r151 I151 J151 H locs h hW => ?_)
              refine lv_if_eq (tgt := 162) hx hb dX12_next_154 (by decide) (fun c154 => ?_) (fun c154 => ?_)
              · have h := h.1 c154
                refine lv_iconst (v := (-1)) hx hb dX12_next_162 (by decide) ?_
                exact e_i X hW h dX12_next_163
              · have h := h.2 c154
                refine lv_bipush (v := 6) hx hb dX12_next_157 (by decide) ?_
                refine lv_goto (tgt := 163) hx hb dX12_next_159 (by decide) ?_
                exact e_i X hW h dX12_next_163
            · have h := h.2 s1_5
              by_cases s1_6 : a1 = 6
              · have h := h.1 s1_6
                refine sw_in (tgt := 164) (off := 163) hx hb dX12_next_1 s1_6 (by decide) (by decide) (by decide) (by decide) ?_
                refine lv_aload_n hx hb dX12_next_164 rfl (lv_at hl 0 rfl) ?_
                refine lv_iload_n hx hb dX12_next_165 rfl (lv_at hl 2 rfl) ?_
                refine lv_bipush (v := 116) hx hb dX12_next_166 (by decide) ?_
                refine lv_icmp_ne (tgt := 175) hx hb dX12_next_168 (by decide) (fun c168 => ?_) (fun c168 => ?_)
                · have h := h.1 c168
                  refine lv_iconst (v := 0) hx hb dX12_next_175 (by decide) ?_
                  exact bX12_next_176 X a2 0 _ _ _ _ _  h hW (lv_sub hl [0, 2] rfl)
                · have h := h.2 c168
                  refine lv_iconst (v := 1) hx hb dX12_next_171 (by decide) ?_
                  refine lv_goto (tgt := 176) hx hb dX12_next_172 (by decide) ?_
                  exact bX12_next_176 X a2 1 _ _ _ _ _  h hW (lv_sub hl [0, 2] rfl)
              · have h := h.2 s1_6
                by_cases s1_7 : a1 = 7
                · have h := h.1 s1_7
                  refine sw_in (tgt := 225) (off := 224) hx hb dX12_next_1 s1_7 (by decide) (by decide) (by decide) (by decide) ?_
                  refine lv_aload_n hx hb dX12_next_225 rfl (lv_at hl 0 rfl) ?_
                  refine lv_iload_n hx hb dX12_next_226 rfl (lv_at hl 2 rfl) ?_
                  refine lv_bipush (v := 99) hx hb dX12_next_227 (by decide) ?_
                  refine lv_icmp_ne (tgt := 236) hx hb dX12_next_229 (by decide) (fun c229 => ?_) (fun c229 => ?_)
                  · have h := h.1 c229
                    refine lv_iconst (v := 0) hx hb dX12_next_236 (by decide) ?_
                    exact bX12_next_237 X a2 0 _ _ _ _ _  h hW (lv_sub hl [2] rfl)
                  · have h := h.2 c229
                    refine lv_iconst (v := 1) hx hb dX12_next_232 (by decide) ?_
                    refine lv_goto (tgt := 237) hx hb dX12_next_233 (by decide) ?_
                    exact bX12_next_237 X a2 1 _ _ _ _ _  h hW (lv_sub hl [2] rfl)
                · have h := h.2 s1_7
                  have z1 : Int32.toInt a1 < 0 ∨ 7 < Int32.toInt a1 := by
                    have := ne_ti s1_0 (a := 0) (by decide)
                    have := ne_ti s1_1 (a := 1) (by decide)
                    have := ne_ti s1_2 (a := 2) (by decide)
                    have := ne_ti s1_3 (a := 3) (by decide)
                    have := ne_ti s1_4 (a := 4) (by decide)
                    have := ne_ti s1_5 (a := 5) (by decide)
                    have := ne_ti s1_6 (a := 6) (by decide)
                    have := ne_ti s1_7 (a := 7) (by decide)
                    omega
                  refine lv_tableOut (tgt := 259) hx hb dX12_next_1 z1 (by decide) ?_
                  refine lv_iconst (v := (-1)) hx hb dX12_next_259 (by decide) ?_
                  exact e_i X hW h dX12_next_260
def wX12_readPage_b74 (g : GS) (ko16 : Int32 → Int32 → Int32 → MI → MJ → Prop) (Q : MI → MJ → Prop) (v1 : Int32) (v3 : Int32) (t0 : Int32) (t1 : Int32) (I : MI) (J : MJ) : Prop :=
  ko16 v1 (t1 + t0) v3 I J
set_option maxHeartbeats 4000000 in
set_option maxRecDepth 100000 in
theorem bX12_readPage_74 {p : Program} {l : Launch} {e : Env} {s : State} {m : MethodId} {args : Array Value} {below : List Frame} {meth : Method} {c : Code} {E : WE} {Q : MI → MJ → Prop} {ko16 : Int32 → Int32 → Int32 → MI → MJ → Prop} (X : Cx E cX12_readPage 5 RX12 ((Option.none : Option FieldType)) p s m args c meth)
    (hk16 : ∀ (v1 : Int32) (v2 : Int32) (v3 : Int32) (I : MI) (J : MJ) (H : Heap) (locs : List Loc) (ls : Array Slot), ko16 v1 v2 v3 I J → Wd E I J s H locs → lv_has ls 5 [(0, .ref (wa E 17 0)), (1, .int v1), (2, .int v2), (3, .int v3)] → W p l e (rmO 4 86) s m args below meth c H locs 0 0 (MQ below (QV E Q) args s 0 0 (AA E)) (F0 m 16 ls [])) : ∀ (v1 : Int32) (v3 : Int32) (t0 : Int32) (t1 : Int32) (I : MI) (J : MJ) (H : Heap) (locs : List Loc) (ls : Array Slot), wX12_readPage_b74 (wg E) ko16 Q v1 v3 t0 t1 I J → Wd E I J s H locs → lv_has ls 5 [(0, .ref (wa E 17 0)), (1, .int v1), (3, .int v3)] → W p l e (rmO 4 86) s m args below meth c H locs 0 0 (MQ below (QV E Q) args s 0 0 (AA E)) (F0 m 74 ls [.int t0, .int t1]) := by
  have hx := X.1.1
  have hb := X.1.2.1
  intro v1 v3 t0 t1 I J H locs ls h hW hl
  refine lv_iadd hx hb dX12_readPage_74 ?_
  refine lv_istore_n (lv' := [(2, .int (t1 + t0)), (0, .ref (wa E 17 0)), (1, .int v1), (3, .int v3)]) hx hb dX12_readPage_75 rfl hl (by decide) rfl (fun ls hl => ?_)
  refine lv_goto (tgt := 16) hx hb dX12_readPage_76 (by decide) ?_
  exact hk16 v1 (t1 + t0) v3 _ _ _ _ _  h hW (lv_sub hl [1, 2, 0, 3] rfl)
def wX12_readPage_b63 (g : GS) (ko16 : Int32 → Int32 → Int32 → MI → MJ → Prop) (Q : MI → MJ → Prop) (v2 : Int32) (v3 : Int32) (t0 : Int32) (I : MI) (J : MJ) : Prop :=
  ((v3 = 0 → wX12_readPage_b74 g ko16 Q t0 v3 0 v2 I J) ∧ (¬ v3 = 0 → wX12_readPage_b74 g ko16 Q t0 v3 1 v2 I J))
set_option maxHeartbeats 4000000 in
set_option maxRecDepth 100000 in
theorem bX12_readPage_63 {p : Program} {l : Launch} {e : Env} {s : State} {m : MethodId} {args : Array Value} {below : List Frame} {meth : Method} {c : Code} {E : WE} {Q : MI → MJ → Prop} {ko16 : Int32 → Int32 → Int32 → MI → MJ → Prop} (X : Cx E cX12_readPage 5 RX12 ((Option.none : Option FieldType)) p s m args c meth)
    (hk16 : ∀ (v1 : Int32) (v2 : Int32) (v3 : Int32) (I : MI) (J : MJ) (H : Heap) (locs : List Loc) (ls : Array Slot), ko16 v1 v2 v3 I J → Wd E I J s H locs → lv_has ls 5 [(0, .ref (wa E 17 0)), (1, .int v1), (2, .int v2), (3, .int v3)] → W p l e (rmO 4 86) s m args below meth c H locs 0 0 (MQ below (QV E Q) args s 0 0 (AA E)) (F0 m 16 ls [])) : ∀ (v2 : Int32) (v3 : Int32) (t0 : Int32) (I : MI) (J : MJ) (H : Heap) (locs : List Loc) (ls : Array Slot), wX12_readPage_b63 (wg E) ko16 Q v2 v3 t0 I J → Wd E I J s H locs → lv_has ls 5 [(0, .ref (wa E 17 0)), (2, .int v2), (3, .int v3)] → W p l e (rmO 4 86) s m args below meth c H locs 0 0 (MQ below (QV E Q) args s 0 0 (AA E)) (F0 m 63 ls [.int t0]) := by
  have hx := X.1.1
  have hb := X.1.2.1
  intro v2 v3 t0 I J H locs ls h hW hl
  refine lv_istore_n (lv' := [(1, .int t0), (0, .ref (wa E 17 0)), (2, .int v2), (3, .int v3)]) hx hb dX12_readPage_63 rfl hl (by decide) rfl (fun ls hl => ?_)
  refine lv_iload_n hx hb dX12_readPage_64 rfl (lv_at hl 2 rfl) ?_
  refine lv_iload_n hx hb dX12_readPage_65 rfl (lv_at hl 3 rfl) ?_
  refine lv_if_eq (tgt := 73) hx hb dX12_readPage_66 (by decide) (fun c66 => ?_) (fun c66 => ?_)
  · have h := h.1 c66
    refine lv_iconst (v := 0) hx hb dX12_readPage_73 (by decide) ?_
    exact bX12_readPage_74 X hk16 t0 v3 0 v2 _ _ _ _ _  h hW (lv_sub hl [1, 0, 3] rfl)
  · have h := h.2 c66
    refine lv_iconst (v := 1) hx hb dX12_readPage_69 (by decide) ?_
    refine lv_goto (tgt := 74) hx hb dX12_readPage_70 (by decide) ?_
    exact bX12_readPage_74 X hk16 t0 v3 1 v2 _ _ _ _ _  h hW (lv_sub hl [1, 0, 3] rfl)
def wX12_readPage_b52 (g : GS) (ko16 : Int32 → Int32 → Int32 → MI → MJ → Prop) (Q : MI → MJ → Prop) (v1 : Int32) (v2 : Int32) (v4 : Int32) (t0 : Int32) (I : MI) (J : MJ) : Prop :=
  ((t0 = 0 → wX12_readPage_b63 g ko16 Q v2 t0 v1 I J) ∧ (¬ t0 = 0 → wX12_readPage_b63 g ko16 Q v2 t0 v4 I J))
set_option maxHeartbeats 4000000 in
set_option maxRecDepth 100000 in
theorem bX12_readPage_52 {p : Program} {l : Launch} {e : Env} {s : State} {m : MethodId} {args : Array Value} {below : List Frame} {meth : Method} {c : Code} {E : WE} {Q : MI → MJ → Prop} {ko16 : Int32 → Int32 → Int32 → MI → MJ → Prop} (X : Cx E cX12_readPage 5 RX12 ((Option.none : Option FieldType)) p s m args c meth)
    (hk16 : ∀ (v1 : Int32) (v2 : Int32) (v3 : Int32) (I : MI) (J : MJ) (H : Heap) (locs : List Loc) (ls : Array Slot), ko16 v1 v2 v3 I J → Wd E I J s H locs → lv_has ls 5 [(0, .ref (wa E 17 0)), (1, .int v1), (2, .int v2), (3, .int v3)] → W p l e (rmO 4 86) s m args below meth c H locs 0 0 (MQ below (QV E Q) args s 0 0 (AA E)) (F0 m 16 ls [])) : ∀ (v1 : Int32) (v2 : Int32) (v4 : Int32) (t0 : Int32) (I : MI) (J : MJ) (H : Heap) (locs : List Loc) (ls : Array Slot), wX12_readPage_b52 (wg E) ko16 Q v1 v2 v4 t0 I J → Wd E I J s H locs → lv_has ls 5 [(0, .ref (wa E 17 0)), (1, .int v1), (2, .int v2), (4, .int v4)] → W p l e (rmO 4 86) s m args below meth c H locs 0 0 (MQ below (QV E Q) args s 0 0 (AA E)) (F0 m 52 ls [.int t0]) := by
  have hx := X.1.1
  have hb := X.1.2.1
  intro v1 v2 v4 t0 I J H locs ls h hW hl
  refine lv_istore_n (lv' := [(3, .int t0), (0, .ref (wa E 17 0)), (1, .int v1), (2, .int v2), (4, .int v4)]) hx hb dX12_readPage_52 rfl hl (by decide) rfl (fun ls hl => ?_)
  refine lv_iload_n hx hb dX12_readPage_53 rfl (lv_at hl 0 rfl) ?_
  refine lv_if_eq (tgt := 62) hx hb dX12_readPage_54 (by decide) (fun c54 => ?_) (fun c54 => ?_)
  · have h := h.1 c54
    refine lv_iload_n hx hb dX12_readPage_62 rfl (lv_at hl 2 rfl) ?_
    exact bX12_readPage_63 X hk16 v2 t0 v1 _ _ _ _ _  h hW (lv_sub hl [1, 3, 0] rfl)
  · have h := h.2 c54
    refine lv_iload hx hb dX12_readPage_57 (lv_at hl 4 rfl) ?_
    refine lv_goto (tgt := 63) hx hb dX12_readPage_59 (by decide) ?_
    exact bX12_readPage_63 X hk16 v2 t0 v4 _ _ _ _ _  h hW (lv_sub hl [1, 3, 0] rfl)
def wX12_readPage_b104 (g : GS) (Q : MI → MJ → Prop) (t0 : Int32) (I : MI) (J : MJ) : Prop :=
  isB t0 ∧ (Q (u3 I 17 0 (upd (I 17 0) 21 t0)) J)
set_option maxHeartbeats 4000000 in
set_option maxRecDepth 100000 in
theorem bX12_readPage_104 {p : Program} {l : Launch} {e : Env} {s : State} {m : MethodId} {args : Array Value} {below : List Frame} {meth : Method} {c : Code} {E : WE} {Q : MI → MJ → Prop} (X : Cx E cX12_readPage 5 RX12 ((Option.none : Option FieldType)) p s m args c meth) : ∀ (t0 : Int32) (I : MI) (J : MJ) (H : Heap) (locs : List Loc) (ls : Array Slot), wX12_readPage_b104 (wg E) Q t0 I J → Wd E I J s H locs → lv_has ls 5 [] → W p l e (rmO 4 86) s m args below meth c H locs 0 0 (MQ below (QV E Q) args s 0 0 (AA E)) (F0 m 104 ls [.int t0, .ref (wa E 17 0)]) := by
  have hx := X.1.1
  have hb := X.1.2.1
  intro t0 I J H locs ls h hW hl
  refine r_putI X hW 21 (okS hW sc17_0) rfl rfl inX12 tyX12 tyX12_ok nmX12 (Nat.le_of_ble_eq_true rfl) tw855 rfl rfl (isB_n h.1) (isB_f h.1) (Nat.le_of_ble_eq_true rfl) rfl dX12_readPage_104 (fun H locs hW => ?_)
  have h := h.2
  exact e_v X hW h dX12_readPage_107
def wX12_readPage_b103 (g : GS) (Q : MI → MJ → Prop) (I : MI) (J : MJ) : Prop :=
  wX12_readPage_b104 g Q 0 I J
set_option maxHeartbeats 4000000 in
set_option maxRecDepth 100000 in
theorem bX12_readPage_103 {p : Program} {l : Launch} {e : Env} {s : State} {m : MethodId} {args : Array Value} {below : List Frame} {meth : Method} {c : Code} {E : WE} {Q : MI → MJ → Prop} (X : Cx E cX12_readPage 5 RX12 ((Option.none : Option FieldType)) p s m args c meth) : ∀ (I : MI) (J : MJ) (H : Heap) (locs : List Loc) (ls : Array Slot), wX12_readPage_b103 (wg E) Q  I J → Wd E I J s H locs → lv_has ls 5 [] → W p l e (rmO 4 86) s m args below meth c H locs 0 0 (MQ below (QV E Q) args s 0 0 (AA E)) (F0 m 103 ls [.ref (wa E 17 0)]) := by
  have hx := X.1.1
  have hb := X.1.2.1
  intro I J H locs ls h hW hl
  refine lv_iconst (v := 0) hx hb dX12_readPage_103 (by decide) ?_
  exact bX12_readPage_104 X 0 _ _ _ _ _  h hW (lv_sub hl [] rfl)
def wX12_readPage_b79 (g : GS) (Q : MI → MJ → Prop) (v1 : Int32) (v2 : Int32) (I : MI) (J : MJ) : Prop :=
  ((¬ v2 = ((u3 I 17 0 (upd (I 17 0) 20 v2)) 17 0 13) → wX12_readPage_b103 g Q (u3 I 17 0 (upd (I 17 0) 20 v2)) J) ∧ (v2 = ((u3 I 17 0 (upd (I 17 0) 20 v2)) 17 0 13) → ((¬ v1 = 8 → wX12_readPage_b103 g Q (u3 I 17 0 (upd (I 17 0) 20 v2)) J) ∧ (v1 = 8 → wX12_readPage_b104 g Q 1 (u3 I 17 0 (upd (I 17 0) 20 v2)) J))))
set_option maxHeartbeats 4000000 in
set_option maxRecDepth 100000 in
theorem bX12_readPage_79 {p : Program} {l : Launch} {e : Env} {s : State} {m : MethodId} {args : Array Value} {below : List Frame} {meth : Method} {c : Code} {E : WE} {Q : MI → MJ → Prop} (X : Cx E cX12_readPage 5 RX12 ((Option.none : Option FieldType)) p s m args c meth) : ∀ (v1 : Int32) (v2 : Int32) (I : MI) (J : MJ) (H : Heap) (locs : List Loc) (ls : Array Slot), wX12_readPage_b79 (wg E) Q v1 v2 I J → Wd E I J s H locs → lv_has ls 5 [(0, .ref (wa E 17 0)), (1, .int v1), (2, .int v2)] → W p l e (rmO 4 86) s m args below meth c H locs 0 0 (MQ below (QV E Q) args s 0 0 (AA E)) (F0 m 79 ls []) := by
  have hx := X.1.1
  have hb := X.1.2.1
  intro v1 v2 I J H locs ls h hW hl
  refine lv_aload_n hx hb dX12_readPage_79 rfl (lv_at hl 0 rfl) ?_
  refine lv_iload_n hx hb dX12_readPage_80 rfl (lv_at hl 2 rfl) ?_
  refine r_putI X hW 20 (okS hW sc17_0) rfl rfl inX12 tyX12 tyX12_ok nmX12 (Nat.le_of_ble_eq_true rfl) tw854 rfl rfl rfl rfl (Nat.le_of_ble_eq_true rfl) rfl dX12_readPage_81 (fun H locs hW => ?_)
  refine lv_aload_n hx hb dX12_readPage_84 rfl (lv_at hl 0 rfl) ?_
  refine lv_iload_n hx hb dX12_readPage_85 rfl (lv_at hl 2 rfl) ?_
  refine lv_aload_n hx hb dX12_readPage_86 rfl (lv_at hl 0 rfl) ?_
  refine r_get X hW 13 (okS hW sc17_0) rfl rfl inX12 (Nat.le_of_ble_eq_true rfl) tw847 rfl dX12_readPage_87 ?_
  refine lv_icmp_ne (tgt := 103) hx hb dX12_readPage_90 (by decide) (fun c90 => ?_) (fun c90 => ?_)
  · have h := h.1 c90
    exact bX12_readPage_103 X _ _ _ _ _  h hW (lv_sub hl [] rfl)
  · have h := h.2 c90
    refine lv_iload_n hx hb dX12_readPage_93 rfl (lv_at hl 1 rfl) ?_
    refine lv_bipush (v := 8) hx hb dX12_readPage_94 (by decide) ?_
    refine lv_icmp_ne (tgt := 103) hx hb dX12_readPage_96 (by decide) (fun c96 => ?_) (fun c96 => ?_)
    · have h := h.1 c96
      exact bX12_readPage_103 X _ _ _ _ _  h hW (lv_sub hl [] rfl)
    · have h := h.2 c96
      refine lv_iconst (v := 1) hx hb dX12_readPage_99 (by decide) ?_
      refine lv_goto (tgt := 104) hx hb dX12_readPage_100 (by decide) ?_
      exact bX12_readPage_104 X 1 _ _ _ _ _  h hW (lv_sub hl [] rfl)
def wX12_readPage_b16 (g : GS) (Q : MI → MJ → Prop) : Nat → Int32 → Int32 → Int32 → MI → MJ → Prop
  | 0, _, _, _, _, _ => False
  | n + 1, v1, v2, v3, I, J => (((I 17 0 13) ≤ v2 → wX12_readPage_b79 g Q v1 v2 I J) ∧ (¬ (I 17 0 13) ≤ v2 → ((v3 = 0 → wX12_readPage_b79 g Q v1 v2 I J) ∧ (¬ v3 = 0 → vp_in v2 20 ∧ (wX12_next g v1 (I 28 0 (Int32.toNatClampNeg v2)) I J (fun r36 I36 J36 => ((r36 = ((-1)) → wX12_readPage_b52 g (fun v1 v2 v3 I J => wX12_readPage_b16 g Q n v1 v2 v3 I J) Q v1 v2 r36 0 I36 J36) ∧ (¬ r36 = ((-1)) → wX12_readPage_b52 g (fun v1 v2 v3 I J => wX12_readPage_b16 g Q n v1 v2 v3 I J) Q v1 v2 r36 1 I36 J36))))))))
set_option maxHeartbeats 4000000 in
set_option maxRecDepth 100000 in
theorem bX12_readPage_16 {p : Program} {l : Launch} {e : Env} {s : State} {m : MethodId} {args : Array Value} {below : List Frame} {meth : Method} {c : Code} {E : WE} {Q : MI → MJ → Prop} (X : Cx E cX12_readPage 5 RX12 ((Option.none : Option FieldType)) p s m args c meth) (n : Nat) : ∀ (v1 : Int32) (v2 : Int32) (v3 : Int32) (I : MI) (J : MJ) (H : Heap) (locs : List Loc) (ls : Array Slot), wX12_readPage_b16 (wg E) Q n v1 v2 v3 I J → Wd E I J s H locs → lv_has ls 5 [(0, .ref (wa E 17 0)), (1, .int v1), (2, .int v2), (3, .int v3)] → W p l e (rmO 4 86) s m args below meth c H locs 0 0 (MQ below (QV E Q) args s 0 0 (AA E)) (F0 m 16 ls []) := by
  have hx := X.1.1
  have hb := X.1.2.1
  induction n with
  | zero => intro v1 v2 v3 I J H locs ls h hW hl; exact h.elim
  | succ n ih =>
    intro v1 v2 v3 I J H locs ls h hW hl
    refine lv_iload_n hx hb dX12_readPage_16 rfl (lv_at hl 2 rfl) ?_
    refine lv_aload_n hx hb dX12_readPage_17 rfl (lv_at hl 0 rfl) ?_
    refine r_get X hW 13 (okS hW sc17_0) rfl rfl inX12 (Nat.le_of_ble_eq_true rfl) tw847 rfl dX12_readPage_18 ?_
    refine lv_icmp_ge (tgt := 79) hx hb dX12_readPage_21 (by decide) (fun c21 => ?_) (fun c21 => ?_)
    · have h := h.1 c21
      exact bX12_readPage_79 X v1 v2 _ _ _ _ _  h hW (lv_sub hl [0, 1, 2] rfl)
    · have h := h.2 c21
      refine lv_iload_n hx hb dX12_readPage_24 rfl (lv_at hl 3 rfl) ?_
      refine lv_if_eq (tgt := 79) hx hb dX12_readPage_25 (by decide) (fun c25 => ?_) (fun c25 => ?_)
      · have h := h.1 c25
        exact bX12_readPage_79 X v1 v2 _ _ _ _ _  h hW (lv_sub hl [0, 1, 2] rfl)
      · have h := h.2 c25
        refine lv_aload_n hx hb dX12_readPage_28 rfl (lv_at hl 0 rfl) ?_
        refine lv_iload_n hx hb dX12_readPage_29 rfl (lv_at hl 1 rfl) ?_
        refine lv_aload_n hx hb dX12_readPage_30 rfl (lv_at hl 0 rfl) ?_
        refine r_get X hW 14 (okS hW sc17_0) rfl rfl inX12 (Nat.le_of_ble_eq_true rfl) tw848 rfl dX12_readPage_31 ?_
        refine lv_iload_n hx hb dX12_readPage_34 rfl (lv_at hl 2 rfl) ?_
        refine r_bald X hW (okS hW sc28_0) rfl h.1 dX12_readPage_35 ?_
        have h := h.2
        refine af_i hW (rn_V X hW (As := [.int v1, .int (I 28 0 (Int32.toNatClampNeg v2))]) (rest := []) (okS hW sc17_0) rfl rfl (kX12_next h) mbX12_next tw965 tw967 tp26 rfl hl.1 (Nat.le_of_ble_eq_true rfl) ⟨(Nat.le_of_ble_eq_true rfl), (Nat.le_of_ble_eq_true rfl)⟩ dX12_readPage_36) (fun r36 I36 J36 H locs h hW => ?_)
        refine lv_istore (lv' := [(4, .int r36), (0, .ref (wa E 17 0)), (1, .int v1), (2, .int v2), (3, .int v3)]) hx hb dX12_readPage_39 hl (by decide) rfl (fun ls hl => ?_)
        refine lv_iload hx hb dX12_readPage_41 (lv_at hl 0 rfl) ?_
        refine lv_iconst (v := (-1)) hx hb dX12_readPage_43 (by decide) ?_
        refine lv_icmp_eq (tgt := 51) hx hb dX12_readPage_44 (by decide) (fun c44 => ?_) (fun c44 => ?_)
        · have h := h.1 c44
          refine lv_iconst (v := 0) hx hb dX12_readPage_51 (by decide) ?_
          exact bX12_readPage_52 X ih v1 v2 r36 0 _ _ _ _ _  h hW (lv_sub hl [1, 2, 3, 0] rfl)
        · have h := h.2 c44
          refine lv_iconst (v := 1) hx hb dX12_readPage_47 (by decide) ?_
          refine lv_goto (tgt := 52) hx hb dX12_readPage_48 (by decide) ?_
          exact bX12_readPage_52 X ih v1 v2 r36 1 _ _ _ _ _  h hW (lv_sub hl [1, 2, 3, 0] rfl)
def wX12_readPage (g : GS) (I : MI) (J : MJ) (Q : MI → MJ → Prop) : Prop :=
  ∃ n16, wX12_readPage_b16 g Q n16 0 0 1 (u3 (u3 I 17 0 (upd (I 17 0) 22 0)) 17 0 (upd ((u3 I 17 0 (upd (I 17 0) 22 0)) 17 0) 23 0)) J
theorem mbX12_readPage : MB yX12_readPage cX12_readPage 5 ((Option.none : Option FieldType)) 0 := ⟨tw964, tw7, ⟨by decide, by decide⟩, by decide +kernel, by decide +kernel⟩
set_option maxHeartbeats 4000000 in
set_option maxRecDepth 100000 in
theorem kX12_readPage {l : Launch} {E : WE} {I : MI} {J : MJ} {Q : MI → MJ → Prop} (h : wX12_readPage (wg E) I J Q) : Met l yX12_readPage (wsM yX12_readPage cX12_readPage 5 ((Option.none : Option FieldType))) (rmO 4 86) (va_Pc [.ref (wa E 17 0)] (Wp E I J)) (QV E Q) 0 0 (AA E) := by
  refine m_entry mbX12_readPage (Nat.le_of_ble_eq_true rfl) ?_
  intro p e s m args below meth c X ls hW hl
  have X : Cx E cX12_readPage 5 RX12 ((Option.none : Option FieldType)) p s m args c meth := X
  have hx := X.1.1
  have hb := X.1.2.1
  have hl : lv_has ls 5 [(0, .ref (wa E 17 0))] := hl
  refine lv_aload_n hx hb dX12_readPage_0 rfl (lv_at hl 0 rfl) ?_
  refine lv_iconst (v := 0) hx hb dX12_readPage_1 (by decide) ?_
  refine r_putI X hW 22 (okS hW sc17_0) rfl rfl inX12 tyX12 tyX12_ok nmX12 (Nat.le_of_ble_eq_true rfl) tw856 rfl rfl rfl rfl (Nat.le_of_ble_eq_true rfl) rfl dX12_readPage_2 (fun H locs hW => ?_)
  refine lv_aload_n hx hb dX12_readPage_5 rfl (lv_at hl 0 rfl) ?_
  refine lv_iconst (v := 0) hx hb dX12_readPage_6 (by decide) ?_
  refine r_putI X hW 23 (okS hW sc17_0) rfl rfl inX12 tyX12 tyX12_ok nmX12 (Nat.le_of_ble_eq_true rfl) tw857 rfl rfl rfl rfl (Nat.le_of_ble_eq_true rfl) rfl dX12_readPage_7 (fun H locs hW => ?_)
  refine lv_iconst (v := 0) hx hb dX12_readPage_10 (by decide) ?_
  refine lv_istore_n (lv' := [(1, .int 0), (0, .ref (wa E 17 0))]) hx hb dX12_readPage_11 rfl hl (by decide) rfl (fun ls hl => ?_)
  refine lv_iconst (v := 0) hx hb dX12_readPage_12 (by decide) ?_
  refine lv_istore_n (lv' := [(2, .int 0), (1, .int 0), (0, .ref (wa E 17 0))]) hx hb dX12_readPage_13 rfl hl (by decide) rfl (fun ls hl => ?_)
  refine lv_iconst (v := 1) hx hb dX12_readPage_14 (by decide) ?_
  refine lv_istore_n (lv' := [(3, .int 1), (2, .int 0), (1, .int 0), (0, .ref (wa E 17 0))]) hx hb dX12_readPage_15 rfl hl (by decide) rfl (fun ls hl => ?_)
  obtain ⟨n16, h⟩ := h
  exact bX12_readPage_16 X n16 0 0 1 _ _ _ _ _  h hW (lv_sub hl [3, 2, 1, 0] rfl)
