def wX11_evening_b106 (g : GS) (ko67 : Int32 → Int32 → Int32 → Int32 → Nat → Int32 → Int32 → MI → MJ → Prop) (Q : Int32 → MI → MJ → Prop) (v2 : Int32) (v3 : Int32) (v4 : Int32) (v5 : Int32) (v6 : Nat) (v7 : Int32) (v8 : Int32) (I : MI) (J : MJ) : Prop :=
  ko67 v2 v3 v4 v5 v6 v7 (v8 + 1) I J
set_option maxHeartbeats 4000000 in
set_option maxRecDepth 100000 in
theorem bX11_evening_106 {p : Program} {l : Launch} {e : Env} {s : State} {m : MethodId} {args : Array Value} {below : List Frame} {meth : Method} {c : Code} {E : WE} {Q : Int32 → MI → MJ → Prop} {ko67 : Int32 → Int32 → Int32 → Int32 → Nat → Int32 → Int32 → MI → MJ → Prop} (X : Cx E cX11_evening 9 RX11 ((Option.some FieldType.int)) p s m args c meth)
    (hk67 : ∀ (v2 : Int32) (v3 : Int32) (v4 : Int32) (v5 : Int32) (v6 : Nat) (v7 : Int32) (v8 : Int32) (I : MI) (J : MJ) (H : Heap) (locs : List Loc) (ls : Array Slot), v6 < (wg E).2.2 → ko67 v2 v3 v4 v5 v6 v7 v8 I J → Wd E I J s H locs → lv_has ls 9 [(0, .ref (wa E 0 0)), (2, .int v2), (3, .int v3), (4, .int v4), (5, .int v5), (6, .ref (wa E 43 v6)), (7, .int v7), (8, .int v8)] → W p l e (rmO 4 89) s m args below meth c H locs 0 0 (MQ below (QI E Q) args s 0 0 (AA E)) (F0 m 67 ls [])) : ∀ (v2 : Int32) (v3 : Int32) (v4 : Int32) (v5 : Int32) (v6 : Nat) (v7 : Int32) (v8 : Int32) (I : MI) (J : MJ) (H : Heap) (locs : List Loc) (ls : Array Slot), v6 < (wg E).2.2 → wX11_evening_b106 (wg E) ko67 Q v2 v3 v4 v5 v6 v7 v8 I J → Wd E I J s H locs → lv_has ls 9 [(0, .ref (wa E 0 0)), (2, .int v2), (3, .int v3), (4, .int v4), (5, .int v5), (6, .ref (wa E 43 v6)), (7, .int v7), (8, .int v8)] → W p l e (rmO 4 89) s m args below meth c H locs 0 0 (MQ below (QI E Q) args s 0 0 (AA E)) (F0 m 106 ls []) := by
  have hx := X.1.1
  have hb := X.1.2.1
  intro v2 v3 v4 v5 v6 v7 v8 I J H locs ls hp_v6 h hW hl
  refine lv_iinc (v := v8 + 1) (lv' := [(8, .int (v8 + 1)), (0, .ref (wa E 0 0)), (2, .int v2), (3, .int v3), (4, .int v4), (5, .int v5), (6, .ref (wa E 43 v6)), (7, .int v7)]) hx hb dX11_evening_106 hl (k := 7) rfl rfl (by decide) rfl (fun ls hl => ?_)
  refine lv_goto (tgt := 67) hx hb dX11_evening_109 (by decide) ?_
  exact hk67 v2 v3 v4 v5 v6 v7 (v8 + 1) _ _ _ _ _ hp_v6 h hW (lv_sub hl [1, 2, 3, 4, 5, 6, 7, 0] rfl)
def wX11_evening_b67 (g : GS) (Q : Int32 → MI → MJ → Prop) : Nat → Int32 → Int32 → Int32 → Int32 → Nat → Int32 → Int32 → MI → MJ → Prop
  | 0, _, _, _, _, _, _, _, _, _ => False
  | n + 1, v2, v3, v4, v5, v6, v7, v8, I, J => (((I 0 0 10) ≤ v8 → wX0_hold g 0 v6 v4 I J (fun I120 J120 => ((v5 = 0 → Q (I120 10 0 3) I120 J120) ∧ (¬ v5 = 0 → ((v5 = 1 → (((I120 10 0 4) = 0 → Q 0 I120 J120) ∧ (¬ (I120 10 0 4) = 0 → Q 1 I120 J120))) ∧ (¬ v5 = 1 → Q (I120 10 0 2) I120 J120)))))) ∧ (¬ (I 0 0 10) ≤ v8 → wX11_isOneOf g v3 v8 I J (fun r79 I79 J79 => ((r79 = 0 → wX11_evening_b106 g (fun v2 v3 v4 v5 v6 v7 v8 I J => wX11_evening_b67 g Q n v2 v3 v4 v5 v6 v7 v8 I J) Q v2 v3 v4 v5 v6 v7 v8 I79 J79) ∧ (¬ r79 = 0 → vp_in v8 8 ∧ ((¬ (Int32.toNatClampNeg v8) < g.2.1 → False) ∧ ((Int32.toNatClampNeg v8) < g.2.1 → wX11_blackOf g ((Int32.toNatClampNeg v8)) v2 v7 I79 J79 (fun r100 I100 J100 => wX0_seat g 0 r100 I100 J100 (fun I103 J103 => wX11_evening_b106 g (fun v2 v3 v4 v5 v6 v7 v8 I J => wX11_evening_b67 g Q n v2 v3 v4 v5 v6 v7 v8 I J) Q v2 v3 v4 v5 v6 v7 v8 I103 J103)))))))))
set_option maxHeartbeats 4000000 in
set_option maxRecDepth 100000 in
theorem bX11_evening_67 {p : Program} {l : Launch} {e : Env} {s : State} {m : MethodId} {args : Array Value} {below : List Frame} {meth : Method} {c : Code} {E : WE} {Q : Int32 → MI → MJ → Prop} (X : Cx E cX11_evening 9 RX11 ((Option.some FieldType.int)) p s m args c meth) (n : Nat) : ∀ (v2 : Int32) (v3 : Int32) (v4 : Int32) (v5 : Int32) (v6 : Nat) (v7 : Int32) (v8 : Int32) (I : MI) (J : MJ) (H : Heap) (locs : List Loc) (ls : Array Slot), v6 < (wg E).2.2 → wX11_evening_b67 (wg E) Q n v2 v3 v4 v5 v6 v7 v8 I J → Wd E I J s H locs → lv_has ls 9 [(0, .ref (wa E 0 0)), (2, .int v2), (3, .int v3), (4, .int v4), (5, .int v5), (6, .ref (wa E 43 v6)), (7, .int v7), (8, .int v8)] → W p l e (rmO 4 89) s m args below meth c H locs 0 0 (MQ below (QI E Q) args s 0 0 (AA E)) (F0 m 67 ls []) := by
  have hx := X.1.1
  have hb := X.1.2.1
  induction n with
  | zero => intro v2 v3 v4 v5 v6 v7 v8 I J H locs ls hp_v6 h hW hl; exact h.elim
  | succ n ih =>
    intro v2 v3 v4 v5 v6 v7 v8 I J H locs ls hp_v6 h hW hl
    refine lv_iload hx hb dX11_evening_67 (lv_at hl 7 rfl) ?_
    refine lv_aload_n hx hb dX11_evening_69 rfl (lv_at hl 0 rfl) ?_
    refine r_get X hW 10 (okS hW sc0_0) rfl rfl inX11 (Nat.le_of_ble_eq_true rfl) tw142 rfl dX11_evening_70 ?_
    refine lv_icmp_ge (tgt := 112) hx hb dX11_evening_73 (by decide) (fun c73 => ?_) (fun c73 => ?_)
    · have h := h.1 c73
      refine lv_aload_n hx hb dX11_evening_112 rfl (lv_at hl 0 rfl) ?_
      refine r_get X hW 6 (okS hW sc0_0) rfl rfl inX11 (Nat.le_of_ble_eq_true rfl) tw138 rfl dX11_evening_113 ?_
      refine lv_aload hx hb dX11_evening_116 (lv_at hl 5 rfl) ?_
      refine lv_iload hx hb dX11_evening_118 (lv_at hl 3 rfl) ?_
      refine af_v hW (rn_V X hW (As := [.ref (wa E 43 v6), .int v4]) (rest := []) (okS hW sc10_0) rfl rfl (kX0_hold (Nat.le_of_ble_eq_true rfl) hp_v6 h) mbX0_hold tw669 tw670 tw671 rfl hl.1 (Nat.le_of_ble_eq_true rfl) ⟨(Nat.le_of_ble_eq_true rfl), (Nat.le_of_ble_eq_true rfl)⟩ dX11_evening_120) (fun I120 J120 H locs h hW => ?_)
      refine lv_iload hx hb dX11_evening_123 (lv_at hl 4 rfl) ?_
      by_cases s125_0 : v5 = 0
      · have h := h.1 s125_0
        refine lv_lookup (tgt := 152) (off := 27) hx hb dX11_evening_125 (by decide) (by rw [s125_0]; rfl) (by decide) ?_
        refine lv_aload_n hx hb dX11_evening_152 rfl (lv_at hl 0 rfl) ?_
        refine r_get X hW 6 (okS hW sc0_0) rfl rfl inX11 (Nat.le_of_ble_eq_true rfl) tw138 rfl dX11_evening_153 ?_
        refine r_getN X hW 3 (okS hW sc10_0) rfl rfl inX0 (Nat.le_of_ble_eq_true rfl) nw90 rfl dX11_evening_156 ?_
        exact e_i X hW h dX11_evening_159
      · have h := h.2 s125_0
        by_cases s125_1 : v5 = 1
        · have h := h.1 s125_1
          refine lv_lookup (tgt := 160) (off := 35) hx hb dX11_evening_125 (by decide) (by rw [s125_1]; rfl) (by decide) ?_
          refine lv_aload_n hx hb dX11_evening_160 rfl (lv_at hl 0 rfl) ?_
          refine r_get X hW 6 (okS hW sc0_0) rfl rfl inX11 (Nat.le_of_ble_eq_true rfl) tw138 rfl dX11_evening_161 ?_
          refine r_getN X hW 4 (okS hW sc10_0) rfl rfl inX0 (Nat.le_of_ble_eq_true rfl) nw93 rfl dX11_evening_164 ?_
          refine lv_if_eq (tgt := 174) hx hb dX11_evening_167 (by decide) (fun c167 => ?_) (fun c167 => ?_)
          · have h := h.1 c167
            refine lv_iconst (v := 0) hx hb dX11_evening_174 (by decide) ?_
            exact e_i X hW h dX11_evening_175
          · have h := h.2 c167
            refine lv_iconst (v := 1) hx hb dX11_evening_170 (by decide) ?_
            refine lv_goto (tgt := 175) hx hb dX11_evening_171 (by decide) ?_
            exact e_i X hW h dX11_evening_175
        · have h := h.2 s125_1
          refine lv_lookup (tgt := 176) (off := 51) hx hb dX11_evening_125 (by decide) (by rw [lv_osw s125_0 (by decide)]; rw [lv_osw s125_1 (by decide)]; rfl) (by decide) ?_
          refine lv_aload_n hx hb dX11_evening_176 rfl (lv_at hl 0 rfl) ?_
          refine r_get X hW 6 (okS hW sc0_0) rfl rfl inX11 (Nat.le_of_ble_eq_true rfl) tw138 rfl dX11_evening_177 ?_
          refine r_getN X hW 2 (okS hW sc10_0) rfl rfl inX0 (Nat.le_of_ble_eq_true rfl) nw88 rfl dX11_evening_180 ?_
          exact e_i X hW h dX11_evening_183
    · have h := h.2 c73
      refine lv_iload_n hx hb dX11_evening_76 rfl (lv_at hl 2 rfl) ?_
      refine lv_iload hx hb dX11_evening_77 (lv_at hl 7 rfl) ?_
      refine af_i hW (rn_S X hW (As := [.int v3, .int v8]) (rest := []) (kX11_isOneOf h) mbX11_isOneOf tw477 tw478 rfl hl.1 (Nat.le_of_ble_eq_true rfl) ⟨(Nat.le_of_ble_eq_true rfl), (Nat.le_of_ble_eq_true rfl)⟩ dX11_evening_79) (fun r79 I79 J79 H locs h hW => ?_)
      refine lv_if_eq (tgt := 106) hx hb dX11_evening_82 (by decide) (fun c82 => ?_) (fun c82 => ?_)
      · have h := h.1 c82
        exact bX11_evening_106 X ih v2 v3 v4 v5 v6 v7 v8 _ _ _ _ _ hp_v6 h hW (lv_sub hl [0, 1, 2, 3, 4, 5, 6, 7] rfl)
      · have h := h.2 c82
        refine lv_aload_n hx hb dX11_evening_85 rfl (lv_at hl 0 rfl) ?_
        refine r_get X hW 6 (okS hW sc0_0) rfl rfl inX11 (Nat.le_of_ble_eq_true rfl) tw138 rfl dX11_evening_86 ?_
        refine lv_aload_n hx hb dX11_evening_89 rfl (lv_at hl 0 rfl) ?_
        refine lv_aload_n hx hb dX11_evening_90 rfl (lv_at hl 0 rfl) ?_
        refine r_get X hW 2 (okS hW sc0_0) rfl rfl inX11 (Nat.le_of_ble_eq_true rfl) tw134 rfl dX11_evening_91 ?_
        refine lv_iload hx hb dX11_evening_94 (lv_at hl 7 rfl) ?_
        refine r_aaP X hW h.1 dX11_evening_96 (fun c96 => ?_) (fun c96 => ?_)
        · have h := h.2.1 c96
          refine lv_iload_n hx hb dX11_evening_97 rfl (lv_at hl 1 rfl) ?_
          refine lv_iload hx hb dX11_evening_98 (lv_at hl 6 rfl) ?_
          exact h.elim
        · have h := h.2.2 c96
          refine lv_iload_n hx hb dX11_evening_97 rfl (lv_at hl 1 rfl) ?_
          refine lv_iload hx hb dX11_evening_98 (lv_at hl 6 rfl) ?_
          refine af_i hW (rn_V X hW (As := [.ref (wa E 40 (Int32.toNatClampNeg v8)), .int v2, .int v7]) (rest := [.ref (wa E 10 0)]) (okS hW sc0_0) rfl rfl (kX11_blackOf c96 h) mbX11_blackOf tw489 tw491 tp10 rfl hl.1 (Nat.le_of_ble_eq_true rfl) ⟨(Nat.le_of_ble_eq_true rfl), (Nat.le_of_ble_eq_true rfl)⟩ dX11_evening_100) (fun r100 I100 J100 H locs h hW => ?_)
          refine af_v hW (rn_V X hW (As := [.int r100]) (rest := []) (okS hW sc10_0) rfl rfl (kX0_seat (Nat.le_of_ble_eq_true rfl) h) mbX0_seat tw665 tw666 tw667 rfl hl.1 (Nat.le_of_ble_eq_true rfl) ⟨(Nat.le_of_ble_eq_true rfl), (Nat.le_of_ble_eq_true rfl)⟩ dX11_evening_103) (fun I103 J103 H locs h hW => ?_)
          exact bX11_evening_106 X ih v2 v3 v4 v5 v6 v7 v8 _ _ _ _ _ hp_v6 h hW (lv_sub hl [0, 1, 2, 3, 4, 5, 6, 7] rfl)
def wX11_evening (g : GS) (a1 : Int32) (a2 : Int32) (a3 : Int32) (a4 : Int32) (a5 : Int32) (I : MI) (J : MJ) (Q : Int32 → MI → MJ → Prop) : Prop :=
  wX11_ruleAt g a1 I J (fun o2 I2 J2 => (o2 = none → Q ((-101)) I2 J2) ∧ (∀ r2, o2 = some r2 → wX11_isCandidate g a2 I2 J2 (fun r14 I14 J14 => ((¬ r14 = 0 → wX11_areComers g a3 I14 J14 (fun r25 I25 J25 => ((r25 = 0 → Q ((-102)) I25 J25) ∧ (¬ r25 = 0 → ((a4 < 0 → Q ((-102)) I25 J25) ∧ (¬ a4 < 0 → wX11_within g a5 0 2 I25 J25 (fun r40 I40 J40 => ((¬ r40 = 0 → wX11_isWatched g r2 a3 I40 J40 (fun r52 I52 J52 => wX0_begin g 0 I52 J52 (fun I61 J61 => ∃ n67, wX11_evening_b67 g Q n67 a2 a3 a4 a5 r2 r52 0 I61 J61))) ∧ (r40 = 0 → Q ((-102)) I40 J40))))))))) ∧ (r14 = 0 → Q ((-101)) I14 J14)))))
theorem mbX11_evening : MB yX11_evening cX11_evening 9 ((Option.some FieldType.int)) 5 := ⟨tw660, tw1, ⟨by decide, by decide⟩, by decide +kernel, by decide +kernel⟩
set_option maxHeartbeats 4000000 in
set_option maxRecDepth 100000 in
theorem kX11_evening {l : Launch} {E : WE} {a1 : Int32} {a2 : Int32} {a3 : Int32} {a4 : Int32} {a5 : Int32} {I : MI} {J : MJ} {Q : Int32 → MI → MJ → Prop} (h : wX11_evening (wg E) a1 a2 a3 a4 a5 I J Q) : Met l yX11_evening (wsM yX11_evening cX11_evening 9 ((Option.some FieldType.int))) (rmO 4 89) (va_Pc [.ref (wa E 0 0), .int a1, .int a2, .int a3, .int a4, .int a5] (Wp E I J)) (QI E Q) 0 0 (AA E) := by
  refine m_entry mbX11_evening (Nat.le_of_ble_eq_true rfl) ?_
  intro p e s m args below meth c X ls hW hl
  have X : Cx E cX11_evening 9 RX11 ((Option.some FieldType.int)) p s m args c meth := X
  have hx := X.1.1
  have hb := X.1.2.1
  have hl : lv_has ls 9 [(0, .ref (wa E 0 0)), (1, .int a1), (2, .int a2), (3, .int a3), (4, .int a4), (5, .int a5)] := hl
  refine lv_aload_n hx hb dX11_evening_0 rfl (lv_at hl 0 rfl) ?_
  refine lv_iload_n hx hb dX11_evening_1 rfl (lv_at hl 1 rfl) ?_
  refine af_r hW (rn_V X hW (As := [.int a1]) (rest := []) (okS hW sc0_0) rfl rfl (kX11_ruleAt h) mbX11_ruleAt tw258 tw260 tp1 rfl hl.1 (Nat.le_of_ble_eq_true rfl) ⟨(Nat.le_of_ble_eq_true rfl), (Nat.le_of_ble_eq_true rfl)⟩ dX11_evening_2) (fun I2 J2 H locs h hW => ?_) (fun r2 I2 J2 H locs c2 h hW => ?_)
  · have h := h.1 rfl
    refine lv_astoreN (lv' := [(6, .null), (0, .ref (wa E 0 0)), (1, .int a1), (2, .int a2), (3, .int a3), (4, .int a4), (5, .int a5)]) hx hb dX11_evening_5 hl (by decide) rfl (fun ls hl => ?_)
    refine lv_aloadN hx hb dX11_evening_7 (lv_at hl 0 rfl) ?_
    refine lv_ifnullN (tgt := 20) hx hb dX11_evening_9 (by decide) ?_
    refine lv_bipush (v := (-101)) hx hb dX11_evening_20 (by decide) ?_
    exact e_i X hW h dX11_evening_22
  · have h := h.2 r2 rfl
    refine lv_astore (lv' := [(6, .ref (wa E 43 r2)), (0, .ref (wa E 0 0)), (1, .int a1), (2, .int a2), (3, .int a3), (4, .int a4), (5, .int a5)]) hx hb dX11_evening_5 hl (by decide) rfl (fun ls hl => ?_)
    refine lv_aload hx hb dX11_evening_7 (lv_at hl 0 rfl) ?_
    refine lv_ifnull hx hb dX11_evening_9 ?_
    refine lv_aload_n hx hb dX11_evening_12 rfl (lv_at hl 1 rfl) ?_
    refine lv_iload_n hx hb dX11_evening_13 rfl (lv_at hl 3 rfl) ?_
    refine af_i hW (rn_V X hW (As := [.int a2]) (rest := []) (okS hW sc0_0) rfl rfl (kX11_isCandidate h) mbX11_isCandidate tw417 tw419 tp4 rfl hl.1 (Nat.le_of_ble_eq_true rfl) ⟨(Nat.le_of_ble_eq_true rfl), (Nat.le_of_ble_eq_true rfl)⟩ dX11_evening_14) (fun r14 I14 J14 H locs h hW => ?_)
    refine lv_if_ne (tgt := 23) hx hb dX11_evening_17 (by decide) (fun c17 => ?_) (fun c17 => ?_)
    · have h := h.1 c17
      refine lv_aload_n hx hb dX11_evening_23 rfl (lv_at hl 1 rfl) ?_
      refine lv_iload_n hx hb dX11_evening_24 rfl (lv_at hl 4 rfl) ?_
      refine af_i hW (rn_V X hW (As := [.int a3]) (rest := []) (okS hW sc0_0) rfl rfl (kX11_areComers h) mbX11_areComers tw469 tw471 tp8 rfl hl.1 (Nat.le_of_ble_eq_true rfl) ⟨(Nat.le_of_ble_eq_true rfl), (Nat.le_of_ble_eq_true rfl)⟩ dX11_evening_25) (fun r25 I25 J25 H locs h hW => ?_)
      refine lv_if_eq (tgt := 46) hx hb dX11_evening_28 (by decide) (fun c28 => ?_) (fun c28 => ?_)
      · have h := h.1 c28
        refine lv_bipush (v := (-102)) hx hb dX11_evening_46 (by decide) ?_
        exact e_i X hW h dX11_evening_48
      · have h := h.2 c28
        refine lv_iload hx hb dX11_evening_31 (lv_at hl 5 rfl) ?_
        refine lv_if_lt (tgt := 46) hx hb dX11_evening_33 (by decide) (fun c33 => ?_) (fun c33 => ?_)
        · have h := h.1 c33
          refine lv_bipush (v := (-102)) hx hb dX11_evening_46 (by decide) ?_
          exact e_i X hW h dX11_evening_48
        · have h := h.2 c33
          refine lv_iload hx hb dX11_evening_36 (lv_at hl 6 rfl) ?_
          refine lv_iconst (v := 0) hx hb dX11_evening_38 (by decide) ?_
          refine lv_iconst (v := 2) hx hb dX11_evening_39 (by decide) ?_
          refine af_i hW (rn_S X hW (As := [.int a5, .int 0, .int 2]) (rest := []) (kX11_within h) mbX11_within tw262 tw207 rfl hl.1 (Nat.le_of_ble_eq_true rfl) ⟨(Nat.le_of_ble_eq_true rfl), (Nat.le_of_ble_eq_true rfl)⟩ dX11_evening_40) (fun r40 I40 J40 H locs h hW => ?_)
          refine lv_if_ne (tgt := 49) hx hb dX11_evening_43 (by decide) (fun c43 => ?_) (fun c43 => ?_)
          · have h := h.1 c43
            refine lv_aload hx hb dX11_evening_49 (lv_at hl 0 rfl) ?_
            refine lv_iload_n hx hb dX11_evening_51 rfl (lv_at hl 4 rfl) ?_
            refine af_i hW (rn_S X hW (As := [.ref (wa E 43 r2), .int a3]) (rest := []) (kX11_isWatched c2 h) mbX11_isWatched tw480 tw481 rfl hl.1 (Nat.le_of_ble_eq_true rfl) ⟨(Nat.le_of_ble_eq_true rfl), (Nat.le_of_ble_eq_true rfl)⟩ dX11_evening_52) (fun r52 I52 J52 H locs h hW => ?_)
            refine lv_istore (lv' := [(7, .int r52), (6, .ref (wa E 43 r2)), (0, .ref (wa E 0 0)), (1, .int a1), (2, .int a2), (3, .int a3), (4, .int a4), (5, .int a5)]) hx hb dX11_evening_55 hl (by decide) rfl (fun ls hl => ?_)
            refine lv_aload_n hx hb dX11_evening_57 rfl (lv_at hl 2 rfl) ?_
            refine r_get X hW 6 (okS hW sc0_0) rfl rfl inX11 (Nat.le_of_ble_eq_true rfl) tw138 rfl dX11_evening_58 ?_
            refine af_v hW (rn_V X hW (As := []) (rest := []) (okS hW sc10_0) rfl rfl (kX0_begin (Nat.le_of_ble_eq_true rfl) h) mbX0_begin tw661 tw662 tw663 rfl hl.1 (Nat.le_of_ble_eq_true rfl) ⟨(Nat.le_of_ble_eq_true rfl), (Nat.le_of_ble_eq_true rfl)⟩ dX11_evening_61) (fun I61 J61 H locs h hW => ?_)
            refine lv_iconst (v := 0) hx hb dX11_evening_64 (by decide) ?_
            refine lv_istore (lv' := [(8, .int 0), (7, .int r52), (6, .ref (wa E 43 r2)), (0, .ref (wa E 0 0)), (1, .int a1), (2, .int a2), (3, .int a3), (4, .int a4), (5, .int a5)]) hx hb dX11_evening_65 hl (by decide) rfl (fun ls hl => ?_)
            obtain ⟨n67, h⟩ := h
            exact bX11_evening_67 X n67 a2 a3 a4 a5 r2 r52 0 _ _ _ _ _ c2 h hW (lv_sub hl [3, 5, 6, 7, 8, 2, 1, 0] rfl)
          · have h := h.2 c43
            refine lv_bipush (v := (-102)) hx hb dX11_evening_46 (by decide) ?_
            exact e_i X hW h dX11_evening_48
    · have h := h.2 c17
      refine lv_bipush (v := (-101)) hx hb dX11_evening_20 (by decide) ?_
      exact e_i X hW h dX11_evening_22
def wX11_gain (g : GS) (a0 : Nat) (a1 : Int32) (a2 : Int32) (a3 : Int32) (a4 : Int32) (a5 : Int32) (I : MI) (J : MJ) (Q : Int32 → MI → MJ → Prop) : Prop :=
  wX5_mindsOf g a0 a1 I J (fun r23 I23 J23 => wX5_mindsOf g a0 a3 I23 J23 (fun r40 I40 J40 => Q ((((a2 >>> (((a5 >>> (1 &&& 31)) &&& 1) &&& 31)) &&& 1) * (5 - r23)) + (((a4 >>> ((a5 &&& 1) &&& 31)) &&& 1) * (5 - r40))) I40 J40))
theorem mbX11_gain : MB yX11_gain cX11_gain 10 ((Option.some FieldType.int)) 6 := ⟨tw699, tw1, ⟨by decide, by decide⟩, by decide +kernel, by decide +kernel⟩
set_option maxHeartbeats 4000000 in
set_option maxRecDepth 100000 in
theorem kX11_gain {l : Launch} {E : WE} {a0 : Nat} {a1 : Int32} {a2 : Int32} {a3 : Int32} {a4 : Int32} {a5 : Int32} {I : MI} {J : MJ} {Q : Int32 → MI → MJ → Prop} (hp_a0 : a0 < (wg E).2.1) (h : wX11_gain (wg E) a0 a1 a2 a3 a4 a5 I J Q) : Met l yX11_gain (wsM yX11_gain cX11_gain 10 ((Option.some FieldType.int))) (rmO 1 21) (va_Pc [.ref (wa E 40 a0), .int a1, .int a2, .int a3, .int a4, .int a5] (Wp E I J)) (QI E Q) 0 0 (AA E) := by
  refine m_entry mbX11_gain (Nat.le_of_ble_eq_true rfl) ?_
  intro p e s m args below meth c X ls hW hl
  have X : Cx E cX11_gain 10 RX11 ((Option.some FieldType.int)) p s m args c meth := X
  have hx := X.1.1
  have hb := X.1.2.1
  have hl : lv_has ls 10 [(0, .ref (wa E 40 a0)), (1, .int a1), (2, .int a2), (3, .int a3), (4, .int a4), (5, .int a5)] := hl
  refine lv_iload hx hb dX11_gain_0 (lv_at hl 5 rfl) ?_
  refine lv_iconst (v := 1) hx hb dX11_gain_2 (by decide) ?_
  refine lv_iand hx hb dX11_gain_3 ?_
  refine lv_istore (lv' := [(6, .int (a5 &&& 1)), (0, .ref (wa E 40 a0)), (1, .int a1), (2, .int a2), (3, .int a3), (4, .int a4), (5, .int a5)]) hx hb dX11_gain_4 hl (by decide) rfl (fun ls hl => ?_)
  refine lv_iload hx hb dX11_gain_6 (lv_at hl 6 rfl) ?_
  refine lv_iconst (v := 1) hx hb dX11_gain_8 (by decide) ?_
  refine lv_ishr hx hb dX11_gain_9 ?_
  refine lv_iconst (v := 1) hx hb dX11_gain_10 (by decide) ?_
  refine lv_iand hx hb dX11_gain_11 ?_
  refine lv_istore (lv' := [(7, .int ((a5 >>> (1 &&& 31)) &&& 1)), (6, .int (a5 &&& 1)), (0, .ref (wa E 40 a0)), (1, .int a1), (2, .int a2), (3, .int a3), (4, .int a4), (5, .int a5)]) hx hb dX11_gain_12 hl (by decide) rfl (fun ls hl => ?_)
  refine lv_iload_n hx hb dX11_gain_14 rfl (lv_at hl 4 rfl) ?_
  refine lv_iload hx hb dX11_gain_15 (lv_at hl 0 rfl) ?_
  refine lv_ishr hx hb dX11_gain_17 ?_
  refine lv_iconst (v := 1) hx hb dX11_gain_18 (by decide) ?_
  refine lv_iand hx hb dX11_gain_19 ?_
  refine lv_iconst (v := 5) hx hb dX11_gain_20 (by decide) ?_
  refine lv_aload_n hx hb dX11_gain_21 rfl (lv_at hl 2 rfl) ?_
  refine lv_iload_n hx hb dX11_gain_22 rfl (lv_at hl 3 rfl) ?_
  refine af_i hW (rn_P X hW (As := [.int a1]) (rest := [.int 5, .int ((a2 >>> (((a5 >>> (1 &&& 31)) &&& 1) &&& 31)) &&& 1)]) hp_a0 (kX5_mindsOf hp_a0 h) mbX5_mindsOf tw421 tw422 tw425 tw426 tw427 tw428 tw423 rfl hl.1 (Nat.le_of_ble_eq_true rfl) ⟨(Nat.le_of_ble_eq_true rfl), (Nat.le_of_ble_eq_true rfl)⟩ dX11_gain_23) (fun r23 I23 J23 H locs h hW => ?_)
  refine lv_isub hx hb dX11_gain_26 ?_
  refine lv_imul hx hb dX11_gain_27 ?_
  refine lv_istore (lv' := [(8, .int (((a2 >>> (((a5 >>> (1 &&& 31)) &&& 1) &&& 31)) &&& 1) * (5 - r23))), (7, .int ((a5 >>> (1 &&& 31)) &&& 1)), (6, .int (a5 &&& 1)), (0, .ref (wa E 40 a0)), (1, .int a1), (2, .int a2), (3, .int a3), (4, .int a4), (5, .int a5)]) hx hb dX11_gain_28 hl (by decide) rfl (fun ls hl => ?_)
  refine lv_iload hx hb dX11_gain_30 (lv_at hl 7 rfl) ?_
  refine lv_iload hx hb dX11_gain_32 (lv_at hl 2 rfl) ?_
  refine lv_ishr hx hb dX11_gain_34 ?_
  refine lv_iconst (v := 1) hx hb dX11_gain_35 (by decide) ?_
  refine lv_iand hx hb dX11_gain_36 ?_
  refine lv_iconst (v := 5) hx hb dX11_gain_37 (by decide) ?_
  refine lv_aload_n hx hb dX11_gain_38 rfl (lv_at hl 3 rfl) ?_
  refine lv_iload_n hx hb dX11_gain_39 rfl (lv_at hl 6 rfl) ?_
  refine af_i hW (rn_P X hW (As := [.int a3]) (rest := [.int 5, .int ((a4 >>> ((a5 &&& 1) &&& 31)) &&& 1)]) hp_a0 (kX5_mindsOf hp_a0 h) mbX5_mindsOf tw421 tw422 tw425 tw426 tw427 tw428 tw423 rfl hl.1 (Nat.le_of_ble_eq_true rfl) ⟨(Nat.le_of_ble_eq_true rfl), (Nat.le_of_ble_eq_true rfl)⟩ dX11_gain_40) (fun r40 I40 J40 H locs h hW => ?_)
  refine lv_isub hx hb dX11_gain_43 ?_
  refine lv_imul hx hb dX11_gain_44 ?_
  refine lv_istore (lv' := [(9, .int (((a4 >>> ((a5 &&& 1) &&& 31)) &&& 1) * (5 - r40))), (8, .int (((a2 >>> (((a5 >>> (1 &&& 31)) &&& 1) &&& 31)) &&& 1) * (5 - r23))), (7, .int ((a5 >>> (1 &&& 31)) &&& 1)), (6, .int (a5 &&& 1)), (0, .ref (wa E 40 a0)), (1, .int a1), (2, .int a2), (3, .int a3), (4, .int a4), (5, .int a5)]) hx hb dX11_gain_45 hl (by decide) rfl (fun ls hl => ?_)
  refine lv_iload hx hb dX11_gain_47 (lv_at hl 1 rfl) ?_
  refine lv_iload hx hb dX11_gain_49 (lv_at hl 0 rfl) ?_
  refine lv_iadd hx hb dX11_gain_51 ?_
  exact e_i X hW h dX11_gain_52
def wX11_letInByOneBall_b45 (g : GS) (ko6 : Nat → Int32 → Int32 → Int32 → Int32 → Int32 → MI → MJ → Prop) (Q : Int32 → MI → MJ → Prop) (v1 : Nat) (v2 : Int32) (v3 : Int32) (v4 : Int32) (v5 : Int32) (v6 : Int32) (I : MI) (J : MJ) : Prop :=
  ko6 v1 v2 v3 v4 v5 (v6 + 1) I J
set_option maxHeartbeats 4000000 in
set_option maxRecDepth 100000 in
theorem bX11_letInByOneBall_45 {p : Program} {l : Launch} {e : Env} {s : State} {m : MethodId} {args : Array Value} {below : List Frame} {meth : Method} {c : Code} {E : WE} {Q : Int32 → MI → MJ → Prop} {ko6 : Nat → Int32 → Int32 → Int32 → Int32 → Int32 → MI → MJ → Prop} (X : Cx E cX11_letInByOneBall 8 RX11 ((Option.some FieldType.int)) p s m args c meth)
    (hk6 : ∀ (v1 : Nat) (v2 : Int32) (v3 : Int32) (v4 : Int32) (v5 : Int32) (v6 : Int32) (I : MI) (J : MJ) (H : Heap) (locs : List Loc) (ls : Array Slot), v1 < (wg E).2.2 → ko6 v1 v2 v3 v4 v5 v6 I J → Wd E I J s H locs → lv_has ls 8 [(0, .ref (wa E 0 0)), (1, .ref (wa E 43 v1)), (2, .int v2), (3, .int v3), (4, .int v4), (5, .int v5), (6, .int v6)] → W p l e (rmO 2 44) s m args below meth c H locs 0 0 (MQ below (QI E Q) args s 0 0 (AA E)) (F0 m 6 ls [])) : ∀ (v1 : Nat) (v2 : Int32) (v3 : Int32) (v4 : Int32) (v5 : Int32) (v6 : Int32) (I : MI) (J : MJ) (H : Heap) (locs : List Loc) (ls : Array Slot), v1 < (wg E).2.2 → wX11_letInByOneBall_b45 (wg E) ko6 Q v1 v2 v3 v4 v5 v6 I J → Wd E I J s H locs → lv_has ls 8 [(0, .ref (wa E 0 0)), (1, .ref (wa E 43 v1)), (2, .int v2), (3, .int v3), (4, .int v4), (5, .int v5), (6, .int v6)] → W p l e (rmO 2 44) s m args below meth c H locs 0 0 (MQ below (QI E Q) args s 0 0 (AA E)) (F0 m 45 ls []) := by
  have hx := X.1.1
  have hb := X.1.2.1
  intro v1 v2 v3 v4 v5 v6 I J H locs ls hp_v1 h hW hl
  refine lv_iinc (v := v6 + 1) (lv' := [(6, .int (v6 + 1)), (0, .ref (wa E 0 0)), (1, .ref (wa E 43 v1)), (2, .int v2), (3, .int v3), (4, .int v4), (5, .int v5)]) hx hb dX11_letInByOneBall_45 hl (k := 6) rfl rfl (by decide) rfl (fun ls hl => ?_)
  refine lv_goto (tgt := 6) hx hb dX11_letInByOneBall_48 (by decide) ?_
  exact hk6 v1 v2 v3 v4 v5 (v6 + 1) _ _ _ _ _ hp_v1 h hW (lv_sub hl [1, 2, 3, 4, 5, 6, 0] rfl)
def wX11_letInByOneBall_b91 (g : GS) (Q : Int32 → MI → MJ → Prop) (v6 : Int32) (t0 : Int32) (I : MI) (J : MJ) : Prop :=
  Q (v6 ||| t0) I J
set_option maxHeartbeats 4000000 in
set_option maxRecDepth 100000 in
theorem bX11_letInByOneBall_91 {p : Program} {l : Launch} {e : Env} {s : State} {m : MethodId} {args : Array Value} {below : List Frame} {meth : Method} {c : Code} {E : WE} {Q : Int32 → MI → MJ → Prop} (X : Cx E cX11_letInByOneBall 8 RX11 ((Option.some FieldType.int)) p s m args c meth) : ∀ (v6 : Int32) (t0 : Int32) (I : MI) (J : MJ) (H : Heap) (locs : List Loc) (ls : Array Slot), wX11_letInByOneBall_b91 (wg E) Q v6 t0 I J → Wd E I J s H locs → lv_has ls 8 [(6, .int v6)] → W p l e (rmO 2 44) s m args below meth c H locs 0 0 (MQ below (QI E Q) args s 0 0 (AA E)) (F0 m 91 ls [.int t0]) := by
  have hx := X.1.1
  have hb := X.1.2.1
  intro v6 t0 I J H locs ls h hW hl
  refine lv_istore (lv' := [(7, .int t0), (6, .int v6)]) hx hb dX11_letInByOneBall_91 hl (by decide) rfl (fun ls hl => ?_)
  refine lv_iload hx hb dX11_letInByOneBall_93 (lv_at hl 1 rfl) ?_
  refine lv_iload hx hb dX11_letInByOneBall_95 (lv_at hl 0 rfl) ?_
  refine lv_ior hx hb dX11_letInByOneBall_97 ?_
  exact e_i X hW h dX11_letInByOneBall_98
def wX11_letInByOneBall_b69 (g : GS) (Q : Int32 → MI → MJ → Prop) (v1 : Nat) (v5 : Int32) (t0 : Int32) (I : MI) (J : MJ) : Prop :=
  wX6_letsIn g v1 (v5 + 1) (I 0 0 10) I J (fun r80 I80 J80 => ((r80 = 0 → wX11_letInByOneBall_b91 g Q t0 0 I80 J80) ∧ (¬ r80 = 0 → wX11_letInByOneBall_b91 g Q t0 2 I80 J80)))
set_option maxHeartbeats 4000000 in
set_option maxRecDepth 100000 in
theorem bX11_letInByOneBall_69 {p : Program} {l : Launch} {e : Env} {s : State} {m : MethodId} {args : Array Value} {below : List Frame} {meth : Method} {c : Code} {E : WE} {Q : Int32 → MI → MJ → Prop} (X : Cx E cX11_letInByOneBall 8 RX11 ((Option.some FieldType.int)) p s m args c meth) : ∀ (v1 : Nat) (v5 : Int32) (t0 : Int32) (I : MI) (J : MJ) (H : Heap) (locs : List Loc) (ls : Array Slot), v1 < (wg E).2.2 → wX11_letInByOneBall_b69 (wg E) Q v1 v5 t0 I J → Wd E I J s H locs → lv_has ls 8 [(0, .ref (wa E 0 0)), (1, .ref (wa E 43 v1)), (5, .int v5)] → W p l e (rmO 2 44) s m args below meth c H locs 0 0 (MQ below (QI E Q) args s 0 0 (AA E)) (F0 m 69 ls [.int t0]) := by
  have hx := X.1.1
  have hb := X.1.2.1
  intro v1 v5 t0 I J H locs ls hp_v1 h hW hl
  refine lv_istore (lv' := [(6, .int t0), (0, .ref (wa E 0 0)), (1, .ref (wa E 43 v1)), (5, .int v5)]) hx hb dX11_letInByOneBall_69 hl (by decide) rfl (fun ls hl => ?_)
  refine lv_aload_n hx hb dX11_letInByOneBall_71 rfl (lv_at hl 2 rfl) ?_
  refine lv_iload hx hb dX11_letInByOneBall_72 (lv_at hl 3 rfl) ?_
  refine lv_iconst (v := 1) hx hb dX11_letInByOneBall_74 (by decide) ?_
  refine lv_iadd hx hb dX11_letInByOneBall_75 ?_
  refine lv_aload_n hx hb dX11_letInByOneBall_76 rfl (lv_at hl 1 rfl) ?_
  refine r_get X hW 10 (okS hW sc0_0) rfl rfl inX11 (Nat.le_of_ble_eq_true rfl) tw142 rfl dX11_letInByOneBall_77 ?_
  refine af_i hW (rn_V X hW (As := [.int (v5 + 1), .int (I 0 0 10)]) (rest := []) (okR hW hp_v1) rfl rfl (kX6_letsIn hp_v1 h) mbX6_letsIn tw696 tw609 tw610 rfl hl.1 (Nat.le_of_ble_eq_true rfl) ⟨(Nat.le_of_ble_eq_true rfl), (Nat.le_of_ble_eq_true rfl)⟩ dX11_letInByOneBall_80) (fun r80 I80 J80 H locs h hW => ?_)
  refine lv_if_eq (tgt := 90) hx hb dX11_letInByOneBall_83 (by decide) (fun c83 => ?_) (fun c83 => ?_)
  · have h := h.1 c83
    refine lv_iconst (v := 0) hx hb dX11_letInByOneBall_90 (by decide) ?_
    exact bX11_letInByOneBall_91 X t0 0 _ _ _ _ _  h hW (lv_sub hl [0] rfl)
  · have h := h.2 c83
    refine lv_iconst (v := 2) hx hb dX11_letInByOneBall_86 (by decide) ?_
    refine lv_goto (tgt := 91) hx hb dX11_letInByOneBall_87 (by decide) ?_
    exact bX11_letInByOneBall_91 X t0 2 _ _ _ _ _  h hW (lv_sub hl [0] rfl)
def wX11_letInByOneBall_b6 (g : GS) (Q : Int32 → MI → MJ → Prop) : Nat → Nat → Int32 → Int32 → Int32 → Int32 → Int32 → MI → MJ → Prop
  | 0, _, _, _, _, _, _, _, _ => False
  | n + 1, v1, v2, v3, v4, v5, v6, I, J => (((I 0 0 10) ≤ v6 → wX6_letsIn g v1 v5 (I 0 0 10) I J (fun r58 I58 J58 => ((r58 = 0 → wX11_letInByOneBall_b69 g Q v1 v5 0 I58 J58) ∧ (¬ r58 = 0 → wX11_letInByOneBall_b69 g Q v1 v5 1 I58 J58)))) ∧ (¬ (I 0 0 10) ≤ v6 → ((v6 = v3 → wX11_letInByOneBall_b45 g (fun v1 v2 v3 v4 v5 v6 I J => wX11_letInByOneBall_b6 g Q n v1 v2 v3 v4 v5 v6 I J) Q v1 v2 v3 v4 v5 v6 I J) ∧ (¬ v6 = v3 → ((v6 = v4 → wX11_letInByOneBall_b45 g (fun v1 v2 v3 v4 v5 v6 I J => wX11_letInByOneBall_b6 g Q n v1 v2 v3 v4 v5 v6 I J) Q v1 v2 v3 v4 v5 v6 I J) ∧ (¬ v6 = v4 → vp_in v6 8 ∧ ((¬ (Int32.toNatClampNeg v6) < g.2.1 → False) ∧ ((Int32.toNatClampNeg v6) < g.2.1 → wX5_mindsMuch g ((Int32.toNatClampNeg v6)) v2 I J (fun r36 I36 J36 => ((r36 = 0 → wX11_letInByOneBall_b45 g (fun v1 v2 v3 v4 v5 v6 I J => wX11_letInByOneBall_b6 g Q n v1 v2 v3 v4 v5 v6 I J) Q v1 v2 v3 v4 v5 v6 I36 J36) ∧ (¬ r36 = 0 → wX11_letInByOneBall_b45 g (fun v1 v2 v3 v4 v5 v6 I J => wX11_letInByOneBall_b6 g Q n v1 v2 v3 v4 v5 v6 I J) Q v1 v2 v3 v4 (v5 + 1) v6 I36 J36)))))))))))
set_option maxHeartbeats 4000000 in
set_option maxRecDepth 100000 in
theorem bX11_letInByOneBall_6 {p : Program} {l : Launch} {e : Env} {s : State} {m : MethodId} {args : Array Value} {below : List Frame} {meth : Method} {c : Code} {E : WE} {Q : Int32 → MI → MJ → Prop} (X : Cx E cX11_letInByOneBall 8 RX11 ((Option.some FieldType.int)) p s m args c meth) (n : Nat) : ∀ (v1 : Nat) (v2 : Int32) (v3 : Int32) (v4 : Int32) (v5 : Int32) (v6 : Int32) (I : MI) (J : MJ) (H : Heap) (locs : List Loc) (ls : Array Slot), v1 < (wg E).2.2 → wX11_letInByOneBall_b6 (wg E) Q n v1 v2 v3 v4 v5 v6 I J → Wd E I J s H locs → lv_has ls 8 [(0, .ref (wa E 0 0)), (1, .ref (wa E 43 v1)), (2, .int v2), (3, .int v3), (4, .int v4), (5, .int v5), (6, .int v6)] → W p l e (rmO 2 44) s m args below meth c H locs 0 0 (MQ below (QI E Q) args s 0 0 (AA E)) (F0 m 6 ls []) := by
  have hx := X.1.1
  have hb := X.1.2.1
  induction n with
  | zero => intro v1 v2 v3 v4 v5 v6 I J H locs ls hp_v1 h hW hl; exact h.elim
  | succ n ih =>
    intro v1 v2 v3 v4 v5 v6 I J H locs ls hp_v1 h hW hl
    refine lv_iload hx hb dX11_letInByOneBall_6 (lv_at hl 6 rfl) ?_
    refine lv_aload_n hx hb dX11_letInByOneBall_8 rfl (lv_at hl 0 rfl) ?_
    refine r_get X hW 10 (okS hW sc0_0) rfl rfl inX11 (Nat.le_of_ble_eq_true rfl) tw142 rfl dX11_letInByOneBall_9 ?_
    refine lv_icmp_ge (tgt := 51) hx hb dX11_letInByOneBall_12 (by decide) (fun c12 => ?_) (fun c12 => ?_)
    · have h := h.1 c12
      refine lv_aload_n hx hb dX11_letInByOneBall_51 rfl (lv_at hl 1 rfl) ?_
      refine lv_iload hx hb dX11_letInByOneBall_52 (lv_at hl 5 rfl) ?_
      refine lv_aload_n hx hb dX11_letInByOneBall_54 rfl (lv_at hl 0 rfl) ?_
      refine r_get X hW 10 (okS hW sc0_0) rfl rfl inX11 (Nat.le_of_ble_eq_true rfl) tw142 rfl dX11_letInByOneBall_55 ?_
      refine af_i hW (rn_V X hW (As := [.int v5, .int (I 0 0 10)]) (rest := []) (okR hW hp_v1) rfl rfl (kX6_letsIn hp_v1 h) mbX6_letsIn tw696 tw609 tw610 rfl hl.1 (Nat.le_of_ble_eq_true rfl) ⟨(Nat.le_of_ble_eq_true rfl), (Nat.le_of_ble_eq_true rfl)⟩ dX11_letInByOneBall_58) (fun r58 I58 J58 H locs h hW => ?_)
      refine lv_if_eq (tgt := 68) hx hb dX11_letInByOneBall_61 (by decide) (fun c61 => ?_) (fun c61 => ?_)
      · have h := h.1 c61
        refine lv_iconst (v := 0) hx hb dX11_letInByOneBall_68 (by decide) ?_
        exact bX11_letInByOneBall_69 X v1 v5 0 _ _ _ _ _ hp_v1 h hW (lv_sub hl [0, 1, 5] rfl)
      · have h := h.2 c61
        refine lv_iconst (v := 1) hx hb dX11_letInByOneBall_64 (by decide) ?_
        refine lv_goto (tgt := 69) hx hb dX11_letInByOneBall_65 (by decide) ?_
        exact bX11_letInByOneBall_69 X v1 v5 1 _ _ _ _ _ hp_v1 h hW (lv_sub hl [0, 1, 5] rfl)
    · have h := h.2 c12
      refine lv_iload hx hb dX11_letInByOneBall_15 (lv_at hl 6 rfl) ?_
      refine lv_iload_n hx hb dX11_letInByOneBall_17 rfl (lv_at hl 3 rfl) ?_
      refine lv_icmp_eq (tgt := 45) hx hb dX11_letInByOneBall_18 (by decide) (fun c18 => ?_) (fun c18 => ?_)
      · have h := h.1 c18
        exact bX11_letInByOneBall_45 X ih v1 v2 v3 v4 v5 v6 _ _ _ _ _ hp_v1 h hW (lv_sub hl [0, 1, 2, 3, 4, 5, 6] rfl)
      · have h := h.2 c18
        refine lv_iload hx hb dX11_letInByOneBall_21 (lv_at hl 6 rfl) ?_
        refine lv_iload hx hb dX11_letInByOneBall_23 (lv_at hl 4 rfl) ?_
        refine lv_icmp_eq (tgt := 45) hx hb dX11_letInByOneBall_25 (by decide) (fun c25 => ?_) (fun c25 => ?_)
        · have h := h.1 c25
          exact bX11_letInByOneBall_45 X ih v1 v2 v3 v4 v5 v6 _ _ _ _ _ hp_v1 h hW (lv_sub hl [0, 1, 2, 3, 4, 5, 6] rfl)
        · have h := h.2 c25
          refine lv_aload_n hx hb dX11_letInByOneBall_28 rfl (lv_at hl 0 rfl) ?_
          refine r_get X hW 2 (okS hW sc0_0) rfl rfl inX11 (Nat.le_of_ble_eq_true rfl) tw134 rfl dX11_letInByOneBall_29 ?_
          refine lv_iload hx hb dX11_letInByOneBall_32 (lv_at hl 6 rfl) ?_
          refine r_aaP X hW h.1 dX11_letInByOneBall_34 (fun c34 => ?_) (fun c34 => ?_)
          · have h := h.2.1 c34
            refine lv_iload_n hx hb dX11_letInByOneBall_35 rfl (lv_at hl 2 rfl) ?_
            exact h.elim
          · have h := h.2.2 c34
            refine lv_iload_n hx hb dX11_letInByOneBall_35 rfl (lv_at hl 2 rfl) ?_
            refine af_i hW (rn_P X hW (As := [.int v2]) (rest := []) c34 (kX5_mindsMuch c34 h) mbX5_mindsMuch tw455 tw456 tw459 tw460 tw461 tw462 tw457 rfl hl.1 (Nat.le_of_ble_eq_true rfl) ⟨(Nat.le_of_ble_eq_true rfl), (Nat.le_of_ble_eq_true rfl)⟩ dX11_letInByOneBall_36) (fun r36 I36 J36 H locs h hW => ?_)
            refine lv_if_eq (tgt := 45) hx hb dX11_letInByOneBall_39 (by decide) (fun c39 => ?_) (fun c39 => ?_)
            · have h := h.1 c39
              exact bX11_letInByOneBall_45 X ih v1 v2 v3 v4 v5 v6 _ _ _ _ _ hp_v1 h hW (lv_sub hl [0, 1, 2, 3, 4, 5, 6] rfl)
            · have h := h.2 c39
              refine lv_iinc (v := v5 + 1) (lv' := [(5, .int (v5 + 1)), (0, .ref (wa E 0 0)), (1, .ref (wa E 43 v1)), (2, .int v2), (3, .int v3), (4, .int v4), (6, .int v6)]) hx hb dX11_letInByOneBall_42 hl (k := 5) rfl rfl (by decide) rfl (fun ls hl => ?_)
              exact bX11_letInByOneBall_45 X ih v1 v2 v3 v4 (v5 + 1) v6 _ _ _ _ _ hp_v1 h hW (lv_sub hl [1, 2, 3, 4, 5, 0, 6] rfl)
def wX11_letInByOneBall (g : GS) (a1 : Nat) (a2 : Int32) (a3 : Int32) (a4 : Int32) (I : MI) (J : MJ) (Q : Int32 → MI → MJ → Prop) : Prop :=
  ∃ n6, wX11_letInByOneBall_b6 g Q n6 a1 a2 a3 a4 0 0 I J
theorem mbX11_letInByOneBall : MB yX11_letInByOneBall cX11_letInByOneBall 8 ((Option.some FieldType.int)) 4 := ⟨tw695, tw1, ⟨by decide, by decide⟩, by decide +kernel, by decide +kernel⟩
set_option maxHeartbeats 4000000 in
set_option maxRecDepth 100000 in
theorem kX11_letInByOneBall {l : Launch} {E : WE} {a1 : Nat} {a2 : Int32} {a3 : Int32} {a4 : Int32} {I : MI} {J : MJ} {Q : Int32 → MI → MJ → Prop} (hp_a1 : a1 < (wg E).2.2) (h : wX11_letInByOneBall (wg E) a1 a2 a3 a4 I J Q) : Met l yX11_letInByOneBall (wsM yX11_letInByOneBall cX11_letInByOneBall 8 ((Option.some FieldType.int))) (rmO 2 44) (va_Pc [.ref (wa E 0 0), .ref (wa E 43 a1), .int a2, .int a3, .int a4] (Wp E I J)) (QI E Q) 0 0 (AA E) := by
  refine m_entry mbX11_letInByOneBall (Nat.le_of_ble_eq_true rfl) ?_
  intro p e s m args below meth c X ls hW hl
  have X : Cx E cX11_letInByOneBall 8 RX11 ((Option.some FieldType.int)) p s m args c meth := X
  have hx := X.1.1
  have hb := X.1.2.1
  have hl : lv_has ls 8 [(0, .ref (wa E 0 0)), (1, .ref (wa E 43 a1)), (2, .int a2), (3, .int a3), (4, .int a4)] := hl
  refine lv_iconst (v := 0) hx hb dX11_letInByOneBall_0 (by decide) ?_
  refine lv_istore (lv' := [(5, .int 0), (0, .ref (wa E 0 0)), (1, .ref (wa E 43 a1)), (2, .int a2), (3, .int a3), (4, .int a4)]) hx hb dX11_letInByOneBall_1 hl (by decide) rfl (fun ls hl => ?_)
  refine lv_iconst (v := 0) hx hb dX11_letInByOneBall_3 (by decide) ?_
  refine lv_istore (lv' := [(6, .int 0), (5, .int 0), (0, .ref (wa E 0 0)), (1, .ref (wa E 43 a1)), (2, .int a2), (3, .int a3), (4, .int a4)]) hx hb dX11_letInByOneBall_4 hl (by decide) rfl (fun ls hl => ?_)
  obtain ⟨n6, h⟩ := h
  exact bX11_letInByOneBall_6 X n6 a1 a2 a3 a4 0 0 _ _ _ _ _ hp_a1 h hW (lv_sub hl [2, 3, 4, 5, 6, 1, 0] rfl)
def wX11_trade_b211 (g : GS) (ko102 : Int32 → Int32 → Nat → Nat → Int32 → Int32 → Int32 → Int32 → MI → MJ → Prop) (Q : Int32 → MI → MJ → Prop) (v4 : Int32) (v5 : Int32) (v7 : Nat) (v8 : Nat) (v9 : Int32) (v10 : Int32) (v11 : Int32) (v12 : Int32) (I : MI) (J : MJ) : Prop :=
  ko102 v4 v5 v7 v8 v9 v10 v11 (v12 + 1) I J
set_option maxHeartbeats 4000000 in
set_option maxRecDepth 100000 in
theorem bX11_trade_211 {p : Program} {l : Launch} {e : Env} {s : State} {m : MethodId} {args : Array Value} {below : List Frame} {meth : Method} {c : Code} {E : WE} {Q : Int32 → MI → MJ → Prop} {ko102 : Int32 → Int32 → Nat → Nat → Int32 → Int32 → Int32 → Int32 → MI → MJ → Prop} (X : Cx E cX11_trade 15 RX11 ((Option.some FieldType.int)) p s m args c meth)
    (hk102 : ∀ (v4 : Int32) (v5 : Int32) (v7 : Nat) (v8 : Nat) (v9 : Int32) (v10 : Int32) (v11 : Int32) (v12 : Int32) (I : MI) (J : MJ) (H : Heap) (locs : List Loc) (ls : Array Slot), v7 < (wg E).2.1 → v8 < (wg E).2.1 → ko102 v4 v5 v7 v8 v9 v10 v11 v12 I J → Wd E I J s H locs → lv_has ls 15 [(4, .int v4), (5, .int v5), (7, .ref (wa E 40 v7)), (8, .ref (wa E 40 v8)), (9, .int v9), (10, .int v10), (11, .int v11), (12, .int v12)] → W p l e (rmO 3 71) s m args below meth c H locs 0 0 (MQ below (QI E Q) args s 0 0 (AA E)) (F0 m 102 ls [])) : ∀ (v4 : Int32) (v5 : Int32) (v7 : Nat) (v8 : Nat) (v9 : Int32) (v10 : Int32) (v11 : Int32) (v12 : Int32) (I : MI) (J : MJ) (H : Heap) (locs : List Loc) (ls : Array Slot), v7 < (wg E).2.1 → v8 < (wg E).2.1 → wX11_trade_b211 (wg E) ko102 Q v4 v5 v7 v8 v9 v10 v11 v12 I J → Wd E I J s H locs → lv_has ls 15 [(4, .int v4), (5, .int v5), (7, .ref (wa E 40 v7)), (8, .ref (wa E 40 v8)), (9, .int v9), (10, .int v10), (11, .int v11), (12, .int v12)] → W p l e (rmO 3 71) s m args below meth c H locs 0 0 (MQ below (QI E Q) args s 0 0 (AA E)) (F0 m 211 ls []) := by
  have hx := X.1.1
  have hb := X.1.2.1
  intro v4 v5 v7 v8 v9 v10 v11 v12 I J H locs ls hp_v7 hp_v8 h hW hl
  refine lv_iinc (v := v12 + 1) (lv' := [(12, .int (v12 + 1)), (4, .int v4), (5, .int v5), (7, .ref (wa E 40 v7)), (8, .ref (wa E 40 v8)), (9, .int v9), (10, .int v10), (11, .int v11)]) hx hb dX11_trade_211 hl (k := 7) rfl rfl (by decide) rfl (fun ls hl => ?_)
  refine lv_goto (tgt := 102) hx hb dX11_trade_214 (by decide) ?_
  exact hk102 v4 v5 v7 v8 v9 v10 v11 (v12 + 1) _ _ _ _ _ hp_v7 hp_v8 h hW (lv_sub hl [1, 2, 3, 4, 5, 6, 7, 0] rfl)
def wX11_trade_b190 (g : GS) (ko102 : Int32 → Int32 → Nat → Nat → Int32 → Int32 → Int32 → Int32 → MI → MJ → Prop) (Q : Int32 → MI → MJ → Prop) (v4 : Int32) (v5 : Int32) (v7 : Nat) (v8 : Nat) (v9 : Int32) (v10 : Int32) (v11 : Int32) (v12 : Int32) (v13 : Int32) (t0 : Int32) (I : MI) (J : MJ) : Prop :=
  ((v13 = 0 → wX11_trade_b211 g ko102 Q v4 v5 v7 v8 v9 v10 v11 v12 I J) ∧ (¬ v13 = 0 → ((t0 = 0 → wX11_trade_b211 g ko102 Q v4 v5 v7 v8 v9 v10 v11 v12 I J) ∧ (¬ t0 = 0 → wX11_trade_b211 g ko102 Q v4 v5 v7 v8 v9 v10 (v11 ||| (1 <<< (v12 &&& 31))) v12 I J))))
set_option maxHeartbeats 4000000 in
set_option maxRecDepth 100000 in
theorem bX11_trade_190 {p : Program} {l : Launch} {e : Env} {s : State} {m : MethodId} {args : Array Value} {below : List Frame} {meth : Method} {c : Code} {E : WE} {Q : Int32 → MI → MJ → Prop} {ko102 : Int32 → Int32 → Nat → Nat → Int32 → Int32 → Int32 → Int32 → MI → MJ → Prop} (X : Cx E cX11_trade 15 RX11 ((Option.some FieldType.int)) p s m args c meth)
    (hk102 : ∀ (v4 : Int32) (v5 : Int32) (v7 : Nat) (v8 : Nat) (v9 : Int32) (v10 : Int32) (v11 : Int32) (v12 : Int32) (I : MI) (J : MJ) (H : Heap) (locs : List Loc) (ls : Array Slot), v7 < (wg E).2.1 → v8 < (wg E).2.1 → ko102 v4 v5 v7 v8 v9 v10 v11 v12 I J → Wd E I J s H locs → lv_has ls 15 [(4, .int v4), (5, .int v5), (7, .ref (wa E 40 v7)), (8, .ref (wa E 40 v8)), (9, .int v9), (10, .int v10), (11, .int v11), (12, .int v12)] → W p l e (rmO 3 71) s m args below meth c H locs 0 0 (MQ below (QI E Q) args s 0 0 (AA E)) (F0 m 102 ls [])) : ∀ (v4 : Int32) (v5 : Int32) (v7 : Nat) (v8 : Nat) (v9 : Int32) (v10 : Int32) (v11 : Int32) (v12 : Int32) (v13 : Int32) (t0 : Int32) (I : MI) (J : MJ) (H : Heap) (locs : List Loc) (ls : Array Slot), v7 < (wg E).2.1 → v8 < (wg E).2.1 → wX11_trade_b190 (wg E) ko102 Q v4 v5 v7 v8 v9 v10 v11 v12 v13 t0 I J → Wd E I J s H locs → lv_has ls 15 [(4, .int v4), (5, .int v5), (7, .ref (wa E 40 v7)), (8, .ref (wa E 40 v8)), (9, .int v9), (10, .int v10), (11, .int v11), (12, .int v12), (13, .int v13)] → W p l e (rmO 3 71) s m args below meth c H locs 0 0 (MQ below (QI E Q) args s 0 0 (AA E)) (F0 m 190 ls [.int t0]) := by
  have hx := X.1.1
  have hb := X.1.2.1
  intro v4 v5 v7 v8 v9 v10 v11 v12 v13 t0 I J H locs ls hp_v7 hp_v8 h hW hl
  refine lv_istore (lv' := [(14, .int t0), (4, .int v4), (5, .int v5), (7, .ref (wa E 40 v7)), (8, .ref (wa E 40 v8)), (9, .int v9), (10, .int v10), (11, .int v11), (12, .int v12), (13, .int v13)]) hx hb dX11_trade_190 hl (by decide) rfl (fun ls hl => ?_)
  refine lv_iload hx hb dX11_trade_192 (lv_at hl 9 rfl) ?_
  refine lv_if_eq (tgt := 211) hx hb dX11_trade_194 (by decide) (fun c194 => ?_) (fun c194 => ?_)
  · have h := h.1 c194
    exact bX11_trade_211 X hk102 v4 v5 v7 v8 v9 v10 v11 v12 _ _ _ _ _ hp_v7 hp_v8 h hW (lv_sub hl [1, 2, 3, 4, 5, 6, 7, 8] rfl)
  · have h := h.2 c194
    refine lv_iload hx hb dX11_trade_197 (lv_at hl 0 rfl) ?_
    refine lv_if_eq (tgt := 211) hx hb dX11_trade_199 (by decide) (fun c199 => ?_) (fun c199 => ?_)
    · have h := h.1 c199
      exact bX11_trade_211 X hk102 v4 v5 v7 v8 v9 v10 v11 v12 _ _ _ _ _ hp_v7 hp_v8 h hW (lv_sub hl [1, 2, 3, 4, 5, 6, 7, 8] rfl)
    · have h := h.2 c199
      refine lv_iload hx hb dX11_trade_202 (lv_at hl 7 rfl) ?_
      refine lv_iconst (v := 1) hx hb dX11_trade_204 (by decide) ?_
      refine lv_iload hx hb dX11_trade_205 (lv_at hl 8 rfl) ?_
      refine lv_ishl hx hb dX11_trade_207 ?_
      refine lv_ior hx hb dX11_trade_208 ?_
      refine lv_istore (lv' := [(11, .int (v11 ||| (1 <<< (v12 &&& 31)))), (14, .int t0), (4, .int v4), (5, .int v5), (7, .ref (wa E 40 v7)), (8, .ref (wa E 40 v8)), (9, .int v9), (10, .int v10), (12, .int v12), (13, .int v13)]) hx hb dX11_trade_209 hl (by decide) rfl (fun ls hl => ?_)
      exact bX11_trade_211 X hk102 v4 v5 v7 v8 v9 v10 (v11 ||| (1 <<< (v12 &&& 31))) v12 _ _ _ _ _ hp_v7 hp_v8 h hW (lv_sub hl [2, 3, 4, 5, 6, 7, 0, 8] rfl)
def wX11_trade_b148 (g : GS) (ko102 : Int32 → Int32 → Nat → Nat → Int32 → Int32 → Int32 → Int32 → MI → MJ → Prop) (Q : Int32 → MI → MJ → Prop) (v4 : Int32) (v5 : Int32) (v7 : Nat) (v8 : Nat) (v9 : Int32) (v10 : Int32) (v11 : Int32) (v12 : Int32) (t0 : Int32) (I : MI) (J : MJ) : Prop :=
  wX11_gain g v8 v4 v9 v5 v10 v12 I J (fun r162 I162 J162 => wX11_gain g v8 v4 v9 v5 v10 (v12 ^^^ 2) I162 J162 (fun r179 I179 J179 => ((r162 < r179 → wX11_trade_b190 g ko102 Q v4 v5 v7 v8 v9 v10 v11 v12 t0 0 I179 J179) ∧ (¬ r162 < r179 → wX11_trade_b190 g ko102 Q v4 v5 v7 v8 v9 v10 v11 v12 t0 1 I179 J179))))
set_option maxHeartbeats 4000000 in
set_option maxRecDepth 100000 in
theorem bX11_trade_148 {p : Program} {l : Launch} {e : Env} {s : State} {m : MethodId} {args : Array Value} {below : List Frame} {meth : Method} {c : Code} {E : WE} {Q : Int32 → MI → MJ → Prop} {ko102 : Int32 → Int32 → Nat → Nat → Int32 → Int32 → Int32 → Int32 → MI → MJ → Prop} (X : Cx E cX11_trade 15 RX11 ((Option.some FieldType.int)) p s m args c meth)
    (hk102 : ∀ (v4 : Int32) (v5 : Int32) (v7 : Nat) (v8 : Nat) (v9 : Int32) (v10 : Int32) (v11 : Int32) (v12 : Int32) (I : MI) (J : MJ) (H : Heap) (locs : List Loc) (ls : Array Slot), v7 < (wg E).2.1 → v8 < (wg E).2.1 → ko102 v4 v5 v7 v8 v9 v10 v11 v12 I J → Wd E I J s H locs → lv_has ls 15 [(4, .int v4), (5, .int v5), (7, .ref (wa E 40 v7)), (8, .ref (wa E 40 v8)), (9, .int v9), (10, .int v10), (11, .int v11), (12, .int v12)] → W p l e (rmO 3 71) s m args below meth c H locs 0 0 (MQ below (QI E Q) args s 0 0 (AA E)) (F0 m 102 ls [])) : ∀ (v4 : Int32) (v5 : Int32) (v7 : Nat) (v8 : Nat) (v9 : Int32) (v10 : Int32) (v11 : Int32) (v12 : Int32) (t0 : Int32) (I : MI) (J : MJ) (H : Heap) (locs : List Loc) (ls : Array Slot), v7 < (wg E).2.1 → v8 < (wg E).2.1 → wX11_trade_b148 (wg E) ko102 Q v4 v5 v7 v8 v9 v10 v11 v12 t0 I J → Wd E I J s H locs → lv_has ls 15 [(4, .int v4), (5, .int v5), (7, .ref (wa E 40 v7)), (8, .ref (wa E 40 v8)), (9, .int v9), (10, .int v10), (11, .int v11), (12, .int v12)] → W p l e (rmO 3 71) s m args below meth c H locs 0 0 (MQ below (QI E Q) args s 0 0 (AA E)) (F0 m 148 ls [.int t0]) := by
  have hx := X.1.1
  have hb := X.1.2.1
  intro v4 v5 v7 v8 v9 v10 v11 v12 t0 I J H locs ls hp_v7 hp_v8 h hW hl
  refine lv_istore (lv' := [(13, .int t0), (4, .int v4), (5, .int v5), (7, .ref (wa E 40 v7)), (8, .ref (wa E 40 v8)), (9, .int v9), (10, .int v10), (11, .int v11), (12, .int v12)]) hx hb dX11_trade_148 hl (by decide) rfl (fun ls hl => ?_)
  refine lv_aload hx hb dX11_trade_150 (lv_at hl 4 rfl) ?_
  refine lv_iload hx hb dX11_trade_152 (lv_at hl 1 rfl) ?_
  refine lv_iload hx hb dX11_trade_154 (lv_at hl 5 rfl) ?_
  refine lv_iload hx hb dX11_trade_156 (lv_at hl 2 rfl) ?_
  refine lv_iload hx hb dX11_trade_158 (lv_at hl 6 rfl) ?_
  refine lv_iload hx hb dX11_trade_160 (lv_at hl 8 rfl) ?_
  refine af_i hW (rn_S X hW (As := [.ref (wa E 40 v8), .int v4, .int v9, .int v5, .int v10, .int v12]) (rest := []) (kX11_gain hp_v8 h) mbX11_gain tw697 tw698 rfl hl.1 (Nat.le_of_ble_eq_true rfl) ⟨(Nat.le_of_ble_eq_true rfl), (Nat.le_of_ble_eq_true rfl)⟩ dX11_trade_162) (fun r162 I162 J162 H locs h hW => ?_)
  refine lv_aload hx hb dX11_trade_165 (lv_at hl 4 rfl) ?_
  refine lv_iload hx hb dX11_trade_167 (lv_at hl 1 rfl) ?_
  refine lv_iload hx hb dX11_trade_169 (lv_at hl 5 rfl) ?_
  refine lv_iload hx hb dX11_trade_171 (lv_at hl 2 rfl) ?_
  refine lv_iload hx hb dX11_trade_173 (lv_at hl 6 rfl) ?_
  refine lv_iload hx hb dX11_trade_175 (lv_at hl 8 rfl) ?_
  refine lv_iconst (v := 2) hx hb dX11_trade_177 (by decide) ?_
  refine lv_ixor hx hb dX11_trade_178 ?_
  refine af_i hW (rn_S X hW (As := [.ref (wa E 40 v8), .int v4, .int v9, .int v5, .int v10, .int (v12 ^^^ 2)]) (rest := [.int r162]) (kX11_gain hp_v8 h) mbX11_gain tw697 tw698 rfl hl.1 (Nat.le_of_ble_eq_true rfl) ⟨(Nat.le_of_ble_eq_true rfl), (Nat.le_of_ble_eq_true rfl)⟩ dX11_trade_179) (fun r179 I179 J179 H locs h hW => ?_)
  refine lv_icmp_lt (tgt := 189) hx hb dX11_trade_182 (by decide) (fun c182 => ?_) (fun c182 => ?_)
  · have h := h.1 c182
    refine lv_iconst (v := 0) hx hb dX11_trade_189 (by decide) ?_
    exact bX11_trade_190 X hk102 v4 v5 v7 v8 v9 v10 v11 v12 t0 0 _ _ _ _ _ hp_v7 hp_v8 h hW (lv_sub hl [1, 2, 3, 4, 5, 6, 7, 8, 0] rfl)
  · have h := h.2 c182
    refine lv_iconst (v := 1) hx hb dX11_trade_185 (by decide) ?_
    refine lv_goto (tgt := 190) hx hb dX11_trade_186 (by decide) ?_
    exact bX11_trade_190 X hk102 v4 v5 v7 v8 v9 v10 v11 v12 t0 1 _ _ _ _ _ hp_v7 hp_v8 h hW (lv_sub hl [1, 2, 3, 4, 5, 6, 7, 8, 0] rfl)
def wX11_trade_b102 (g : GS) (Q : Int32 → MI → MJ → Prop) : Nat → Int32 → Int32 → Nat → Nat → Int32 → Int32 → Int32 → Int32 → MI → MJ → Prop
  | 0, _, _, _, _, _, _, _, _, _, _ => False
  | n + 1, v4, v5, v7, v8, v9, v10, v11, v12, I, J => ((4 ≤ v12 → Q v11 I J) ∧ (¬ 4 ≤ v12 → wX11_gain g v7 v4 v9 v5 v10 v12 I J (fun r120 I120 J120 => wX11_gain g v7 v4 v9 v5 v10 (v12 ^^^ 1) I120 J120 (fun r137 I137 J137 => ((r120 < r137 → wX11_trade_b148 g (fun v4 v5 v7 v8 v9 v10 v11 v12 I J => wX11_trade_b102 g Q n v4 v5 v7 v8 v9 v10 v11 v12 I J) Q v4 v5 v7 v8 v9 v10 v11 v12 0 I137 J137) ∧ (¬ r120 < r137 → wX11_trade_b148 g (fun v4 v5 v7 v8 v9 v10 v11 v12 I J => wX11_trade_b102 g Q n v4 v5 v7 v8 v9 v10 v11 v12 I J) Q v4 v5 v7 v8 v9 v10 v11 v12 1 I137 J137))))))
set_option maxHeartbeats 4000000 in
set_option maxRecDepth 100000 in
theorem bX11_trade_102 {p : Program} {l : Launch} {e : Env} {s : State} {m : MethodId} {args : Array Value} {below : List Frame} {meth : Method} {c : Code} {E : WE} {Q : Int32 → MI → MJ → Prop} (X : Cx E cX11_trade 15 RX11 ((Option.some FieldType.int)) p s m args c meth) (n : Nat) : ∀ (v4 : Int32) (v5 : Int32) (v7 : Nat) (v8 : Nat) (v9 : Int32) (v10 : Int32) (v11 : Int32) (v12 : Int32) (I : MI) (J : MJ) (H : Heap) (locs : List Loc) (ls : Array Slot), v7 < (wg E).2.1 → v8 < (wg E).2.1 → wX11_trade_b102 (wg E) Q n v4 v5 v7 v8 v9 v10 v11 v12 I J → Wd E I J s H locs → lv_has ls 15 [(4, .int v4), (5, .int v5), (7, .ref (wa E 40 v7)), (8, .ref (wa E 40 v8)), (9, .int v9), (10, .int v10), (11, .int v11), (12, .int v12)] → W p l e (rmO 3 71) s m args below meth c H locs 0 0 (MQ below (QI E Q) args s 0 0 (AA E)) (F0 m 102 ls []) := by
  have hx := X.1.1
  have hb := X.1.2.1
  induction n with
  | zero => intro v4 v5 v7 v8 v9 v10 v11 v12 I J H locs ls hp_v7 hp_v8 h hW hl; exact h.elim
  | succ n ih =>
    intro v4 v5 v7 v8 v9 v10 v11 v12 I J H locs ls hp_v7 hp_v8 h hW hl
    refine lv_iload hx hb dX11_trade_102 (lv_at hl 7 rfl) ?_
    refine lv_iconst (v := 4) hx hb dX11_trade_104 (by decide) ?_
    refine lv_icmp_ge (tgt := 217) hx hb dX11_trade_105 (by decide) (fun c105 => ?_) (fun c105 => ?_)
    · have h := h.1 c105
      refine lv_iload hx hb dX11_trade_217 (lv_at hl 6 rfl) ?_
      exact e_i X hW h dX11_trade_219
    · have h := h.2 c105
      refine lv_aload hx hb dX11_trade_108 (lv_at hl 2 rfl) ?_
      refine lv_iload hx hb dX11_trade_110 (lv_at hl 0 rfl) ?_
      refine lv_iload hx hb dX11_trade_112 (lv_at hl 4 rfl) ?_
      refine lv_iload hx hb dX11_trade_114 (lv_at hl 1 rfl) ?_
      refine lv_iload hx hb dX11_trade_116 (lv_at hl 5 rfl) ?_
      refine lv_iload hx hb dX11_trade_118 (lv_at hl 7 rfl) ?_
      refine af_i hW (rn_S X hW (As := [.ref (wa E 40 v7), .int v4, .int v9, .int v5, .int v10, .int v12]) (rest := []) (kX11_gain hp_v7 h) mbX11_gain tw697 tw698 rfl hl.1 (Nat.le_of_ble_eq_true rfl) ⟨(Nat.le_of_ble_eq_true rfl), (Nat.le_of_ble_eq_true rfl)⟩ dX11_trade_120) (fun r120 I120 J120 H locs h hW => ?_)
      refine lv_aload hx hb dX11_trade_123 (lv_at hl 2 rfl) ?_
      refine lv_iload hx hb dX11_trade_125 (lv_at hl 0 rfl) ?_
      refine lv_iload hx hb dX11_trade_127 (lv_at hl 4 rfl) ?_
      refine lv_iload hx hb dX11_trade_129 (lv_at hl 1 rfl) ?_
      refine lv_iload hx hb dX11_trade_131 (lv_at hl 5 rfl) ?_
      refine lv_iload hx hb dX11_trade_133 (lv_at hl 7 rfl) ?_
      refine lv_iconst (v := 1) hx hb dX11_trade_135 (by decide) ?_
      refine lv_ixor hx hb dX11_trade_136 ?_
      refine af_i hW (rn_S X hW (As := [.ref (wa E 40 v7), .int v4, .int v9, .int v5, .int v10, .int (v12 ^^^ 1)]) (rest := [.int r120]) (kX11_gain hp_v7 h) mbX11_gain tw697 tw698 rfl hl.1 (Nat.le_of_ble_eq_true rfl) ⟨(Nat.le_of_ble_eq_true rfl), (Nat.le_of_ble_eq_true rfl)⟩ dX11_trade_137) (fun r137 I137 J137 H locs h hW => ?_)
      refine lv_icmp_lt (tgt := 147) hx hb dX11_trade_140 (by decide) (fun c140 => ?_) (fun c140 => ?_)
      · have h := h.1 c140
        refine lv_iconst (v := 0) hx hb dX11_trade_147 (by decide) ?_
        exact bX11_trade_148 X ih v4 v5 v7 v8 v9 v10 v11 v12 0 _ _ _ _ _ hp_v7 hp_v8 h hW (lv_sub hl [0, 1, 2, 3, 4, 5, 6, 7] rfl)
      · have h := h.2 c140
        refine lv_iconst (v := 1) hx hb dX11_trade_143 (by decide) ?_
        refine lv_goto (tgt := 148) hx hb dX11_trade_144 (by decide) ?_
        exact bX11_trade_148 X ih v4 v5 v7 v8 v9 v10 v11 v12 1 _ _ _ _ _ hp_v7 hp_v8 h hW (lv_sub hl [0, 1, 2, 3, 4, 5, 6, 7] rfl)
def wX11_trade (g : GS) (a1 : Int32) (a2 : Int32) (a3 : Int32) (a4 : Int32) (a5 : Int32) (I : MI) (J : MJ) (Q : Int32 → MI → MJ → Prop) : Prop :=
  wX11_ruleAt g a1 I J (fun o2 I2 J2 => (o2 = none → wX11_personAt g a2 I2 J2 (fun o9 I9 J9 => (o9 = none → wX11_personAt g a3 I9 J9 (fun o16 I16 J16 => (o16 = none → Q ((-101)) I16 J16) ∧ (∀ r16, o16 = some r16 → Q ((-101)) I16 J16))) ∧ (∀ r9, o9 = some r9 → wX11_personAt g a3 I9 J9 (fun o16 I16 J16 => (o16 = none → Q ((-101)) I16 J16) ∧ (∀ r16, o16 = some r16 → Q ((-101)) I16 J16))))) ∧ (∀ r2, o2 = some r2 → wX11_personAt g a2 I2 J2 (fun o9 I9 J9 => (o9 = none → wX11_personAt g a3 I9 J9 (fun o16 I16 J16 => (o16 = none → Q ((-101)) I16 J16) ∧ (∀ r16, o16 = some r16 → Q ((-101)) I16 J16))) ∧ (∀ r9, o9 = some r9 → wX11_personAt g a3 I9 J9 (fun o16 I16 J16 => (o16 = none → Q ((-101)) I16 J16) ∧ (∀ r16, o16 = some r16 → ((¬ a2 = a3 → wX11_isCandidate g a4 I16 J16 (fun r47 I47 J47 => ((r47 = 0 → Q ((-101)) I47 J47) ∧ (¬ r47 = 0 → wX11_isCandidate g a5 I47 J47 (fun r56 I56 J56 => ((r56 = 0 → Q ((-101)) I56 J56) ∧ (¬ r56 = 0 → ((¬ a4 = a5 → wX11_letInByOneBall g r2 a4 a2 a3 I56 J56 (fun r79 I79 J79 => wX11_letInByOneBall g r2 a5 a2 a3 I79 J79 (fun r91 I91 J91 => ∃ n102, wX11_trade_b102 g Q n102 a4 a5 r9 r16 r79 r91 0 0 I91 J91))) ∧ (a4 = a5 → Q ((-101)) I56 J56))))))))) ∧ (a2 = a3 → Q ((-101)) I16 J16))))))))
theorem mbX11_trade : MB yX11_trade cX11_trade 15 ((Option.some FieldType.int)) 5 := ⟨tw691, tw1, ⟨by decide, by decide⟩, by decide +kernel, by decide +kernel⟩
set_option maxHeartbeats 4000000 in
set_option maxRecDepth 100000 in
theorem kX11_trade {l : Launch} {E : WE} {a1 : Int32} {a2 : Int32} {a3 : Int32} {a4 : Int32} {a5 : Int32} {I : MI} {J : MJ} {Q : Int32 → MI → MJ → Prop} (h : wX11_trade (wg E) a1 a2 a3 a4 a5 I J Q) : Met l yX11_trade (wsM yX11_trade cX11_trade 15 ((Option.some FieldType.int))) (rmO 3 71) (va_Pc [.ref (wa E 0 0), .int a1, .int a2, .int a3, .int a4, .int a5] (Wp E I J)) (QI E Q) 0 0 (AA E) := by
  refine m_entry mbX11_trade (Nat.le_of_ble_eq_true rfl) ?_
  intro p e s m args below meth c X ls hW hl
  have X : Cx E cX11_trade 15 RX11 ((Option.some FieldType.int)) p s m args c meth := X
  have hx := X.1.1
  have hb := X.1.2.1
  have hl : lv_has ls 15 [(0, .ref (wa E 0 0)), (1, .int a1), (2, .int a2), (3, .int a3), (4, .int a4), (5, .int a5)] := hl
  refine lv_aload_n hx hb dX11_trade_0 rfl (lv_at hl 0 rfl) ?_
  refine lv_iload_n hx hb dX11_trade_1 rfl (lv_at hl 1 rfl) ?_
  refine af_r hW (rn_V X hW (As := [.int a1]) (rest := []) (okS hW sc0_0) rfl rfl (kX11_ruleAt h) mbX11_ruleAt tw258 tw260 tp1 rfl hl.1 (Nat.le_of_ble_eq_true rfl) ⟨(Nat.le_of_ble_eq_true rfl), (Nat.le_of_ble_eq_true rfl)⟩ dX11_trade_2) (fun I2 J2 H locs h hW => ?_) (fun r2 I2 J2 H locs c2 h hW => ?_)
  · have h := h.1 rfl
    refine lv_astoreN (lv' := [(6, .null), (0, .ref (wa E 0 0)), (1, .int a1), (2, .int a2), (3, .int a3), (4, .int a4), (5, .int a5)]) hx hb dX11_trade_5 hl (by decide) rfl (fun ls hl => ?_)
    refine lv_aload_n hx hb dX11_trade_7 rfl (lv_at hl 1 rfl) ?_
    refine lv_iload_n hx hb dX11_trade_8 rfl (lv_at hl 3 rfl) ?_
    refine af_r hW (rn_V X hW (As := [.int a2]) (rest := []) (okS hW sc0_0) rfl rfl (kX11_personAt h) mbX11_personAt tw271 tw273 tp2 rfl hl.1 (Nat.le_of_ble_eq_true rfl) ⟨(Nat.le_of_ble_eq_true rfl), (Nat.le_of_ble_eq_true rfl)⟩ dX11_trade_9) (fun I9 J9 H locs h hW => ?_) (fun r9 I9 J9 H locs c9 h hW => ?_)
    · have h := h.1 rfl
      refine lv_astoreN (lv' := [(7, .null), (6, .null), (0, .ref (wa E 0 0)), (1, .int a1), (2, .int a2), (3, .int a3), (4, .int a4), (5, .int a5)]) hx hb dX11_trade_12 hl (by decide) rfl (fun ls hl => ?_)
      refine lv_aload_n hx hb dX11_trade_14 rfl (lv_at hl 2 rfl) ?_
      refine lv_iload_n hx hb dX11_trade_15 rfl (lv_at hl 5 rfl) ?_
      refine af_r hW (rn_V X hW (As := [.int a3]) (rest := []) (okS hW sc0_0) rfl rfl (kX11_personAt h) mbX11_personAt tw271 tw273 tp2 rfl hl.1 (Nat.le_of_ble_eq_true rfl) ⟨(Nat.le_of_ble_eq_true rfl), (Nat.le_of_ble_eq_true rfl)⟩ dX11_trade_16) (fun I16 J16 H locs h hW => ?_) (fun r16 I16 J16 H locs c16 h hW => ?_)
      · have h := h.1 rfl
        refine lv_astoreN (lv' := [(8, .null), (7, .null), (6, .null), (0, .ref (wa E 0 0)), (1, .int a1), (2, .int a2), (3, .int a3), (4, .int a4), (5, .int a5)]) hx hb dX11_trade_19 hl (by decide) rfl (fun ls hl => ?_)
        refine lv_aloadN hx hb dX11_trade_21 (lv_at hl 2 rfl) ?_
        refine lv_ifnullN (tgt := 41) hx hb dX11_trade_23 (by decide) ?_
        refine lv_bipush (v := (-101)) hx hb dX11_trade_41 (by decide) ?_
        exact e_i X hW h dX11_trade_43
      · have h := h.2 r16 rfl
        refine lv_astore (lv' := [(8, .ref (wa E 40 r16)), (7, .null), (6, .null), (0, .ref (wa E 0 0)), (1, .int a1), (2, .int a2), (3, .int a3), (4, .int a4), (5, .int a5)]) hx hb dX11_trade_19 hl (by decide) rfl (fun ls hl => ?_)
        refine lv_aloadN hx hb dX11_trade_21 (lv_at hl 2 rfl) ?_
        refine lv_ifnullN (tgt := 41) hx hb dX11_trade_23 (by decide) ?_
        refine lv_bipush (v := (-101)) hx hb dX11_trade_41 (by decide) ?_
        exact e_i X hW h dX11_trade_43
    · have h := h.2 r9 rfl
      refine lv_astore (lv' := [(7, .ref (wa E 40 r9)), (6, .null), (0, .ref (wa E 0 0)), (1, .int a1), (2, .int a2), (3, .int a3), (4, .int a4), (5, .int a5)]) hx hb dX11_trade_12 hl (by decide) rfl (fun ls hl => ?_)
      refine lv_aload_n hx hb dX11_trade_14 rfl (lv_at hl 2 rfl) ?_
      refine lv_iload_n hx hb dX11_trade_15 rfl (lv_at hl 5 rfl) ?_
      refine af_r hW (rn_V X hW (As := [.int a3]) (rest := []) (okS hW sc0_0) rfl rfl (kX11_personAt h) mbX11_personAt tw271 tw273 tp2 rfl hl.1 (Nat.le_of_ble_eq_true rfl) ⟨(Nat.le_of_ble_eq_true rfl), (Nat.le_of_ble_eq_true rfl)⟩ dX11_trade_16) (fun I16 J16 H locs h hW => ?_) (fun r16 I16 J16 H locs c16 h hW => ?_)
      · have h := h.1 rfl
        refine lv_astoreN (lv' := [(8, .null), (7, .ref (wa E 40 r9)), (6, .null), (0, .ref (wa E 0 0)), (1, .int a1), (2, .int a2), (3, .int a3), (4, .int a4), (5, .int a5)]) hx hb dX11_trade_19 hl (by decide) rfl (fun ls hl => ?_)
        refine lv_aloadN hx hb dX11_trade_21 (lv_at hl 2 rfl) ?_
        refine lv_ifnullN (tgt := 41) hx hb dX11_trade_23 (by decide) ?_
        refine lv_bipush (v := (-101)) hx hb dX11_trade_41 (by decide) ?_
        exact e_i X hW h dX11_trade_43
      · have h := h.2 r16 rfl
        refine lv_astore (lv' := [(8, .ref (wa E 40 r16)), (7, .ref (wa E 40 r9)), (6, .null), (0, .ref (wa E 0 0)), (1, .int a1), (2, .int a2), (3, .int a3), (4, .int a4), (5, .int a5)]) hx hb dX11_trade_19 hl (by decide) rfl (fun ls hl => ?_)
        refine lv_aloadN hx hb dX11_trade_21 (lv_at hl 2 rfl) ?_
        refine lv_ifnullN (tgt := 41) hx hb dX11_trade_23 (by decide) ?_
        refine lv_bipush (v := (-101)) hx hb dX11_trade_41 (by decide) ?_
        exact e_i X hW h dX11_trade_43
  · have h := h.2 r2 rfl
    refine lv_astore (lv' := [(6, .ref (wa E 43 r2)), (0, .ref (wa E 0 0)), (1, .int a1), (2, .int a2), (3, .int a3), (4, .int a4), (5, .int a5)]) hx hb dX11_trade_5 hl (by decide) rfl (fun ls hl => ?_)
    refine lv_aload_n hx hb dX11_trade_7 rfl (lv_at hl 1 rfl) ?_
    refine lv_iload_n hx hb dX11_trade_8 rfl (lv_at hl 3 rfl) ?_
    refine af_r hW (rn_V X hW (As := [.int a2]) (rest := []) (okS hW sc0_0) rfl rfl (kX11_personAt h) mbX11_personAt tw271 tw273 tp2 rfl hl.1 (Nat.le_of_ble_eq_true rfl) ⟨(Nat.le_of_ble_eq_true rfl), (Nat.le_of_ble_eq_true rfl)⟩ dX11_trade_9) (fun I9 J9 H locs h hW => ?_) (fun r9 I9 J9 H locs c9 h hW => ?_)
    · have h := h.1 rfl
      refine lv_astoreN (lv' := [(7, .null), (6, .ref (wa E 43 r2)), (0, .ref (wa E 0 0)), (1, .int a1), (2, .int a2), (3, .int a3), (4, .int a4), (5, .int a5)]) hx hb dX11_trade_12 hl (by decide) rfl (fun ls hl => ?_)
      refine lv_aload_n hx hb dX11_trade_14 rfl (lv_at hl 2 rfl) ?_
      refine lv_iload_n hx hb dX11_trade_15 rfl (lv_at hl 5 rfl) ?_
      refine af_r hW (rn_V X hW (As := [.int a3]) (rest := []) (okS hW sc0_0) rfl rfl (kX11_personAt h) mbX11_personAt tw271 tw273 tp2 rfl hl.1 (Nat.le_of_ble_eq_true rfl) ⟨(Nat.le_of_ble_eq_true rfl), (Nat.le_of_ble_eq_true rfl)⟩ dX11_trade_16) (fun I16 J16 H locs h hW => ?_) (fun r16 I16 J16 H locs c16 h hW => ?_)
      · have h := h.1 rfl
        refine lv_astoreN (lv' := [(8, .null), (7, .null), (6, .ref (wa E 43 r2)), (0, .ref (wa E 0 0)), (1, .int a1), (2, .int a2), (3, .int a3), (4, .int a4), (5, .int a5)]) hx hb dX11_trade_19 hl (by decide) rfl (fun ls hl => ?_)
        refine lv_aload hx hb dX11_trade_21 (lv_at hl 2 rfl) ?_
        refine lv_ifnull hx hb dX11_trade_23 ?_
        refine lv_aloadN hx hb dX11_trade_26 (lv_at hl 1 rfl) ?_
        refine lv_ifnullN (tgt := 41) hx hb dX11_trade_28 (by decide) ?_
        refine lv_bipush (v := (-101)) hx hb dX11_trade_41 (by decide) ?_
        exact e_i X hW h dX11_trade_43
      · have h := h.2 r16 rfl
        refine lv_astore (lv' := [(8, .ref (wa E 40 r16)), (7, .null), (6, .ref (wa E 43 r2)), (0, .ref (wa E 0 0)), (1, .int a1), (2, .int a2), (3, .int a3), (4, .int a4), (5, .int a5)]) hx hb dX11_trade_19 hl (by decide) rfl (fun ls hl => ?_)
        refine lv_aload hx hb dX11_trade_21 (lv_at hl 2 rfl) ?_
        refine lv_ifnull hx hb dX11_trade_23 ?_
        refine lv_aloadN hx hb dX11_trade_26 (lv_at hl 1 rfl) ?_
        refine lv_ifnullN (tgt := 41) hx hb dX11_trade_28 (by decide) ?_
        refine lv_bipush (v := (-101)) hx hb dX11_trade_41 (by decide) ?_
        exact e_i X hW h dX11_trade_43
    · have h := h.2 r9 rfl
      refine lv_astore (lv' := [(7, .ref (wa E 40 r9)), (6, .ref (wa E 43 r2)), (0, .ref (wa E 0 0)), (1, .int a1), (2, .int a2), (3, .int a3), (4, .int a4), (5, .int a5)]) hx hb dX11_trade_12 hl (by decide) rfl (fun ls hl => ?_)
      refine lv_aload_n hx hb dX11_trade_14 rfl (lv_at hl 2 rfl) ?_
      refine lv_iload_n hx hb dX11_trade_15 rfl (lv_at hl 5 rfl) ?_
      refine af_r hW (rn_V X hW (As := [.int a3]) (rest := []) (okS hW sc0_0) rfl rfl (kX11_personAt h) mbX11_personAt tw271 tw273 tp2 rfl hl.1 (Nat.le_of_ble_eq_true rfl) ⟨(Nat.le_of_ble_eq_true rfl), (Nat.le_of_ble_eq_true rfl)⟩ dX11_trade_16) (fun I16 J16 H locs h hW => ?_) (fun r16 I16 J16 H locs c16 h hW => ?_)
      · have h := h.1 rfl
        refine lv_astoreN (lv' := [(8, .null), (7, .ref (wa E 40 r9)), (6, .ref (wa E 43 r2)), (0, .ref (wa E 0 0)), (1, .int a1), (2, .int a2), (3, .int a3), (4, .int a4), (5, .int a5)]) hx hb dX11_trade_19 hl (by decide) rfl (fun ls hl => ?_)
        refine lv_aload hx hb dX11_trade_21 (lv_at hl 2 rfl) ?_
        refine lv_ifnull hx hb dX11_trade_23 ?_
        refine lv_aload hx hb dX11_trade_26 (lv_at hl 1 rfl) ?_
        refine lv_ifnull hx hb dX11_trade_28 ?_
        refine lv_aloadN hx hb dX11_trade_31 (lv_at hl 0 rfl) ?_
        refine lv_ifnullN (tgt := 41) hx hb dX11_trade_33 (by decide) ?_
        refine lv_bipush (v := (-101)) hx hb dX11_trade_41 (by decide) ?_
        exact e_i X hW h dX11_trade_43
      · have h := h.2 r16 rfl
        refine lv_astore (lv' := [(8, .ref (wa E 40 r16)), (7, .ref (wa E 40 r9)), (6, .ref (wa E 43 r2)), (0, .ref (wa E 0 0)), (1, .int a1), (2, .int a2), (3, .int a3), (4, .int a4), (5, .int a5)]) hx hb dX11_trade_19 hl (by decide) rfl (fun ls hl => ?_)
        refine lv_aload hx hb dX11_trade_21 (lv_at hl 2 rfl) ?_
        refine lv_ifnull hx hb dX11_trade_23 ?_
        refine lv_aload hx hb dX11_trade_26 (lv_at hl 1 rfl) ?_
        refine lv_ifnull hx hb dX11_trade_28 ?_
        refine lv_aload hx hb dX11_trade_31 (lv_at hl 0 rfl) ?_
        refine lv_ifnull hx hb dX11_trade_33 ?_
        refine lv_iload_n hx hb dX11_trade_36 rfl (lv_at hl 5 rfl) ?_
        refine lv_iload_n hx hb dX11_trade_37 rfl (lv_at hl 6 rfl) ?_
        refine lv_icmp_ne (tgt := 44) hx hb dX11_trade_38 (by decide) (fun c38 => ?_) (fun c38 => ?_)
        · have h := h.1 c38
          refine lv_aload_n hx hb dX11_trade_44 rfl (lv_at hl 3 rfl) ?_
          refine lv_iload hx hb dX11_trade_45 (lv_at hl 7 rfl) ?_
          refine af_i hW (rn_V X hW (As := [.int a4]) (rest := []) (okS hW sc0_0) rfl rfl (kX11_isCandidate h) mbX11_isCandidate tw417 tw419 tp4 rfl hl.1 (Nat.le_of_ble_eq_true rfl) ⟨(Nat.le_of_ble_eq_true rfl), (Nat.le_of_ble_eq_true rfl)⟩ dX11_trade_47) (fun r47 I47 J47 H locs h hW => ?_)
          refine lv_if_eq (tgt := 69) hx hb dX11_trade_50 (by decide) (fun c50 => ?_) (fun c50 => ?_)
          · have h := h.1 c50
            refine lv_bipush (v := (-101)) hx hb dX11_trade_69 (by decide) ?_
            exact e_i X hW h dX11_trade_71
          · have h := h.2 c50
            refine lv_aload_n hx hb dX11_trade_53 rfl (lv_at hl 3 rfl) ?_
            refine lv_iload hx hb dX11_trade_54 (lv_at hl 8 rfl) ?_
            refine af_i hW (rn_V X hW (As := [.int a5]) (rest := []) (okS hW sc0_0) rfl rfl (kX11_isCandidate h) mbX11_isCandidate tw417 tw419 tp4 rfl hl.1 (Nat.le_of_ble_eq_true rfl) ⟨(Nat.le_of_ble_eq_true rfl), (Nat.le_of_ble_eq_true rfl)⟩ dX11_trade_56) (fun r56 I56 J56 H locs h hW => ?_)
            refine lv_if_eq (tgt := 69) hx hb dX11_trade_59 (by decide) (fun c59 => ?_) (fun c59 => ?_)
            · have h := h.1 c59
              refine lv_bipush (v := (-101)) hx hb dX11_trade_69 (by decide) ?_
              exact e_i X hW h dX11_trade_71
            · have h := h.2 c59
              refine lv_iload hx hb dX11_trade_62 (lv_at hl 7 rfl) ?_
              refine lv_iload hx hb dX11_trade_64 (lv_at hl 8 rfl) ?_
              refine lv_icmp_ne (tgt := 72) hx hb dX11_trade_66 (by decide) (fun c66 => ?_) (fun c66 => ?_)
              · have h := h.1 c66
                refine lv_aload_n hx hb dX11_trade_72 rfl (lv_at hl 3 rfl) ?_
                refine lv_aload hx hb dX11_trade_73 (lv_at hl 2 rfl) ?_
                refine lv_iload hx hb dX11_trade_75 (lv_at hl 7 rfl) ?_
                refine lv_iload_n hx hb dX11_trade_77 rfl (lv_at hl 5 rfl) ?_
                refine lv_iload_n hx hb dX11_trade_78 rfl (lv_at hl 6 rfl) ?_
                refine af_i hW (rn_V X hW (As := [.ref (wa E 43 r2), .int a4, .int a2, .int a3]) (rest := []) (okS hW sc0_0) rfl rfl (kX11_letInByOneBall c2 h) mbX11_letInByOneBall tw692 tw694 tp16 rfl hl.1 (Nat.le_of_ble_eq_true rfl) ⟨(Nat.le_of_ble_eq_true rfl), (Nat.le_of_ble_eq_true rfl)⟩ dX11_trade_79) (fun r79 I79 J79 H locs h hW => ?_)
                refine lv_istore (lv' := [(9, .int r79), (8, .ref (wa E 40 r16)), (7, .ref (wa E 40 r9)), (6, .ref (wa E 43 r2)), (0, .ref (wa E 0 0)), (1, .int a1), (2, .int a2), (3, .int a3), (4, .int a4), (5, .int a5)]) hx hb dX11_trade_82 hl (by decide) rfl (fun ls hl => ?_)
                refine lv_aload_n hx hb dX11_trade_84 rfl (lv_at hl 4 rfl) ?_
                refine lv_aload hx hb dX11_trade_85 (lv_at hl 3 rfl) ?_
                refine lv_iload hx hb dX11_trade_87 (lv_at hl 9 rfl) ?_
                refine lv_iload_n hx hb dX11_trade_89 rfl (lv_at hl 6 rfl) ?_
                refine lv_iload_n hx hb dX11_trade_90 rfl (lv_at hl 7 rfl) ?_
                refine af_i hW (rn_V X hW (As := [.ref (wa E 43 r2), .int a5, .int a2, .int a3]) (rest := []) (okS hW sc0_0) rfl rfl (kX11_letInByOneBall c2 h) mbX11_letInByOneBall tw692 tw694 tp16 rfl hl.1 (Nat.le_of_ble_eq_true rfl) ⟨(Nat.le_of_ble_eq_true rfl), (Nat.le_of_ble_eq_true rfl)⟩ dX11_trade_91) (fun r91 I91 J91 H locs h hW => ?_)
                refine lv_istore (lv' := [(10, .int r91), (9, .int r79), (8, .ref (wa E 40 r16)), (7, .ref (wa E 40 r9)), (6, .ref (wa E 43 r2)), (0, .ref (wa E 0 0)), (1, .int a1), (2, .int a2), (3, .int a3), (4, .int a4), (5, .int a5)]) hx hb dX11_trade_94 hl (by decide) rfl (fun ls hl => ?_)
                refine lv_iconst (v := 0) hx hb dX11_trade_96 (by decide) ?_
                refine lv_istore (lv' := [(11, .int 0), (10, .int r91), (9, .int r79), (8, .ref (wa E 40 r16)), (7, .ref (wa E 40 r9)), (6, .ref (wa E 43 r2)), (0, .ref (wa E 0 0)), (1, .int a1), (2, .int a2), (3, .int a3), (4, .int a4), (5, .int a5)]) hx hb dX11_trade_97 hl (by decide) rfl (fun ls hl => ?_)
                refine lv_iconst (v := 0) hx hb dX11_trade_99 (by decide) ?_
                refine lv_istore (lv' := [(12, .int 0), (11, .int 0), (10, .int r91), (9, .int r79), (8, .ref (wa E 40 r16)), (7, .ref (wa E 40 r9)), (6, .ref (wa E 43 r2)), (0, .ref (wa E 0 0)), (1, .int a1), (2, .int a2), (3, .int a3), (4, .int a4), (5, .int a5)]) hx hb dX11_trade_100 hl (by decide) rfl (fun ls hl => ?_)
                obtain ⟨n102, h⟩ := h
                exact bX11_trade_102 X n102 a4 a5 r9 r16 r79 r91 0 0 _ _ _ _ _ c9 c16 h hW (lv_sub hl [11, 12, 5, 4, 3, 2, 1, 0] rfl)
              · have h := h.2 c66
                refine lv_bipush (v := (-101)) hx hb dX11_trade_69 (by decide) ?_
                exact e_i X hW h dX11_trade_71
        · have h := h.2 c38
          refine lv_bipush (v := (-101)) hx hb dX11_trade_41 (by decide) ?_
          exact e_i X hW h dX11_trade_43
def wX11_expectVetoes_b34 (g : GS) (ko13 : Int32 → Int64 → Int32 → MI → MJ → Prop) (ko22 : Int32 → Int64 → Int32 → Int32 → MI → MJ → Prop) (Q : Int64 → MI → MJ → Prop) : Nat → Int32 → Int64 → Int32 → Int32 → Int64 → Int32 → MI → MJ → Prop
  | 0, _, _, _, _, _, _, _, _ => False
  | n + 1, v1, v2, v4, v5, v6, v8, I, J => ((10 < v8 → vp_in v5 4 ∧ (ko22 v1 v2 v4 (v5 + (-1)) I (u3 J 14 0 (vp_updL (J 14 0) (Int32.toNatClampNeg v5) v6)))) ∧ (¬ 10 < v8 → vp_in (v5 - 1) 4 ∧ (vp_in v5 4 ∧ (wX11_expectVetoes_b34 g ko13 ko22 Q n v1 v2 v4 v5 (v6 + (if (J 14 0 (Int32.toNatClampNeg v5)) < (((Int32.toInt64 v8) * v2) + (J 14 0 (Int32.toNatClampNeg (v5 - 1)))) then (((Int32.toInt64 v8) * v2) + (J 14 0 (Int32.toNatClampNeg (v5 - 1)))) else (J 14 0 (Int32.toNatClampNeg v5)))) (v8 + 1) I J))))
set_option maxHeartbeats 4000000 in
set_option maxRecDepth 100000 in
theorem bX11_expectVetoes_34 {p : Program} {l : Launch} {e : Env} {s : State} {m : MethodId} {args : Array Value} {below : List Frame} {meth : Method} {c : Code} {E : WE} {Q : Int64 → MI → MJ → Prop} {ko13 : Int32 → Int64 → Int32 → MI → MJ → Prop} {ko22 : Int32 → Int64 → Int32 → Int32 → MI → MJ → Prop} (X : Cx E cX11_expectVetoes 9 RX11 ((Option.some FieldType.long)) p s m args c meth)
    (hk13 : ∀ (v1 : Int32) (v2 : Int64) (v4 : Int32) (I : MI) (J : MJ) (H : Heap) (locs : List Loc) (ls : Array Slot), ko13 v1 v2 v4 I J → Wd E I J s H locs → lv_has ls 9 [(0, .ref (wa E 0 0)), (1, .int v1), (2, .long v2), (4, .int v4)] → W p l e (rmO 1 40) s m args below meth c H locs 0 0 (MQ below (QL E Q) args s 0 0 (AA E)) (F0 m 13 ls []))
    (hk22 : ∀ (v1 : Int32) (v2 : Int64) (v4 : Int32) (v5 : Int32) (I : MI) (J : MJ) (H : Heap) (locs : List Loc) (ls : Array Slot), ko22 v1 v2 v4 v5 I J → Wd E I J s H locs → lv_has ls 9 [(0, .ref (wa E 0 0)), (1, .int v1), (2, .long v2), (4, .int v4), (5, .int v5)] → W p l e (rmO 1 40) s m args below meth c H locs 0 0 (MQ below (QL E Q) args s 0 0 (AA E)) (F0 m 22 ls [])) (n : Nat) : ∀ (v1 : Int32) (v2 : Int64) (v4 : Int32) (v5 : Int32) (v6 : Int64) (v8 : Int32) (I : MI) (J : MJ) (H : Heap) (locs : List Loc) (ls : Array Slot), wX11_expectVetoes_b34 (wg E) ko13 ko22 Q n v1 v2 v4 v5 v6 v8 I J → Wd E I J s H locs → lv_has ls 9 [(0, .ref (wa E 0 0)), (1, .int v1), (2, .long v2), (4, .int v4), (5, .int v5), (6, .long v6), (8, .int v8)] → W p l e (rmO 1 40) s m args below meth c H locs 0 0 (MQ below (QL E Q) args s 0 0 (AA E)) (F0 m 34 ls []) := by
  have hx := X.1.1
  have hb := X.1.2.1
  induction n with
  | zero => intro v1 v2 v4 v5 v6 v8 I J H locs ls h hW hl; exact h.elim
  | succ n ih =>
    intro v1 v2 v4 v5 v6 v8 I J H locs ls h hW hl
    refine lv_iload hx hb dX11_expectVetoes_34 (lv_at hl 6 rfl) ?_
    refine lv_bipush (v := 10) hx hb dX11_expectVetoes_36 (by decide) ?_
    refine lv_icmp_gt (tgt := 77) hx hb dX11_expectVetoes_38 (by decide) (fun c38 => ?_) (fun c38 => ?_)
    · have h := h.1 c38
      refine lv_aload_n hx hb dX11_expectVetoes_77 rfl (lv_at hl 0 rfl) ?_
      refine r_get X hW 8 (okS hW sc0_0) rfl rfl inX11 (Nat.le_of_ble_eq_true rfl) tw140 rfl dX11_expectVetoes_78 ?_
      refine lv_iload hx hb dX11_expectVetoes_81 (lv_at hl 4 rfl) ?_
      refine lv_lload hx hb dX11_expectVetoes_83 (lv_at hl 5 rfl) ?_
      refine r_last X hW (okS hW sc14_0) (fun _ => rfl) h.1 dX11_expectVetoes_85 (fun H locs hW => ?_)
      have h := h.2
      refine lv_iinc (v := v5 + (-1)) (lv' := [(5, .int (v5 + (-1))), (0, .ref (wa E 0 0)), (1, .int v1), (2, .long v2), (4, .int v4), (6, .long v6), (8, .int v8)]) hx hb dX11_expectVetoes_86 hl (k := 4) rfl rfl (by decide) rfl (fun ls hl => ?_)
      refine lv_goto (tgt := 22) hx hb dX11_expectVetoes_89 (by decide) ?_
      exact hk22 v1 v2 v4 (v5 + (-1)) _ _ _ _ _  h hW (lv_sub hl [1, 2, 3, 4, 0] rfl)
    · have h := h.2 c38
      refine lv_lload hx hb dX11_expectVetoes_41 (lv_at hl 5 rfl) ?_
      refine lv_iload hx hb dX11_expectVetoes_43 (lv_at hl 6 rfl) ?_
      refine lv_i2l hx hb dX11_expectVetoes_45 rfl ?_
      refine lv_lload_n hx hb dX11_expectVetoes_46 rfl (lv_at hl 2 rfl) ?_
      refine lv_lmul hx hb dX11_expectVetoes_47 ?_
      refine lv_aload_n hx hb dX11_expectVetoes_48 rfl (lv_at hl 0 rfl) ?_
      refine r_get X hW 8 (okS hW sc0_0) rfl rfl inX11 (Nat.le_of_ble_eq_true rfl) tw140 rfl dX11_expectVetoes_49 ?_
      refine lv_iload hx hb dX11_expectVetoes_52 (lv_at hl 4 rfl) ?_
      refine lv_iconst (v := 1) hx hb dX11_expectVetoes_54 (by decide) ?_
      refine lv_isub hx hb dX11_expectVetoes_55 ?_
      refine r_lald X hW (okS hW sc14_0) rfl h.1 dX11_expectVetoes_56 ?_
      have h := h.2
      refine lv_ladd hx hb dX11_expectVetoes_57 ?_
      refine lv_aload_n hx hb dX11_expectVetoes_58 rfl (lv_at hl 0 rfl) ?_
      refine r_get X hW 8 (okS hW sc0_0) rfl rfl inX11 (Nat.le_of_ble_eq_true rfl) tw140 rfl dX11_expectVetoes_59 ?_
      refine lv_iload hx hb dX11_expectVetoes_62 (lv_at hl 4 rfl) ?_
      refine r_lald X hW (okS hW sc14_0) rfl h.1 dX11_expectVetoes_64 ?_
      have h := h.2
      refine va_mmax_long hx hb (X.1.2.2.1.trans hl.1.symm) X.1.2.2.2.1 (X.1.2.2.2.2 _ tw709) (X.1.2.2.2.2 _ tw710) (X.1.2.2.2.2 _ tw16) (X.1.2.2.2.2 _ tw711) (Nat.le_of_ble_eq_true rfl) (Nat.le_of_ble_eq_true rfl) (Nat.zero_le _) (Nat.zero_le _) dX11_expectVetoes_65 ?_
      refine lv_ladd hx hb dX11_expectVetoes_68 ?_
      refine lv_lstore (lv' := [(6, .long (v6 + (if (J 14 0 (Int32.toNatClampNeg v5)) < (((Int32.toInt64 v8) * v2) + (J 14 0 (Int32.toNatClampNeg (v5 - 1)))) then (((Int32.toInt64 v8) * v2) + (J 14 0 (Int32.toNatClampNeg (v5 - 1)))) else (J 14 0 (Int32.toNatClampNeg v5))))), (0, .ref (wa E 0 0)), (1, .int v1), (2, .long v2), (4, .int v4), (5, .int v5), (8, .int v8)]) hx hb dX11_expectVetoes_69 hl (by decide) rfl (fun ls hl => ?_)
      refine lv_iinc (v := v8 + 1) (lv' := [(8, .int (v8 + 1)), (6, .long (v6 + (if (J 14 0 (Int32.toNatClampNeg v5)) < (((Int32.toInt64 v8) * v2) + (J 14 0 (Int32.toNatClampNeg (v5 - 1)))) then (((Int32.toInt64 v8) * v2) + (J 14 0 (Int32.toNatClampNeg (v5 - 1)))) else (J 14 0 (Int32.toNatClampNeg v5))))), (0, .ref (wa E 0 0)), (1, .int v1), (2, .long v2), (4, .int v4), (5, .int v5)]) hx hb dX11_expectVetoes_71 hl (k := 6) rfl rfl (by decide) rfl (fun ls hl => ?_)
      refine lv_goto (tgt := 34) hx hb dX11_expectVetoes_74 (by decide) ?_
      exact ih v1 v2 v4 v5 (v6 + (if (J 14 0 (Int32.toNatClampNeg v5)) < (((Int32.toInt64 v8) * v2) + (J 14 0 (Int32.toNatClampNeg (v5 - 1)))) then (((Int32.toInt64 v8) * v2) + (J 14 0 (Int32.toNatClampNeg (v5 - 1)))) else (J 14 0 (Int32.toNatClampNeg v5)))) (v8 + 1) _ _ _ _ _  h hW (lv_sub hl [2, 3, 4, 5, 6, 1, 0] rfl)
def wX11_expectVetoes_b22 (g : GS) (ko13 : Int32 → Int64 → Int32 → MI → MJ → Prop) (Q : Int64 → MI → MJ → Prop) : Nat → Int32 → Int64 → Int32 → Int32 → MI → MJ → Prop
  | 0, _, _, _, _, _, _ => False
  | n + 1, v1, v2, v4, v5, I, J => ((v5 < 1 → ko13 v1 (v2 * 11) (v4 + 1) I J) ∧ (¬ v5 < 1 → ∃ n34, wX11_expectVetoes_b34 g ko13 (fun v1 v2 v4 v5 I J => wX11_expectVetoes_b22 g ko13 Q n v1 v2 v4 v5 I J) Q n34 v1 v2 v4 v5 0 0 I J))
set_option maxHeartbeats 4000000 in
set_option maxRecDepth 100000 in
theorem bX11_expectVetoes_22 {p : Program} {l : Launch} {e : Env} {s : State} {m : MethodId} {args : Array Value} {below : List Frame} {meth : Method} {c : Code} {E : WE} {Q : Int64 → MI → MJ → Prop} {ko13 : Int32 → Int64 → Int32 → MI → MJ → Prop} (X : Cx E cX11_expectVetoes 9 RX11 ((Option.some FieldType.long)) p s m args c meth)
    (hk13 : ∀ (v1 : Int32) (v2 : Int64) (v4 : Int32) (I : MI) (J : MJ) (H : Heap) (locs : List Loc) (ls : Array Slot), ko13 v1 v2 v4 I J → Wd E I J s H locs → lv_has ls 9 [(0, .ref (wa E 0 0)), (1, .int v1), (2, .long v2), (4, .int v4)] → W p l e (rmO 1 40) s m args below meth c H locs 0 0 (MQ below (QL E Q) args s 0 0 (AA E)) (F0 m 13 ls [])) (n : Nat) : ∀ (v1 : Int32) (v2 : Int64) (v4 : Int32) (v5 : Int32) (I : MI) (J : MJ) (H : Heap) (locs : List Loc) (ls : Array Slot), wX11_expectVetoes_b22 (wg E) ko13 Q n v1 v2 v4 v5 I J → Wd E I J s H locs → lv_has ls 9 [(0, .ref (wa E 0 0)), (1, .int v1), (2, .long v2), (4, .int v4), (5, .int v5)] → W p l e (rmO 1 40) s m args below meth c H locs 0 0 (MQ below (QL E Q) args s 0 0 (AA E)) (F0 m 22 ls []) := by
  have hx := X.1.1
  have hb := X.1.2.1
  induction n with
  | zero => intro v1 v2 v4 v5 I J H locs ls h hW hl; exact h.elim
  | succ n ih =>
    intro v1 v2 v4 v5 I J H locs ls h hW hl
    refine lv_iload hx hb dX11_expectVetoes_22 (lv_at hl 4 rfl) ?_
    refine lv_iconst (v := 1) hx hb dX11_expectVetoes_24 (by decide) ?_
    refine lv_icmp_lt (tgt := 92) hx hb dX11_expectVetoes_25 (by decide) (fun c25 => ?_) (fun c25 => ?_)
    · have h := h.1 c25
      refine lv_lload_n hx hb dX11_expectVetoes_92 rfl (lv_at hl 2 rfl) ?_
      refine lv_ldc2 hx hb X.1.2.2.2.1 (X.1.2.2.2.2 _ tw712) dX11_expectVetoes_93 ?_
      refine lv_lmul hx hb dX11_expectVetoes_96 ?_
      refine lv_lstore_n (lv' := [(2, .long (v2 * 11)), (0, .ref (wa E 0 0)), (1, .int v1), (4, .int v4), (5, .int v5)]) hx hb dX11_expectVetoes_97 rfl hl (by decide) rfl (fun ls hl => ?_)
      refine lv_iinc (v := v4 + 1) (lv' := [(4, .int (v4 + 1)), (2, .long (v2 * 11)), (0, .ref (wa E 0 0)), (1, .int v1), (5, .int v5)]) hx hb dX11_expectVetoes_98 hl (k := 3) rfl rfl (by decide) rfl (fun ls hl => ?_)
      refine lv_goto (tgt := 13) hx hb dX11_expectVetoes_101 (by decide) ?_
      exact hk13 v1 (v2 * 11) (v4 + 1) _ _ _ _ _  h hW (lv_sub hl [2, 3, 1, 0] rfl)
    · have h := h.2 c25
      refine lv_lconst (v := 0) hx hb dX11_expectVetoes_28 (by decide) ?_
      refine lv_lstore (lv' := [(6, .long 0), (0, .ref (wa E 0 0)), (1, .int v1), (2, .long v2), (4, .int v4), (5, .int v5)]) hx hb dX11_expectVetoes_29 hl (by decide) rfl (fun ls hl => ?_)
      refine lv_iconst (v := 0) hx hb dX11_expectVetoes_31 (by decide) ?_
      refine lv_istore (lv' := [(8, .int 0), (6, .long 0), (0, .ref (wa E 0 0)), (1, .int v1), (2, .long v2), (4, .int v4), (5, .int v5)]) hx hb dX11_expectVetoes_32 hl (by decide) rfl (fun ls hl => ?_)
      obtain ⟨n34, h⟩ := h
      exact bX11_expectVetoes_34 X hk13 ih n34 v1 v2 v4 v5 0 0 _ _ _ _ _  h hW (lv_sub hl [2, 3, 4, 5, 6, 1, 0] rfl)
def wX11_expectVetoes_b13 (g : GS) (Q : Int64 → MI → MJ → Prop) : Nat → Int32 → Int64 → Int32 → MI → MJ → Prop
  | 0, _, _, _, _, _ => False
  | n + 1, v1, v2, v4, I, J => ((v1 ≤ v4 → Q v2 I J) ∧ (¬ v1 ≤ v4 → ∃ n22, wX11_expectVetoes_b22 g (fun v1 v2 v4 I J => wX11_expectVetoes_b13 g Q n v1 v2 v4 I J) Q n22 v1 v2 v4 3 I J))
set_option maxHeartbeats 4000000 in
set_option maxRecDepth 100000 in
theorem bX11_expectVetoes_13 {p : Program} {l : Launch} {e : Env} {s : State} {m : MethodId} {args : Array Value} {below : List Frame} {meth : Method} {c : Code} {E : WE} {Q : Int64 → MI → MJ → Prop} (X : Cx E cX11_expectVetoes 9 RX11 ((Option.some FieldType.long)) p s m args c meth) (n : Nat) : ∀ (v1 : Int32) (v2 : Int64) (v4 : Int32) (I : MI) (J : MJ) (H : Heap) (locs : List Loc) (ls : Array Slot), wX11_expectVetoes_b13 (wg E) Q n v1 v2 v4 I J → Wd E I J s H locs → lv_has ls 9 [(0, .ref (wa E 0 0)), (1, .int v1), (2, .long v2), (4, .int v4)] → W p l e (rmO 1 40) s m args below meth c H locs 0 0 (MQ below (QL E Q) args s 0 0 (AA E)) (F0 m 13 ls []) := by
  have hx := X.1.1
  have hb := X.1.2.1
  induction n with
  | zero => intro v1 v2 v4 I J H locs ls h hW hl; exact h.elim
  | succ n ih =>
    intro v1 v2 v4 I J H locs ls h hW hl
    refine lv_iload hx hb dX11_expectVetoes_13 (lv_at hl 3 rfl) ?_
    refine lv_iload_n hx hb dX11_expectVetoes_15 rfl (lv_at hl 1 rfl) ?_
    refine lv_icmp_ge (tgt := 104) hx hb dX11_expectVetoes_16 (by decide) (fun c16 => ?_) (fun c16 => ?_)
    · have h := h.1 c16
      refine lv_lload_n hx hb dX11_expectVetoes_104 rfl (lv_at hl 2 rfl) ?_
      exact e_l X hW h dX11_expectVetoes_105
    · have h := h.2 c16
      refine lv_iconst (v := 3) hx hb dX11_expectVetoes_19 (by decide) ?_
      refine lv_istore (lv' := [(5, .int 3), (0, .ref (wa E 0 0)), (1, .int v1), (2, .long v2), (4, .int v4)]) hx hb dX11_expectVetoes_20 hl (by decide) rfl (fun ls hl => ?_)
      obtain ⟨n22, h⟩ := h
      exact bX11_expectVetoes_22 X ih n22 v1 v2 v4 3 _ _ _ _ _  h hW (lv_sub hl [1, 2, 3, 4, 0] rfl)
def wX11_expectVetoes (g : GS) (a1 : Int32) (I : MI) (J : MJ) (Q : Int64 → MI → MJ → Prop) : Prop :=
  wJ7_fill_d0a16 g 14 4 0 I J (fun I5 J5 => ∃ n13, wX11_expectVetoes_b13 g Q n13 a1 1 0 I5 J5)
theorem mbX11_expectVetoes : MB yX11_expectVetoes cX11_expectVetoes 9 ((Option.some FieldType.long)) 1 := ⟨tw707, tw1, ⟨by decide, by decide⟩, by decide +kernel, by decide +kernel⟩
set_option maxHeartbeats 4000000 in
set_option maxRecDepth 100000 in
theorem kX11_expectVetoes {l : Launch} {E : WE} {a1 : Int32} {I : MI} {J : MJ} {Q : Int64 → MI → MJ → Prop} (h : wX11_expectVetoes (wg E) a1 I J Q) : Met l yX11_expectVetoes (wsM yX11_expectVetoes cX11_expectVetoes 9 ((Option.some FieldType.long))) (rmO 1 40) (va_Pc [.ref (wa E 0 0), .int a1] (Wp E I J)) (QL E Q) 0 0 (AA E) := by
  refine m_entry mbX11_expectVetoes (Nat.le_of_ble_eq_true rfl) ?_
  intro p e s m args below meth c X ls hW hl
  have X : Cx E cX11_expectVetoes 9 RX11 ((Option.some FieldType.long)) p s m args c meth := X
  have hx := X.1.1
  have hb := X.1.2.1
  have hl : lv_has ls 9 [(0, .ref (wa E 0 0)), (1, .int a1)] := hl
  refine lv_aload_n hx hb dX11_expectVetoes_0 rfl (lv_at hl 0 rfl) ?_
  refine r_get X hW 8 (okS hW sc0_0) rfl rfl inX11 (Nat.le_of_ble_eq_true rfl) tw140 rfl dX11_expectVetoes_1 ?_
  refine lv_lconst (v := 0) hx hb dX11_expectVetoes_4 (by decide) ?_
  refine af_v hW (rn_S X hW (As := [.ref (wa E 14 0), .long 0]) (rest := []) (kJ7_fill_d0a16 (ka := 14) sc14_0 (fun _ _ => rfl) h) mbJ7_fill_d0a16 tw708 tw593 rfl hl.1 (Nat.le_of_ble_eq_true rfl) ⟨(Nat.le_of_ble_eq_true rfl), (Nat.le_of_ble_eq_true rfl)⟩ dX11_expectVetoes_5) (fun I5 J5 H locs h hW => ?_)
  refine lv_lconst (v := 1) hx hb dX11_expectVetoes_8 (by decide) ?_
  refine lv_lstore_n (lv' := [(2, .long 1), (0, .ref (wa E 0 0)), (1, .int a1)]) hx hb dX11_expectVetoes_9 rfl hl (by decide) rfl (fun ls hl => ?_)
  refine lv_iconst (v := 0) hx hb dX11_expectVetoes_10 (by decide) ?_
  refine lv_istore (lv' := [(4, .int 0), (2, .long 1), (0, .ref (wa E 0 0)), (1, .int a1)]) hx hb dX11_expectVetoes_11 hl (by decide) rfl (fun ls hl => ?_)
  obtain ⟨n13, h⟩ := h
  exact bX11_expectVetoes_13 X n13 a1 1 0 _ _ _ _ _  h hW (lv_sub hl [2, 3, 1, 0] rfl)
def wX11_veto (g : GS) (a1 : Int32) (a2 : Int32) (a3 : Int32) (I : MI) (J : MJ) (Q : Int32 → MI → MJ → Prop) : Prop :=
  wX11_within g a1 1 8 I J (fun r4 I4 J4 => ((r4 = 0 → Q ((-102)) I4 J4) ∧ (¬ r4 = 0 → wX11_within g a2 0 3 I4 J4 (fun r13 I13 J13 => ((r13 = 0 → Q ((-102)) I13 J13) ∧ (¬ r13 = 0 → wX11_within g a3 0 10 I13 J13 (fun r23 I23 J23 => ((¬ r23 = 0 → ((¬ a2 = 0 → wX11_expectVetoes g (a1 - 1) I23 J23 (fun r42 I42 J42 => vp_in (a2 - 1) 4 ∧ (vp_in a2 4 ∧ ((((lg_cmp (((Int32.toInt64 a3) * r42) + (J42 14 0 (Int32.toNatClampNeg (a2 - 1)))) (J42 14 0 (Int32.toNatClampNeg a2))) ≤ 0 → Q 0 I42 J42) ∧ (¬ (lg_cmp (((Int32.toInt64 a3) * r42) + (J42 14 0 (Int32.toNatClampNeg (a2 - 1)))) (J42 14 0 (Int32.toNatClampNeg a2))) ≤ 0 → Q 1 I42 J42)))))) ∧ (a2 = 0 → Q 0 I23 J23))) ∧ (r23 = 0 → Q ((-102)) I23 J23)))))))))
theorem mbX11_veto : MB yX11_veto cX11_veto 6 ((Option.some FieldType.int)) 3 := ⟨tw703, tw1, ⟨by decide, by decide⟩, by decide +kernel, by decide +kernel⟩
set_option maxHeartbeats 4000000 in
set_option maxRecDepth 100000 in
theorem kX11_veto {l : Launch} {E : WE} {a1 : Int32} {a2 : Int32} {a3 : Int32} {I : MI} {J : MJ} {Q : Int32 → MI → MJ → Prop} (h : wX11_veto (wg E) a1 a2 a3 I J Q) : Met l yX11_veto (wsM yX11_veto cX11_veto 6 ((Option.some FieldType.int))) (rmO 2 68) (va_Pc [.ref (wa E 0 0), .int a1, .int a2, .int a3] (Wp E I J)) (QI E Q) 0 0 (AA E) := by
  refine m_entry mbX11_veto (Nat.le_of_ble_eq_true rfl) ?_
  intro p e s m args below meth c X ls hW hl
  have X : Cx E cX11_veto 6 RX11 ((Option.some FieldType.int)) p s m args c meth := X
  have hx := X.1.1
  have hb := X.1.2.1
  have hl : lv_has ls 6 [(0, .ref (wa E 0 0)), (1, .int a1), (2, .int a2), (3, .int a3)] := hl
  refine lv_iload_n hx hb dX11_veto_0 rfl (lv_at hl 1 rfl) ?_
  refine lv_iconst (v := 1) hx hb dX11_veto_1 (by decide) ?_
  refine lv_bipush (v := 8) hx hb dX11_veto_2 (by decide) ?_
  refine af_i hW (rn_S X hW (As := [.int a1, .int 1, .int 8]) (rest := []) (kX11_within h) mbX11_within tw262 tw207 rfl hl.1 (Nat.le_of_ble_eq_true rfl) ⟨(Nat.le_of_ble_eq_true rfl), (Nat.le_of_ble_eq_true rfl)⟩ dX11_veto_4) (fun r4 I4 J4 H locs h hW => ?_)
  refine lv_if_eq (tgt := 29) hx hb dX11_veto_7 (by decide) (fun c7 => ?_) (fun c7 => ?_)
  · have h := h.1 c7
    refine lv_bipush (v := (-102)) hx hb dX11_veto_29 (by decide) ?_
    exact e_i X hW h dX11_veto_31
  · have h := h.2 c7
    refine lv_iload_n hx hb dX11_veto_10 rfl (lv_at hl 2 rfl) ?_
    refine lv_iconst (v := 0) hx hb dX11_veto_11 (by decide) ?_
    refine lv_iconst (v := 3) hx hb dX11_veto_12 (by decide) ?_
    refine af_i hW (rn_S X hW (As := [.int a2, .int 0, .int 3]) (rest := []) (kX11_within h) mbX11_within tw262 tw207 rfl hl.1 (Nat.le_of_ble_eq_true rfl) ⟨(Nat.le_of_ble_eq_true rfl), (Nat.le_of_ble_eq_true rfl)⟩ dX11_veto_13) (fun r13 I13 J13 H locs h hW => ?_)
    refine lv_if_eq (tgt := 29) hx hb dX11_veto_16 (by decide) (fun c16 => ?_) (fun c16 => ?_)
    · have h := h.1 c16
      refine lv_bipush (v := (-102)) hx hb dX11_veto_29 (by decide) ?_
      exact e_i X hW h dX11_veto_31
    · have h := h.2 c16
      refine lv_iload_n hx hb dX11_veto_19 rfl (lv_at hl 3 rfl) ?_
      refine lv_iconst (v := 0) hx hb dX11_veto_20 (by decide) ?_
      refine lv_bipush (v := 10) hx hb dX11_veto_21 (by decide) ?_
      refine af_i hW (rn_S X hW (As := [.int a3, .int 0, .int 10]) (rest := []) (kX11_within h) mbX11_within tw262 tw207 rfl hl.1 (Nat.le_of_ble_eq_true rfl) ⟨(Nat.le_of_ble_eq_true rfl), (Nat.le_of_ble_eq_true rfl)⟩ dX11_veto_23) (fun r23 I23 J23 H locs h hW => ?_)
      refine lv_if_ne (tgt := 32) hx hb dX11_veto_26 (by decide) (fun c26 => ?_) (fun c26 => ?_)
      · have h := h.1 c26
        refine lv_iload_n hx hb dX11_veto_32 rfl (lv_at hl 2 rfl) ?_
        refine lv_if_ne (tgt := 38) hx hb dX11_veto_33 (by decide) (fun c33 => ?_) (fun c33 => ?_)
        · have h := h.1 c33
          refine lv_aload_n hx hb dX11_veto_38 rfl (lv_at hl 0 rfl) ?_
          refine lv_iload_n hx hb dX11_veto_39 rfl (lv_at hl 1 rfl) ?_
          refine lv_iconst (v := 1) hx hb dX11_veto_40 (by decide) ?_
          refine lv_isub hx hb dX11_veto_41 ?_
          refine af_l hW (rn_V X hW (As := [.int (a1 - 1)]) (rest := []) (okS hW sc0_0) rfl rfl (kX11_expectVetoes h) mbX11_expectVetoes tw704 tw706 tp17 rfl hl.1 (Nat.le_of_ble_eq_true rfl) ⟨(Nat.le_of_ble_eq_true rfl), (Nat.le_of_ble_eq_true rfl)⟩ dX11_veto_42) (fun r42 I42 J42 H locs h hW => ?_)
          refine lv_lstore (lv' := [(4, .long r42), (0, .ref (wa E 0 0)), (1, .int a1), (2, .int a2), (3, .int a3)]) hx hb dX11_veto_45 hl (by decide) rfl (fun ls hl => ?_)
          refine lv_iload_n hx hb dX11_veto_47 rfl (lv_at hl 4 rfl) ?_
          refine lv_i2l hx hb dX11_veto_48 rfl ?_
          refine lv_lload hx hb dX11_veto_49 (lv_at hl 0 rfl) ?_
          refine lv_lmul hx hb dX11_veto_51 ?_
          refine lv_aload_n hx hb dX11_veto_52 rfl (lv_at hl 1 rfl) ?_
          refine r_get X hW 8 (okS hW sc0_0) rfl rfl inX11 (Nat.le_of_ble_eq_true rfl) tw140 rfl dX11_veto_53 ?_
          refine lv_iload_n hx hb dX11_veto_56 rfl (lv_at hl 3 rfl) ?_
          refine lv_iconst (v := 1) hx hb dX11_veto_57 (by decide) ?_
          refine lv_isub hx hb dX11_veto_58 ?_
          refine r_lald X hW (okS hW sc14_0) rfl h.1 dX11_veto_59 ?_
          have h := h.2
          refine lv_ladd hx hb dX11_veto_60 ?_
          refine lv_aload_n hx hb dX11_veto_61 rfl (lv_at hl 1 rfl) ?_
          refine r_get X hW 8 (okS hW sc0_0) rfl rfl inX11 (Nat.le_of_ble_eq_true rfl) tw140 rfl dX11_veto_62 ?_
          refine lv_iload_n hx hb dX11_veto_65 rfl (lv_at hl 3 rfl) ?_
          refine r_lald X hW (okS hW sc14_0) rfl h.1 dX11_veto_66 ?_
          have h := h.2
          refine W.lcmp hx hb dX11_veto_67 ?_
          refine lv_if_le (tgt := 75) hx hb dX11_veto_68 (by decide) (fun c68 => ?_) (fun c68 => ?_)
          · have h := h.1 c68
            refine lv_iconst (v := 0) hx hb dX11_veto_75 (by decide) ?_
            exact e_i X hW h dX11_veto_76
          · have h := h.2 c68
            refine lv_iconst (v := 1) hx hb dX11_veto_71 (by decide) ?_
            refine lv_goto (tgt := 76) hx hb dX11_veto_72 (by decide) ?_
            exact e_i X hW h dX11_veto_76
        · have h := h.2 c33
          refine lv_iconst (v := 0) hx hb dX11_veto_36 (by decide) ?_
          exact e_i X hW h dX11_veto_37
      · have h := h.2 c26
        refine lv_bipush (v := (-102)) hx hb dX11_veto_29 (by decide) ?_
        exact e_i X hW h dX11_veto_31
def wX11_worth (g : GS) (a1 : Int32) (a2 : Int32) (a3 : Int32) (I : MI) (J : MJ) (Q : Int64 → MI → MJ → Prop) : Prop :=
  wX11_within g a1 1 8 I J (fun r4 I4 J4 => ((r4 = 0 → Q ((-102)) I4 J4) ∧ (¬ r4 = 0 → wX11_within g a2 0 3 I4 J4 (fun r13 I13 J13 => ((r13 = 0 → Q ((-102)) I13 J13) ∧ (¬ r13 = 0 → wX11_isPart g a3 I13 J13 (fun r20 I20 J20 => ((¬ r20 = 0 → wX11_expectVetoes g a1 I20 J20 (fun r32 I32 J32 => vp_in a2 4 ∧ (wX11_lowest g (J32 14 0 (Int32.toNatClampNeg a2)) r32 a3 I32 J32 (fun r46 I46 J46 => Q r46 I46 J46)))) ∧ (r20 = 0 → Q ((-102)) I20 J20)))))))))
theorem mbX11_worth : MB yX11_worth cX11_worth 6 ((Option.some FieldType.long)) 3 := ⟨tw716, tw1, ⟨by decide, by decide⟩, by decide +kernel, by decide +kernel⟩
set_option maxHeartbeats 4000000 in
set_option maxRecDepth 100000 in
theorem kX11_worth {l : Launch} {E : WE} {a1 : Int32} {a2 : Int32} {a3 : Int32} {I : MI} {J : MJ} {Q : Int64 → MI → MJ → Prop} (h : wX11_worth (wg E) a1 a2 a3 I J Q) : Met l yX11_worth (wsM yX11_worth cX11_worth 6 ((Option.some FieldType.long))) (rmO 2 68) (va_Pc [.ref (wa E 0 0), .int a1, .int a2, .int a3] (Wp E I J)) (QL E Q) 0 0 (AA E) := by
  refine m_entry mbX11_worth (Nat.le_of_ble_eq_true rfl) ?_
  intro p e s m args below meth c X ls hW hl
  have X : Cx E cX11_worth 6 RX11 ((Option.some FieldType.long)) p s m args c meth := X
  have hx := X.1.1
  have hb := X.1.2.1
  have hl : lv_has ls 6 [(0, .ref (wa E 0 0)), (1, .int a1), (2, .int a2), (3, .int a3)] := hl
  refine lv_iload_n hx hb dX11_worth_0 rfl (lv_at hl 1 rfl) ?_
  refine lv_iconst (v := 1) hx hb dX11_worth_1 (by decide) ?_
  refine lv_bipush (v := 8) hx hb dX11_worth_2 (by decide) ?_
  refine af_i hW (rn_S X hW (As := [.int a1, .int 1, .int 8]) (rest := []) (kX11_within h) mbX11_within tw262 tw207 rfl hl.1 (Nat.le_of_ble_eq_true rfl) ⟨(Nat.le_of_ble_eq_true rfl), (Nat.le_of_ble_eq_true rfl)⟩ dX11_worth_4) (fun r4 I4 J4 H locs h hW => ?_)
  refine lv_if_eq (tgt := 26) hx hb dX11_worth_7 (by decide) (fun c7 => ?_) (fun c7 => ?_)
  · have h := h.1 c7
    refine lv_ldc2 hx hb X.1.2.2.2.1 (X.1.2.2.2.2 _ tw563) dX11_worth_26 ?_
    exact e_l X hW h dX11_worth_29
  · have h := h.2 c7
    refine lv_iload_n hx hb dX11_worth_10 rfl (lv_at hl 2 rfl) ?_
    refine lv_iconst (v := 0) hx hb dX11_worth_11 (by decide) ?_
    refine lv_iconst (v := 3) hx hb dX11_worth_12 (by decide) ?_
    refine af_i hW (rn_S X hW (As := [.int a2, .int 0, .int 3]) (rest := []) (kX11_within h) mbX11_within tw262 tw207 rfl hl.1 (Nat.le_of_ble_eq_true rfl) ⟨(Nat.le_of_ble_eq_true rfl), (Nat.le_of_ble_eq_true rfl)⟩ dX11_worth_13) (fun r13 I13 J13 H locs h hW => ?_)
    refine lv_if_eq (tgt := 26) hx hb dX11_worth_16 (by decide) (fun c16 => ?_) (fun c16 => ?_)
    · have h := h.1 c16
      refine lv_ldc2 hx hb X.1.2.2.2.1 (X.1.2.2.2.2 _ tw563) dX11_worth_26 ?_
      exact e_l X hW h dX11_worth_29
    · have h := h.2 c16
      refine lv_iload_n hx hb dX11_worth_19 rfl (lv_at hl 3 rfl) ?_
      refine af_i hW (rn_S X hW (As := [.int a3]) (rest := []) (kX11_isPart h) mbX11_isPart tw527 tw528 rfl hl.1 (Nat.le_of_ble_eq_true rfl) ⟨(Nat.le_of_ble_eq_true rfl), (Nat.le_of_ble_eq_true rfl)⟩ dX11_worth_20) (fun r20 I20 J20 H locs h hW => ?_)
      refine lv_if_ne (tgt := 30) hx hb dX11_worth_23 (by decide) (fun c23 => ?_) (fun c23 => ?_)
      · have h := h.1 c23
        refine lv_aload_n hx hb dX11_worth_30 rfl (lv_at hl 0 rfl) ?_
        refine lv_iload_n hx hb dX11_worth_31 rfl (lv_at hl 1 rfl) ?_
        refine af_l hW (rn_V X hW (As := [.int a1]) (rest := []) (okS hW sc0_0) rfl rfl (kX11_expectVetoes h) mbX11_expectVetoes tw704 tw706 tp17 rfl hl.1 (Nat.le_of_ble_eq_true rfl) ⟨(Nat.le_of_ble_eq_true rfl), (Nat.le_of_ble_eq_true rfl)⟩ dX11_worth_32) (fun r32 I32 J32 H locs h hW => ?_)
        refine lv_lstore (lv' := [(4, .long r32), (0, .ref (wa E 0 0)), (1, .int a1), (2, .int a2), (3, .int a3)]) hx hb dX11_worth_35 hl (by decide) rfl (fun ls hl => ?_)
        refine lv_aload_n hx hb dX11_worth_37 rfl (lv_at hl 1 rfl) ?_
        refine r_get X hW 8 (okS hW sc0_0) rfl rfl inX11 (Nat.le_of_ble_eq_true rfl) tw140 rfl dX11_worth_38 ?_
        refine lv_iload_n hx hb dX11_worth_41 rfl (lv_at hl 3 rfl) ?_
        refine r_lald X hW (okS hW sc14_0) rfl h.1 dX11_worth_42 ?_
        have h := h.2
        refine lv_lload hx hb dX11_worth_43 (lv_at hl 0 rfl) ?_
        refine lv_iload_n hx hb dX11_worth_45 rfl (lv_at hl 4 rfl) ?_
        refine af_l hW (rn_S X hW (As := [.long (J32 14 0 (Int32.toNatClampNeg a2)), .long r32, .int a3]) (rest := []) (kX11_lowest h) mbX11_lowest tw551 tw552 rfl hl.1 (Nat.le_of_ble_eq_true rfl) ⟨(Nat.le_of_ble_eq_true rfl), (Nat.le_of_ble_eq_true rfl)⟩ dX11_worth_46) (fun r46 I46 J46 H locs h hW => ?_)
        exact e_l X hW h dX11_worth_49
      · have h := h.2 c23
        refine lv_ldc2 hx hb X.1.2.2.2.1 (X.1.2.2.2.2 _ tw563) dX11_worth_26 ?_
        exact e_l X hW h dX11_worth_29
def wX11_years_b53 (g : GS) (Q : Int32 → MI → MJ → Prop) : Nat → Int32 → Int32 → Nat → Int32 → MI → MJ → Prop
  | 0, _, _, _, _, _, _ => False
  | n + 1, v2, v4, v5, v6, I, J => ((v2 ≤ v6 → ((v4 = 0 → Q (I 12 0 2) I J) ∧ (¬ v4 = 0 → ((v4 = 1 → wX1_unlikeTastes g I J (fun r116 I116 J116 => Q r116 I116 J116)) ∧ (¬ v4 = 1 → ((v4 = 2 → Q (I 12 0 3) I J) ∧ (¬ v4 = 2 → Q (I 12 0 4) I J))))))) ∧ (¬ v2 ≤ v6 → wX1_passYear g v5 I J (fun I65 J65 => wX11_years_b53 g Q n v2 v4 v5 (v6 + 1) I65 J65)))
set_option maxHeartbeats 4000000 in
set_option maxRecDepth 100000 in
theorem bX11_years_53 {p : Program} {l : Launch} {e : Env} {s : State} {m : MethodId} {args : Array Value} {below : List Frame} {meth : Method} {c : Code} {E : WE} {Q : Int32 → MI → MJ → Prop} (X : Cx E cX11_years 7 RX11 ((Option.some FieldType.int)) p s m args c meth) (n : Nat) : ∀ (v2 : Int32) (v4 : Int32) (v5 : Nat) (v6 : Int32) (I : MI) (J : MJ) (H : Heap) (locs : List Loc) (ls : Array Slot), v5 < (wg E).2.2 → wX11_years_b53 (wg E) Q n v2 v4 v5 v6 I J → Wd E I J s H locs → lv_has ls 7 [(0, .ref (wa E 0 0)), (2, .int v2), (4, .int v4), (5, .ref (wa E 43 v5)), (6, .int v6)] → W p l e (rmO 4 86) s m args below meth c H locs 0 0 (MQ below (QI E Q) args s 0 0 (AA E)) (F0 m 53 ls []) := by
  have hx := X.1.1
  have hb := X.1.2.1
  induction n with
  | zero => intro v2 v4 v5 v6 I J H locs ls hp_v5 h hW hl; exact h.elim
  | succ n ih =>
    intro v2 v4 v5 v6 I J H locs ls hp_v5 h hW hl
    refine lv_iload hx hb dX11_years_53 (lv_at hl 4 rfl) ?_
    refine lv_iload_n hx hb dX11_years_55 rfl (lv_at hl 1 rfl) ?_
    refine lv_icmp_ge (tgt := 74) hx hb dX11_years_56 (by decide) (fun c56 => ?_) (fun c56 => ?_)
    · have h := h.1 c56
      refine lv_iload hx hb dX11_years_74 (lv_at hl 2 rfl) ?_
      by_cases s76_0 : v4 = 0
      · have h := h.1 s76_0
        refine sw_in (tgt := 104) (off := 28) hx hb dX11_years_76 s76_0 (by decide) (by decide) (by decide) (by decide) ?_
        refine lv_aload_n hx hb dX11_years_104 rfl (lv_at hl 0 rfl) ?_
        refine r_get X hW 7 (okS hW sc0_0) rfl rfl inX11 (Nat.le_of_ble_eq_true rfl) tw139 rfl dX11_years_105 ?_
        refine r_getN X hW 2 (okS hW sc12_0) rfl rfl inX1 (Nat.le_of_ble_eq_true rfl) nw116 rfl dX11_years_108 ?_
        exact e_i X hW h dX11_years_111
      · have h := h.2 s76_0
        by_cases s76_1 : v4 = 1
        · have h := h.1 s76_1
          refine sw_in (tgt := 112) (off := 36) hx hb dX11_years_76 s76_1 (by decide) (by decide) (by decide) (by decide) ?_
          refine lv_aload_n hx hb dX11_years_112 rfl (lv_at hl 0 rfl) ?_
          refine r_get X hW 7 (okS hW sc0_0) rfl rfl inX11 (Nat.le_of_ble_eq_true rfl) tw139 rfl dX11_years_113 ?_
          refine af_i hW (rn_V X hW (As := []) (rest := []) (okS hW sc12_0) rfl rfl (kX1_unlikeTastes h) mbX1_unlikeTastes tw748 tw749 tw750 rfl hl.1 (Nat.le_of_ble_eq_true rfl) ⟨(Nat.le_of_ble_eq_true rfl), (Nat.le_of_ble_eq_true rfl)⟩ dX11_years_116) (fun r116 I116 J116 H locs h hW => ?_)
          exact e_i X hW h dX11_years_119
        · have h := h.2 s76_1
          by_cases s76_2 : v4 = 2
          · have h := h.1 s76_2
            refine sw_in (tgt := 120) (off := 44) hx hb dX11_years_76 s76_2 (by decide) (by decide) (by decide) (by decide) ?_
            refine lv_aload_n hx hb dX11_years_120 rfl (lv_at hl 0 rfl) ?_
            refine r_get X hW 7 (okS hW sc0_0) rfl rfl inX11 (Nat.le_of_ble_eq_true rfl) tw139 rfl dX11_years_121 ?_
            refine r_getN X hW 3 (okS hW sc12_0) rfl rfl inX1 (Nat.le_of_ble_eq_true rfl) nw118 rfl dX11_years_124 ?_
            exact e_i X hW h dX11_years_127
          · have h := h.2 s76_2
            have z76 : Int32.toInt v4 < 0 ∨ 2 < Int32.toInt v4 := by
              have := ne_ti s76_0 (a := 0) (by decide)
              have := ne_ti s76_1 (a := 1) (by decide)
              have := ne_ti s76_2 (a := 2) (by decide)
              omega
            refine lv_tableOut (tgt := 128) hx hb dX11_years_76 z76 (by decide) ?_
            refine lv_aload_n hx hb dX11_years_128 rfl (lv_at hl 0 rfl) ?_
            refine r_get X hW 7 (okS hW sc0_0) rfl rfl inX11 (Nat.le_of_ble_eq_true rfl) tw139 rfl dX11_years_129 ?_
            refine r_getN X hW 4 (okS hW sc12_0) rfl rfl inX1 (Nat.le_of_ble_eq_true rfl) nw120 rfl dX11_years_132 ?_
            exact e_i X hW h dX11_years_135
    · have h := h.2 c56
      refine lv_aload_n hx hb dX11_years_59 rfl (lv_at hl 0 rfl) ?_
      refine r_get X hW 7 (okS hW sc0_0) rfl rfl inX11 (Nat.le_of_ble_eq_true rfl) tw139 rfl dX11_years_60 ?_
      refine lv_aload hx hb dX11_years_63 (lv_at hl 3 rfl) ?_
      refine af_v hW (rn_V X hW (As := [.ref (wa E 43 v5)]) (rest := []) (okS hW sc12_0) rfl rfl (kX1_passYear hp_v5 h) mbX1_passYear tw731 tw732 tw733 rfl hl.1 (Nat.le_of_ble_eq_true rfl) ⟨(Nat.le_of_ble_eq_true rfl), (Nat.le_of_ble_eq_true rfl)⟩ dX11_years_65) (fun I65 J65 H locs h hW => ?_)
      refine lv_iinc (v := v6 + 1) (lv' := [(6, .int (v6 + 1)), (0, .ref (wa E 0 0)), (2, .int v2), (4, .int v4), (5, .ref (wa E 43 v5))]) hx hb dX11_years_68 hl (k := 4) rfl rfl (by decide) rfl (fun ls hl => ?_)
      refine lv_goto (tgt := 53) hx hb dX11_years_71 (by decide) ?_
      exact ih v2 v4 v5 (v6 + 1) _ _ _ _ _ hp_v5 h hW (lv_sub hl [1, 2, 3, 4, 0] rfl)
def wX11_years (g : GS) (a1 : Int32) (a2 : Int32) (a3 : Int32) (a4 : Int32) (I : MI) (J : MJ) (Q : Int32 → MI → MJ → Prop) : Prop :=
  wX11_ruleAt g a1 I J (fun o2 I2 J2 => (o2 = none → Q ((-101)) I2 J2) ∧ (∀ r2, o2 = some r2 → wX11_within g a2 0 60 I2 J2 (fun r19 I19 J19 => ((r19 = 0 → Q ((-102)) I19 J19) ∧ (¬ r19 = 0 → ((a3 < 0 → Q ((-102)) I19 J19) ∧ (¬ a3 < 0 → wX11_within g a4 0 3 I19 J19 (fun r33 I33 J33 => ((¬ r33 = 0 → wX1_found g a3 I33 J33 (fun I47 J47 => ∃ n53, wX11_years_b53 g Q n53 a2 a4 r2 0 I47 J47)) ∧ (r33 = 0 → Q ((-102)) I33 J33))))))))))
theorem mbX11_years : MB yX11_years cX11_years 7 ((Option.some FieldType.int)) 4 := ⟨tw720, tw1, ⟨by decide, by decide⟩, by decide +kernel, by decide +kernel⟩
set_option maxHeartbeats 4000000 in
set_option maxRecDepth 100000 in
theorem kX11_years {l : Launch} {E : WE} {a1 : Int32} {a2 : Int32} {a3 : Int32} {a4 : Int32} {I : MI} {J : MJ} {Q : Int32 → MI → MJ → Prop} (h : wX11_years (wg E) a1 a2 a3 a4 I J Q) : Met l yX11_years (wsM yX11_years cX11_years 7 ((Option.some FieldType.int))) (rmO 4 86) (va_Pc [.ref (wa E 0 0), .int a1, .int a2, .int a3, .int a4] (Wp E I J)) (QI E Q) 0 0 (AA E) := by
  refine m_entry mbX11_years (Nat.le_of_ble_eq_true rfl) ?_
  intro p e s m args below meth c X ls hW hl
  have X : Cx E cX11_years 7 RX11 ((Option.some FieldType.int)) p s m args c meth := X
  have hx := X.1.1
  have hb := X.1.2.1
  have hl : lv_has ls 7 [(0, .ref (wa E 0 0)), (1, .int a1), (2, .int a2), (3, .int a3), (4, .int a4)] := hl
  refine lv_aload_n hx hb dX11_years_0 rfl (lv_at hl 0 rfl) ?_
  refine lv_iload_n hx hb dX11_years_1 rfl (lv_at hl 1 rfl) ?_
  refine af_r hW (rn_V X hW (As := [.int a1]) (rest := []) (okS hW sc0_0) rfl rfl (kX11_ruleAt h) mbX11_ruleAt tw258 tw260 tp1 rfl hl.1 (Nat.le_of_ble_eq_true rfl) ⟨(Nat.le_of_ble_eq_true rfl), (Nat.le_of_ble_eq_true rfl)⟩ dX11_years_2) (fun I2 J2 H locs h hW => ?_) (fun r2 I2 J2 H locs c2 h hW => ?_)
  · have h := h.1 rfl
    refine lv_astoreN (lv' := [(5, .null), (0, .ref (wa E 0 0)), (1, .int a1), (2, .int a2), (3, .int a3), (4, .int a4)]) hx hb dX11_years_5 hl (by decide) rfl (fun ls hl => ?_)
    refine lv_aloadN hx hb dX11_years_7 (lv_at hl 0 rfl) ?_
    refine lv_ifnonnullN hx hb dX11_years_9 ?_
    refine lv_bipush (v := (-101)) hx hb dX11_years_12 (by decide) ?_
    exact e_i X hW h dX11_years_14
  · have h := h.2 r2 rfl
    refine lv_astore (lv' := [(5, .ref (wa E 43 r2)), (0, .ref (wa E 0 0)), (1, .int a1), (2, .int a2), (3, .int a3), (4, .int a4)]) hx hb dX11_years_5 hl (by decide) rfl (fun ls hl => ?_)
    refine lv_aload hx hb dX11_years_7 (lv_at hl 0 rfl) ?_
    refine lv_ifnonnull (tgt := 15) hx hb dX11_years_9 (by decide) ?_
    refine lv_iload_n hx hb dX11_years_15 rfl (lv_at hl 3 rfl) ?_
    refine lv_iconst (v := 0) hx hb dX11_years_16 (by decide) ?_
    refine lv_bipush (v := 60) hx hb dX11_years_17 (by decide) ?_
    refine af_i hW (rn_S X hW (As := [.int a2, .int 0, .int 60]) (rest := []) (kX11_within h) mbX11_within tw262 tw207 rfl hl.1 (Nat.le_of_ble_eq_true rfl) ⟨(Nat.le_of_ble_eq_true rfl), (Nat.le_of_ble_eq_true rfl)⟩ dX11_years_19) (fun r19 I19 J19 H locs h hW => ?_)
    refine lv_if_eq (tgt := 39) hx hb dX11_years_22 (by decide) (fun c22 => ?_) (fun c22 => ?_)
    · have h := h.1 c22
      refine lv_bipush (v := (-102)) hx hb dX11_years_39 (by decide) ?_
      exact e_i X hW h dX11_years_41
    · have h := h.2 c22
      refine lv_iload_n hx hb dX11_years_25 rfl (lv_at hl 4 rfl) ?_
      refine lv_if_lt (tgt := 39) hx hb dX11_years_26 (by decide) (fun c26 => ?_) (fun c26 => ?_)
      · have h := h.1 c26
        refine lv_bipush (v := (-102)) hx hb dX11_years_39 (by decide) ?_
        exact e_i X hW h dX11_years_41
      · have h := h.2 c26
        refine lv_iload hx hb dX11_years_29 (lv_at hl 5 rfl) ?_
        refine lv_iconst (v := 0) hx hb dX11_years_31 (by decide) ?_
        refine lv_iconst (v := 3) hx hb dX11_years_32 (by decide) ?_
        refine af_i hW (rn_S X hW (As := [.int a4, .int 0, .int 3]) (rest := []) (kX11_within h) mbX11_within tw262 tw207 rfl hl.1 (Nat.le_of_ble_eq_true rfl) ⟨(Nat.le_of_ble_eq_true rfl), (Nat.le_of_ble_eq_true rfl)⟩ dX11_years_33) (fun r33 I33 J33 H locs h hW => ?_)
        refine lv_if_ne (tgt := 42) hx hb dX11_years_36 (by decide) (fun c36 => ?_) (fun c36 => ?_)
        · have h := h.1 c36
          refine lv_aload_n hx hb dX11_years_42 rfl (lv_at hl 1 rfl) ?_
          refine r_get X hW 7 (okS hW sc0_0) rfl rfl inX11 (Nat.le_of_ble_eq_true rfl) tw139 rfl dX11_years_43 ?_
          refine lv_iload_n hx hb dX11_years_46 rfl (lv_at hl 4 rfl) ?_
          refine af_v hW (rn_V X hW (As := [.int a3]) (rest := []) (okS hW sc12_0) rfl rfl (kX1_found h) mbX1_found tw721 tw722 tw723 rfl hl.1 (Nat.le_of_ble_eq_true rfl) ⟨(Nat.le_of_ble_eq_true rfl), (Nat.le_of_ble_eq_true rfl)⟩ dX11_years_47) (fun I47 J47 H locs h hW => ?_)
          refine lv_iconst (v := 0) hx hb dX11_years_50 (by decide) ?_
          refine lv_istore (lv' := [(6, .int 0), (5, .ref (wa E 43 r2)), (0, .ref (wa E 0 0)), (1, .int a1), (2, .int a2), (3, .int a3), (4, .int a4)]) hx hb dX11_years_51 hl (by decide) rfl (fun ls hl => ?_)
          obtain ⟨n53, h⟩ := h
          exact bX11_years_53 X n53 a2 a4 r2 0 _ _ _ _ _ c2 h hW (lv_sub hl [2, 4, 6, 1, 0] rfl)
        · have h := h.2 c36
          refine lv_bipush (v := (-102)) hx hb dX11_years_39 (by decide) ?_
          exact e_i X hW h dX11_years_41
