def wX12_blackBy_b78 (g : GS) (Q : Int32 → MI → MJ → Prop) (v5 : Int32) (I : MI) (J : MJ) : Prop :=
  Q (v5 / 2) I J
set_option maxHeartbeats 4000000 in
set_option maxRecDepth 100000 in
theorem bX12_blackBy_78 {p : Program} {l : Launch} {e : Env} {s : State} {m : MethodId} {args : Array Value} {below : List Frame} {meth : Method} {c : Code} {E : WE} {Q : Int32 → MI → MJ → Prop} (X : Cx E cX12_blackBy 6 RX12 ((Option.some FieldType.int)) p s m args c meth) : ∀ (v5 : Int32) (I : MI) (J : MJ) (H : Heap) (locs : List Loc) (ls : Array Slot), wX12_blackBy_b78 (wg E) Q v5 I J → Wd E I J s H locs → lv_has ls 6 [(5, .int v5)] → W p l e (rmO 0 0) s m args below meth c H locs 0 0 (MQ below (QI E Q) args s 0 0 (AA E)) (F0 m 78 ls []) := by
  have hx := X.1.1
  have hb := X.1.2.1
  intro v5 I J H locs ls h hW hl
  refine lv_iload hx hb dX12_blackBy_78 (lv_at hl 0 rfl) ?_
  refine lv_iconst (v := 2) hx hb dX12_blackBy_80 (by decide) ?_
  refine lv_idiv hx hb dX12_blackBy_81 (by decide) ?_
  refine lv_goto (tgt := 87) hx hb dX12_blackBy_82 (by decide) ?_
  exact e_i X hW h dX12_blackBy_87
def wX12_blackBy (g : GS) (a1 : Int32) (a2 : Int32) (a3 : Int32) (a4 : Int32) (I : MI) (J : MJ) (Q : Int32 → MI → MJ → Prop) : Prop :=
  vp_in ((6 * a4) + a2) 48 ∧ (vp_in a2 6 ∧ (((¬ (I 21 0 (Int32.toNatClampNeg a2)) = a4 → vp_in a4 8 ∧ ((((I 18 0 (Int32.toNatClampNeg a4)) = 1 → vp_in a1 6 ∧ (((¬ (I 27 0 (Int32.toNatClampNeg a1)) = 0 → wX12_blackBy_b78 g Q (I 22 0 (Int32.toNatClampNeg ((6 * a4) + a2))) I J) ∧ ((I 27 0 (Int32.toNatClampNeg a1)) = 0 → ((4 ≤ a3 → Q (I 22 0 (Int32.toNatClampNeg ((6 * a4) + a2))) I J) ∧ (¬ 4 ≤ a3 → wX12_blackBy_b78 g Q (I 22 0 (Int32.toNatClampNeg ((6 * a4) + a2))) I J)))))) ∧ (¬ (I 18 0 (Int32.toNatClampNeg a4)) = 1 → (((I 18 0 (Int32.toNatClampNeg a4)) = 2 → vp_in a4 8 ∧ (vp_in a4 8 ∧ (Q ((((I 22 0 (Int32.toNatClampNeg ((6 * a4) + a2))) * (10 - (I 19 0 (Int32.toNatClampNeg a4)))) + ((I 19 0 (Int32.toNatClampNeg a4)) * (10 - (I 22 0 (Int32.toNatClampNeg ((6 * a4) + a2)))))) / 10) I J))) ∧ (¬ (I 18 0 (Int32.toNatClampNeg a4)) = 2 → (((I 18 0 (Int32.toNatClampNeg a4)) = 3 → vp_in a2 6 ∧ (vp_in a4 8 ∧ (((¬ (I 21 0 (Int32.toNatClampNeg a2)) = (I 19 0 (Int32.toNatClampNeg a4)) → Q (I 22 0 (Int32.toNatClampNeg ((6 * a4) + a2))) I J) ∧ ((I 21 0 (Int32.toNatClampNeg a2)) = (I 19 0 (Int32.toNatClampNeg a4)) → Q 10 I J))))) ∧ (¬ (I 18 0 (Int32.toNatClampNeg a4)) = 3 → (((I 18 0 (Int32.toNatClampNeg a4)) = 4 → vp_in a2 6 ∧ (vp_in a4 8 ∧ (((¬ (I 21 0 (Int32.toNatClampNeg a2)) = (I 19 0 (Int32.toNatClampNeg a4)) → Q (I 22 0 (Int32.toNatClampNeg ((6 * a4) + a2))) I J) ∧ ((I 21 0 (Int32.toNatClampNeg a2)) = (I 19 0 (Int32.toNatClampNeg a4)) → Q 0 I J))))) ∧ (¬ (I 18 0 (Int32.toNatClampNeg a4)) = 4 → Q (I 22 0 (Int32.toNatClampNeg ((6 * a4) + a2))) I J)))))))))) ∧ ((I 21 0 (Int32.toNatClampNeg a2)) = a4 → Q 0 I J))))
theorem mbX12_blackBy : MB yX12_blackBy cX12_blackBy 6 ((Option.some FieldType.int)) 4 := ⟨tw1064, tw7, ⟨by decide, by decide⟩, by decide +kernel, by decide +kernel⟩
set_option maxHeartbeats 4000000 in
set_option maxRecDepth 100000 in
theorem kX12_blackBy {l : Launch} {E : WE} {a1 : Int32} {a2 : Int32} {a3 : Int32} {a4 : Int32} {I : MI} {J : MJ} {Q : Int32 → MI → MJ → Prop} (h : wX12_blackBy (wg E) a1 a2 a3 a4 I J Q) : Met l yX12_blackBy (wsM yX12_blackBy cX12_blackBy 6 ((Option.some FieldType.int))) (rmO 0 0) (va_Pc [.ref (wa E 17 0), .int a1, .int a2, .int a3, .int a4] (Wp E I J)) (QI E Q) 0 0 (AA E) := by
  refine m_entry mbX12_blackBy (Nat.le_of_ble_eq_true rfl) ?_
  intro p e s m args below meth c X ls hW hl
  have X : Cx E cX12_blackBy 6 RX12 ((Option.some FieldType.int)) p s m args c meth := X
  have hx := X.1.1
  have hb := X.1.2.1
  have hl : lv_has ls 6 [(0, .ref (wa E 17 0)), (1, .int a1), (2, .int a2), (3, .int a3), (4, .int a4)] := hl
  refine lv_aload_n hx hb dX12_blackBy_0 rfl (lv_at hl 0 rfl) ?_
  refine r_get X hW 6 (okS hW sc17_0) rfl rfl inX12 (Nat.le_of_ble_eq_true rfl) tw840 rfl dX12_blackBy_1 ?_
  refine lv_bipush (v := 6) hx hb dX12_blackBy_4 (by decide) ?_
  refine lv_iload hx hb dX12_blackBy_6 (lv_at hl 4 rfl) ?_
  refine lv_imul hx hb dX12_blackBy_8 ?_
  refine lv_iload_n hx hb dX12_blackBy_9 rfl (lv_at hl 2 rfl) ?_
  refine lv_iadd hx hb dX12_blackBy_10 ?_
  refine r_iald X hW (okS hW sc22_0) rfl h.1 dX12_blackBy_11 ?_
  have h := h.2
  refine lv_istore (lv' := [(5, .int (I 22 0 (Int32.toNatClampNeg ((6 * a4) + a2)))), (0, .ref (wa E 17 0)), (1, .int a1), (2, .int a2), (3, .int a3), (4, .int a4)]) hx hb dX12_blackBy_12 hl (by decide) rfl (fun ls hl => ?_)
  refine lv_aload_n hx hb dX12_blackBy_14 rfl (lv_at hl 1 rfl) ?_
  refine r_get X hW 5 (okS hW sc17_0) rfl rfl inX12 (Nat.le_of_ble_eq_true rfl) tw839 rfl dX12_blackBy_15 ?_
  refine lv_iload_n hx hb dX12_blackBy_18 rfl (lv_at hl 3 rfl) ?_
  refine r_iald X hW (okS hW sc21_0) rfl h.1 dX12_blackBy_19 ?_
  have h := h.2
  refine lv_iload hx hb dX12_blackBy_20 (lv_at hl 5 rfl) ?_
  refine lv_icmp_ne (tgt := 27) hx hb dX12_blackBy_22 (by decide) (fun c22 => ?_) (fun c22 => ?_)
  · have h := h.1 c22
    refine lv_aload_n hx hb dX12_blackBy_27 rfl (lv_at hl 1 rfl) ?_
    refine r_get X hW 1 (okS hW sc17_0) rfl rfl inX12 (Nat.le_of_ble_eq_true rfl) tw835 rfl dX12_blackBy_28 ?_
    refine lv_iload hx hb dX12_blackBy_31 (lv_at hl 5 rfl) ?_
    refine r_iald X hW (okS hW sc18_0) rfl h.1 dX12_blackBy_33 ?_
    have h := h.2
    by_cases s34_0 : (I 18 0 (Int32.toNatClampNeg a4)) = 1
    · have h := h.1 s34_0
      refine sw_in (tgt := 64) (off := 30) hx hb dX12_blackBy_34 s34_0 (by decide) (by decide) (by decide) (by decide) ?_
      refine lv_aload_n hx hb dX12_blackBy_64 rfl (lv_at hl 1 rfl) ?_
      refine r_get X hW 12 (okS hW sc17_0) rfl rfl inX12 (Nat.le_of_ble_eq_true rfl) tw846 rfl dX12_blackBy_65 ?_
      refine lv_iload_n hx hb dX12_blackBy_68 rfl (lv_at hl 2 rfl) ?_
      refine r_zald X hW (okS hW sc27_0) rfl h.1 dX12_blackBy_69 ?_
      have h := h.2
      refine lv_if_ne (tgt := 78) hx hb dX12_blackBy_70 (by decide) (fun c70 => ?_) (fun c70 => ?_)
      · have h := h.1 c70
        exact bX12_blackBy_78 X (I 22 0 (Int32.toNatClampNeg ((6 * a4) + a2))) _ _ _ _ _  h hW (lv_sub hl [0] rfl)
      · have h := h.2 c70
        refine lv_iload_n hx hb dX12_blackBy_73 rfl (lv_at hl 4 rfl) ?_
        refine lv_iconst (v := 4) hx hb dX12_blackBy_74 (by decide) ?_
        refine lv_icmp_ge (tgt := 85) hx hb dX12_blackBy_75 (by decide) (fun c75 => ?_) (fun c75 => ?_)
        · have h := h.1 c75
          refine lv_iload hx hb dX12_blackBy_85 (lv_at hl 0 rfl) ?_
          exact e_i X hW h dX12_blackBy_87
        · have h := h.2 c75
          exact bX12_blackBy_78 X (I 22 0 (Int32.toNatClampNeg ((6 * a4) + a2))) _ _ _ _ _  h hW (lv_sub hl [0] rfl)
    · have h := h.2 s34_0
      by_cases s34_1 : (I 18 0 (Int32.toNatClampNeg a4)) = 2
      · have h := h.1 s34_1
        refine sw_in (tgt := 88) (off := 54) hx hb dX12_blackBy_34 s34_1 (by decide) (by decide) (by decide) (by decide) ?_
        refine lv_iload hx hb dX12_blackBy_88 (lv_at hl 0 rfl) ?_
        refine lv_bipush (v := 10) hx hb dX12_blackBy_90 (by decide) ?_
        refine lv_aload_n hx hb dX12_blackBy_92 rfl (lv_at hl 1 rfl) ?_
        refine r_get X hW 2 (okS hW sc17_0) rfl rfl inX12 (Nat.le_of_ble_eq_true rfl) tw836 rfl dX12_blackBy_93 ?_
        refine lv_iload hx hb dX12_blackBy_96 (lv_at hl 5 rfl) ?_
        refine r_iald X hW (okS hW sc19_0) rfl h.1 dX12_blackBy_98 ?_
        have h := h.2
        refine lv_isub hx hb dX12_blackBy_99 ?_
        refine lv_imul hx hb dX12_blackBy_100 ?_
        refine lv_aload_n hx hb dX12_blackBy_101 rfl (lv_at hl 1 rfl) ?_
        refine r_get X hW 2 (okS hW sc17_0) rfl rfl inX12 (Nat.le_of_ble_eq_true rfl) tw836 rfl dX12_blackBy_102 ?_
        refine lv_iload hx hb dX12_blackBy_105 (lv_at hl 5 rfl) ?_
        refine r_iald X hW (okS hW sc19_0) rfl h.1 dX12_blackBy_107 ?_
        have h := h.2
        refine lv_bipush (v := 10) hx hb dX12_blackBy_108 (by decide) ?_
        refine lv_iload hx hb dX12_blackBy_110 (lv_at hl 0 rfl) ?_
        refine lv_isub hx hb dX12_blackBy_112 ?_
        refine lv_imul hx hb dX12_blackBy_113 ?_
        refine lv_iadd hx hb dX12_blackBy_114 ?_
        refine lv_bipush (v := 10) hx hb dX12_blackBy_115 (by decide) ?_
        refine lv_idiv hx hb dX12_blackBy_117 (by decide) ?_
        exact e_i X hW h dX12_blackBy_118
      · have h := h.2 s34_1
        by_cases s34_2 : (I 18 0 (Int32.toNatClampNeg a4)) = 3
        · have h := h.1 s34_2
          refine sw_in (tgt := 119) (off := 85) hx hb dX12_blackBy_34 s34_2 (by decide) (by decide) (by decide) (by decide) ?_
          refine lv_aload_n hx hb dX12_blackBy_119 rfl (lv_at hl 1 rfl) ?_
          refine r_get X hW 5 (okS hW sc17_0) rfl rfl inX12 (Nat.le_of_ble_eq_true rfl) tw839 rfl dX12_blackBy_120 ?_
          refine lv_iload_n hx hb dX12_blackBy_123 rfl (lv_at hl 3 rfl) ?_
          refine r_iald X hW (okS hW sc21_0) rfl h.1 dX12_blackBy_124 ?_
          have h := h.2
          refine lv_aload_n hx hb dX12_blackBy_125 rfl (lv_at hl 1 rfl) ?_
          refine r_get X hW 2 (okS hW sc17_0) rfl rfl inX12 (Nat.le_of_ble_eq_true rfl) tw836 rfl dX12_blackBy_126 ?_
          refine lv_iload hx hb dX12_blackBy_129 (lv_at hl 5 rfl) ?_
          refine r_iald X hW (okS hW sc19_0) rfl h.1 dX12_blackBy_131 ?_
          have h := h.2
          refine lv_icmp_ne (tgt := 140) hx hb dX12_blackBy_132 (by decide) (fun c132 => ?_) (fun c132 => ?_)
          · have h := h.1 c132
            refine lv_iload hx hb dX12_blackBy_140 (lv_at hl 0 rfl) ?_
            exact e_i X hW h dX12_blackBy_142
          · have h := h.2 c132
            refine lv_bipush (v := 10) hx hb dX12_blackBy_135 (by decide) ?_
            refine lv_goto (tgt := 142) hx hb dX12_blackBy_137 (by decide) ?_
            exact e_i X hW h dX12_blackBy_142
        · have h := h.2 s34_2
          by_cases s34_3 : (I 18 0 (Int32.toNatClampNeg a4)) = 4
          · have h := h.1 s34_3
            refine sw_in (tgt := 143) (off := 109) hx hb dX12_blackBy_34 s34_3 (by decide) (by decide) (by decide) (by decide) ?_
            refine lv_aload_n hx hb dX12_blackBy_143 rfl (lv_at hl 1 rfl) ?_
            refine r_get X hW 5 (okS hW sc17_0) rfl rfl inX12 (Nat.le_of_ble_eq_true rfl) tw839 rfl dX12_blackBy_144 ?_
            refine lv_iload_n hx hb dX12_blackBy_147 rfl (lv_at hl 3 rfl) ?_
            refine r_iald X hW (okS hW sc21_0) rfl h.1 dX12_blackBy_148 ?_
            have h := h.2
            refine lv_aload_n hx hb dX12_blackBy_149 rfl (lv_at hl 1 rfl) ?_
            refine r_get X hW 2 (okS hW sc17_0) rfl rfl inX12 (Nat.le_of_ble_eq_true rfl) tw836 rfl dX12_blackBy_150 ?_
            refine lv_iload hx hb dX12_blackBy_153 (lv_at hl 5 rfl) ?_
            refine r_iald X hW (okS hW sc19_0) rfl h.1 dX12_blackBy_155 ?_
            have h := h.2
            refine lv_icmp_ne (tgt := 163) hx hb dX12_blackBy_156 (by decide) (fun c156 => ?_) (fun c156 => ?_)
            · have h := h.1 c156
              refine lv_iload hx hb dX12_blackBy_163 (lv_at hl 0 rfl) ?_
              exact e_i X hW h dX12_blackBy_165
            · have h := h.2 c156
              refine lv_iconst (v := 0) hx hb dX12_blackBy_159 (by decide) ?_
              refine lv_goto (tgt := 165) hx hb dX12_blackBy_160 (by decide) ?_
              exact e_i X hW h dX12_blackBy_165
          · have h := h.2 s34_3
            have z34 : Int32.toInt (I 18 0 (Int32.toNatClampNeg a4)) < 1 ∨ 4 < Int32.toInt (I 18 0 (Int32.toNatClampNeg a4)) := by
              have := ne_ti s34_0 (a := 1) (by decide)
              have := ne_ti s34_1 (a := 2) (by decide)
              have := ne_ti s34_2 (a := 3) (by decide)
              have := ne_ti s34_3 (a := 4) (by decide)
              omega
            refine lv_tableOut (tgt := 166) hx hb dX12_blackBy_34 z34 (by decide) ?_
            refine lv_iload hx hb dX12_blackBy_166 (lv_at hl 0 rfl) ?_
            exact e_i X hW h dX12_blackBy_168
  · have h := h.2 c22
    refine lv_iconst (v := 0) hx hb dX12_blackBy_25 (by decide) ?_
    exact e_i X hW h dX12_blackBy_26
def wX12_black (g : GS) (a1 : Int32) (a2 : Int32) (a3 : Int32) (a4 : Int32) (I : MI) (J : MJ) (Q : Int32 → MI → MJ → Prop) : Prop :=
  wX12_isRule g a1 I J (fun r2 I2 J2 => ((r2 = 0 → Q ((-101)) I2 J2) ∧ (¬ r2 = 0 → wX12_isCandidate g a2 I2 J2 (fun r10 I10 J10 => ((r10 = 0 → Q ((-101)) I10 J10) ∧ (¬ r10 = 0 → wX12_isMember g a4 I10 J10 (fun r19 I19 J19 => ((¬ r19 = 0 → wX12_areComers g a3 I19 J19 (fun r30 I30 J30 => ((r30 = 0 → Q ((-102)) I30 J30) ∧ (¬ r30 = 0 → wX12_has g a3 a4 I30 J30 (fun r39 I39 J39 => ((r39 = 0 → Q ((-102)) I39 J39) ∧ (¬ r39 = 0 → wX12_ones g a3 I39 J39 (fun r49 I49 J49 => wX12_blackBy g a1 a2 r49 a4 I49 J49 (fun r54 I54 J54 => Q r54 I54 J54))))))))) ∧ (r19 = 0 → Q ((-101)) I19 J19)))))))))
theorem mbX12_black : MB yX12_black cX12_black 5 ((Option.some FieldType.int)) 4 := ⟨tw1050, tw7, ⟨by decide, by decide⟩, by decide +kernel, by decide +kernel⟩
set_option maxHeartbeats 4000000 in
set_option maxRecDepth 100000 in
theorem kX12_black {l : Launch} {E : WE} {a1 : Int32} {a2 : Int32} {a3 : Int32} {a4 : Int32} {I : MI} {J : MJ} {Q : Int32 → MI → MJ → Prop} (h : wX12_black (wg E) a1 a2 a3 a4 I J Q) : Met l yX12_black (wsM yX12_black cX12_black 5 ((Option.some FieldType.int))) (rmO 2 43) (va_Pc [.ref (wa E 17 0), .int a1, .int a2, .int a3, .int a4] (Wp E I J)) (QI E Q) 0 0 (AA E) := by
  refine m_entry mbX12_black (Nat.le_of_ble_eq_true rfl) ?_
  intro p e s m args below meth c X ls hW hl
  have X : Cx E cX12_black 5 RX12 ((Option.some FieldType.int)) p s m args c meth := X
  have hx := X.1.1
  have hb := X.1.2.1
  have hl : lv_has ls 5 [(0, .ref (wa E 17 0)), (1, .int a1), (2, .int a2), (3, .int a3), (4, .int a4)] := hl
  refine lv_aload_n hx hb dX12_black_0 rfl (lv_at hl 0 rfl) ?_
  refine lv_iload_n hx hb dX12_black_1 rfl (lv_at hl 1 rfl) ?_
  refine af_i hW (rn_V X hW (As := [.int a1]) (rest := []) (okS hW sc17_0) rfl rfl (kX12_isRule h) mbX12_isRule tw987 tw989 tp28 rfl hl.1 (Nat.le_of_ble_eq_true rfl) ⟨(Nat.le_of_ble_eq_true rfl), (Nat.le_of_ble_eq_true rfl)⟩ dX12_black_2) (fun r2 I2 J2 H locs h hW => ?_)
  refine lv_if_eq (tgt := 25) hx hb dX12_black_5 (by decide) (fun c5 => ?_) (fun c5 => ?_)
  · have h := h.1 c5
    refine lv_bipush (v := (-101)) hx hb dX12_black_25 (by decide) ?_
    exact e_i X hW h dX12_black_27
  · have h := h.2 c5
    refine lv_aload_n hx hb dX12_black_8 rfl (lv_at hl 0 rfl) ?_
    refine lv_iload_n hx hb dX12_black_9 rfl (lv_at hl 2 rfl) ?_
    refine af_i hW (rn_V X hW (As := [.int a2]) (rest := []) (okS hW sc17_0) rfl rfl (kX12_isCandidate h) mbX12_isCandidate tw1027 tw1029 tp32 rfl hl.1 (Nat.le_of_ble_eq_true rfl) ⟨(Nat.le_of_ble_eq_true rfl), (Nat.le_of_ble_eq_true rfl)⟩ dX12_black_10) (fun r10 I10 J10 H locs h hW => ?_)
    refine lv_if_eq (tgt := 25) hx hb dX12_black_13 (by decide) (fun c13 => ?_) (fun c13 => ?_)
    · have h := h.1 c13
      refine lv_bipush (v := (-101)) hx hb dX12_black_25 (by decide) ?_
      exact e_i X hW h dX12_black_27
    · have h := h.2 c13
      refine lv_aload_n hx hb dX12_black_16 rfl (lv_at hl 0 rfl) ?_
      refine lv_iload hx hb dX12_black_17 (lv_at hl 4 rfl) ?_
      refine af_i hW (rn_V X hW (As := [.int a4]) (rest := []) (okS hW sc17_0) rfl rfl (kX12_isMember h) mbX12_isMember tw999 tw1001 tp30 rfl hl.1 (Nat.le_of_ble_eq_true rfl) ⟨(Nat.le_of_ble_eq_true rfl), (Nat.le_of_ble_eq_true rfl)⟩ dX12_black_19) (fun r19 I19 J19 H locs h hW => ?_)
      refine lv_if_ne (tgt := 28) hx hb dX12_black_22 (by decide) (fun c22 => ?_) (fun c22 => ?_)
      · have h := h.1 c22
        refine lv_aload_n hx hb dX12_black_28 rfl (lv_at hl 0 rfl) ?_
        refine lv_iload_n hx hb dX12_black_29 rfl (lv_at hl 3 rfl) ?_
        refine af_i hW (rn_V X hW (As := [.int a3]) (rest := []) (okS hW sc17_0) rfl rfl (kX12_areComers h) mbX12_areComers tw1051 tw1053 tp36 rfl hl.1 (Nat.le_of_ble_eq_true rfl) ⟨(Nat.le_of_ble_eq_true rfl), (Nat.le_of_ble_eq_true rfl)⟩ dX12_black_30) (fun r30 I30 J30 H locs h hW => ?_)
        refine lv_if_eq (tgt := 60) hx hb dX12_black_33 (by decide) (fun c33 => ?_) (fun c33 => ?_)
        · have h := h.1 c33
          refine lv_bipush (v := (-102)) hx hb dX12_black_60 (by decide) ?_
          exact e_i X hW h dX12_black_62
        · have h := h.2 c33
          refine lv_iload_n hx hb dX12_black_36 rfl (lv_at hl 3 rfl) ?_
          refine lv_iload hx hb dX12_black_37 (lv_at hl 4 rfl) ?_
          refine af_i hW (rn_S X hW (As := [.int a3, .int a4]) (rest := []) (kX12_has h) mbX12_has tw1055 tw1056 rfl hl.1 (Nat.le_of_ble_eq_true rfl) ⟨(Nat.le_of_ble_eq_true rfl), (Nat.le_of_ble_eq_true rfl)⟩ dX12_black_39) (fun r39 I39 J39 H locs h hW => ?_)
          refine lv_if_eq (tgt := 60) hx hb dX12_black_42 (by decide) (fun c42 => ?_) (fun c42 => ?_)
          · have h := h.1 c42
            refine lv_bipush (v := (-102)) hx hb dX12_black_60 (by decide) ?_
            exact e_i X hW h dX12_black_62
          · have h := h.2 c42
            refine lv_aload_n hx hb dX12_black_45 rfl (lv_at hl 0 rfl) ?_
            refine lv_iload_n hx hb dX12_black_46 rfl (lv_at hl 1 rfl) ?_
            refine lv_iload_n hx hb dX12_black_47 rfl (lv_at hl 2 rfl) ?_
            refine lv_iload_n hx hb dX12_black_48 rfl (lv_at hl 3 rfl) ?_
            refine af_i hW (rn_S X hW (As := [.int a3]) (rest := [.int a2, .int a1, .ref (wa E 17 0)]) (kX12_ones h) mbX12_ones tw1058 tw1059 rfl hl.1 (Nat.le_of_ble_eq_true rfl) ⟨(Nat.le_of_ble_eq_true rfl), (Nat.le_of_ble_eq_true rfl)⟩ dX12_black_49) (fun r49 I49 J49 H locs h hW => ?_)
            refine lv_iload hx hb dX12_black_52 (lv_at hl 4 rfl) ?_
            refine af_i hW (rn_V X hW (As := [.int a1, .int a2, .int r49, .int a4]) (rest := []) (okS hW sc17_0) rfl rfl (kX12_blackBy h) mbX12_blackBy tw1061 tw1063 tp37 rfl hl.1 (Nat.le_of_ble_eq_true rfl) ⟨(Nat.le_of_ble_eq_true rfl), (Nat.le_of_ble_eq_true rfl)⟩ dX12_black_54) (fun r54 I54 J54 H locs h hW => ?_)
            refine lv_goto (tgt := 62) hx hb dX12_black_57 (by decide) ?_
            exact e_i X hW h dX12_black_62
      · have h := h.2 c22
        refine lv_bipush (v := (-101)) hx hb dX12_black_25 (by decide) ?_
        exact e_i X hW h dX12_black_27
def wX12_layWays_b26 (g : GS) (ko3 : Int32 → Int32 → Int32 → Int32 → Int32 → Int32 → MI → MJ → Prop) (Q : MI → MJ → Prop) (v1 : Int32) (v2 : Int32) (v3 : Int32) (v4 : Int32) (v5 : Int32) (v6 : Int32) (t0 : Int64) (t1 : Int32) (I : MI) (J : MJ) : Prop :=
  vp_in t1 9 ∧ (ko3 v1 v2 v3 v4 v5 (v6 + 1) I (u3 J 31 0 (vp_updL (J 31 0) (Int32.toNatClampNeg t1) t0)))
set_option maxHeartbeats 4000000 in
set_option maxRecDepth 100000 in
theorem bX12_layWays_26 {p : Program} {l : Launch} {e : Env} {s : State} {m : MethodId} {args : Array Value} {below : List Frame} {meth : Method} {c : Code} {E : WE} {Q : MI → MJ → Prop} {ko3 : Int32 → Int32 → Int32 → Int32 → Int32 → Int32 → MI → MJ → Prop} (X : Cx E cX12_layWays 9 RX12 ((Option.none : Option FieldType)) p s m args c meth)
    (hk3 : ∀ (v1 : Int32) (v2 : Int32) (v3 : Int32) (v4 : Int32) (v5 : Int32) (v6 : Int32) (I : MI) (J : MJ) (H : Heap) (locs : List Loc) (ls : Array Slot), ko3 v1 v2 v3 v4 v5 v6 I J → Wd E I J s H locs → lv_has ls 9 [(0, .ref (wa E 17 0)), (1, .int v1), (2, .int v2), (3, .int v3), (4, .int v4), (5, .int v5), (6, .int v6)] → W p l e (rmO 1 25) s m args below meth c H locs 0 0 (MQ below (QV E Q) args s 0 0 (AA E)) (F0 m 3 ls [])) : ∀ (v1 : Int32) (v2 : Int32) (v3 : Int32) (v4 : Int32) (v5 : Int32) (v6 : Int32) (t0 : Int64) (t1 : Int32) (I : MI) (J : MJ) (H : Heap) (locs : List Loc) (ls : Array Slot), wX12_layWays_b26 (wg E) ko3 Q v1 v2 v3 v4 v5 v6 t0 t1 I J → Wd E I J s H locs → lv_has ls 9 [(0, .ref (wa E 17 0)), (1, .int v1), (2, .int v2), (3, .int v3), (4, .int v4), (5, .int v5), (6, .int v6)] → W p l e (rmO 1 25) s m args below meth c H locs 0 0 (MQ below (QV E Q) args s 0 0 (AA E)) (F0 m 26 ls [.long t0, .int t1, .ref (wa E 31 0)]) := by
  have hx := X.1.1
  have hb := X.1.2.1
  intro v1 v2 v3 v4 v5 v6 t0 t1 I J H locs ls h hW hl
  refine r_last X hW (okS hW sc31_0) (fun _ => rfl) h.1 dX12_layWays_26 (fun H locs hW => ?_)
  have h := h.2
  refine lv_iinc (v := v6 + 1) (lv' := [(6, .int (v6 + 1)), (0, .ref (wa E 17 0)), (1, .int v1), (2, .int v2), (3, .int v3), (4, .int v4), (5, .int v5)]) hx hb dX12_layWays_27 hl (k := 6) rfl rfl (by decide) rfl (fun ls hl => ?_)
  refine lv_goto (tgt := 3) hx hb dX12_layWays_30 (by decide) ?_
  exact hk3 v1 v2 v3 v4 v5 (v6 + 1) _ _ _ _ _  h hW (lv_sub hl [1, 2, 3, 4, 5, 6, 0] rfl)
def wX12_layWays_b124 (g : GS) (ko36 : Int32 → Int32 → Int32 → Int32 → Int32 → Int32 → MI → MJ → Prop) (ko77 : Int32 → Int32 → Int32 → Int32 → Int32 → Int32 → Int32 → Int32 → MI → MJ → Prop) (Q : MI → MJ → Prop) (v1 : Int32) (v2 : Int32) (v3 : Int32) (v4 : Int32) (v5 : Int32) (v6 : Int32) (v7 : Int32) (v8 : Int32) (t0 : Int64) (t1 : Int64) (t2 : Int32) (I : MI) (J : MJ) : Prop :=
  vp_in t2 9 ∧ (ko77 v1 v2 v3 v4 v5 v6 v7 (v8 + (-1)) I (u3 J 31 0 (vp_updL (J 31 0) (Int32.toNatClampNeg t2) (t1 + t0))))
set_option maxHeartbeats 4000000 in
set_option maxRecDepth 100000 in
theorem bX12_layWays_124 {p : Program} {l : Launch} {e : Env} {s : State} {m : MethodId} {args : Array Value} {below : List Frame} {meth : Method} {c : Code} {E : WE} {Q : MI → MJ → Prop} {ko36 : Int32 → Int32 → Int32 → Int32 → Int32 → Int32 → MI → MJ → Prop} {ko77 : Int32 → Int32 → Int32 → Int32 → Int32 → Int32 → Int32 → Int32 → MI → MJ → Prop} (X : Cx E cX12_layWays 9 RX12 ((Option.none : Option FieldType)) p s m args c meth)
    (hk36 : ∀ (v1 : Int32) (v2 : Int32) (v3 : Int32) (v4 : Int32) (v5 : Int32) (v6 : Int32) (I : MI) (J : MJ) (H : Heap) (locs : List Loc) (ls : Array Slot), ko36 v1 v2 v3 v4 v5 v6 I J → Wd E I J s H locs → lv_has ls 9 [(0, .ref (wa E 17 0)), (1, .int v1), (2, .int v2), (3, .int v3), (4, .int v4), (5, .int v5), (6, .int v6)] → W p l e (rmO 1 25) s m args below meth c H locs 0 0 (MQ below (QV E Q) args s 0 0 (AA E)) (F0 m 36 ls []))
    (hk77 : ∀ (v1 : Int32) (v2 : Int32) (v3 : Int32) (v4 : Int32) (v5 : Int32) (v6 : Int32) (v7 : Int32) (v8 : Int32) (I : MI) (J : MJ) (H : Heap) (locs : List Loc) (ls : Array Slot), ko77 v1 v2 v3 v4 v5 v6 v7 v8 I J → Wd E I J s H locs → lv_has ls 9 [(0, .ref (wa E 17 0)), (1, .int v1), (2, .int v2), (3, .int v3), (4, .int v4), (5, .int v5), (6, .int v6), (7, .int v7), (8, .int v8)] → W p l e (rmO 1 25) s m args below meth c H locs 0 0 (MQ below (QV E Q) args s 0 0 (AA E)) (F0 m 77 ls [])) : ∀ (v1 : Int32) (v2 : Int32) (v3 : Int32) (v4 : Int32) (v5 : Int32) (v6 : Int32) (v7 : Int32) (v8 : Int32) (t0 : Int64) (t1 : Int64) (t2 : Int32) (I : MI) (J : MJ) (H : Heap) (locs : List Loc) (ls : Array Slot), wX12_layWays_b124 (wg E) ko36 ko77 Q v1 v2 v3 v4 v5 v6 v7 v8 t0 t1 t2 I J → Wd E I J s H locs → lv_has ls 9 [(0, .ref (wa E 17 0)), (1, .int v1), (2, .int v2), (3, .int v3), (4, .int v4), (5, .int v5), (6, .int v6), (7, .int v7), (8, .int v8)] → W p l e (rmO 1 25) s m args below meth c H locs 0 0 (MQ below (QV E Q) args s 0 0 (AA E)) (F0 m 124 ls [.long t0, .long t1, .int t2, .ref (wa E 31 0)]) := by
  have hx := X.1.1
  have hb := X.1.2.1
  intro v1 v2 v3 v4 v5 v6 v7 v8 t0 t1 t2 I J H locs ls h hW hl
  refine lv_ladd hx hb dX12_layWays_124 ?_
  refine r_last X hW (okS hW sc31_0) (fun _ => rfl) h.1 dX12_layWays_125 (fun H locs hW => ?_)
  have h := h.2
  refine lv_iinc (v := v8 + (-1)) (lv' := [(8, .int (v8 + (-1))), (0, .ref (wa E 17 0)), (1, .int v1), (2, .int v2), (3, .int v3), (4, .int v4), (5, .int v5), (6, .int v6), (7, .int v7)]) hx hb dX12_layWays_126 hl (k := 8) rfl rfl (by decide) rfl (fun ls hl => ?_)
  refine lv_goto (tgt := 77) hx hb dX12_layWays_129 (by decide) ?_
  exact hk77 v1 v2 v3 v4 v5 v6 v7 (v8 + (-1)) _ _ _ _ _  h hW (lv_sub hl [1, 2, 3, 4, 5, 6, 7, 8, 0] rfl)
def wX12_layWays_b132 (g : GS) (ko36 : Int32 → Int32 → Int32 → Int32 → Int32 → Int32 → MI → MJ → Prop) (Q : MI → MJ → Prop) (v1 : Int32) (v2 : Int32) (v3 : Int32) (v4 : Int32) (v5 : Int32) (v6 : Int32) (I : MI) (J : MJ) : Prop :=
  ko36 v1 v2 v3 v4 v5 (v6 + 1) I J
set_option maxHeartbeats 4000000 in
set_option maxRecDepth 100000 in
theorem bX12_layWays_132 {p : Program} {l : Launch} {e : Env} {s : State} {m : MethodId} {args : Array Value} {below : List Frame} {meth : Method} {c : Code} {E : WE} {Q : MI → MJ → Prop} {ko36 : Int32 → Int32 → Int32 → Int32 → Int32 → Int32 → MI → MJ → Prop} (X : Cx E cX12_layWays 9 RX12 ((Option.none : Option FieldType)) p s m args c meth)
    (hk36 : ∀ (v1 : Int32) (v2 : Int32) (v3 : Int32) (v4 : Int32) (v5 : Int32) (v6 : Int32) (I : MI) (J : MJ) (H : Heap) (locs : List Loc) (ls : Array Slot), ko36 v1 v2 v3 v4 v5 v6 I J → Wd E I J s H locs → lv_has ls 9 [(0, .ref (wa E 17 0)), (1, .int v1), (2, .int v2), (3, .int v3), (4, .int v4), (5, .int v5), (6, .int v6)] → W p l e (rmO 1 25) s m args below meth c H locs 0 0 (MQ below (QV E Q) args s 0 0 (AA E)) (F0 m 36 ls [])) : ∀ (v1 : Int32) (v2 : Int32) (v3 : Int32) (v4 : Int32) (v5 : Int32) (v6 : Int32) (I : MI) (J : MJ) (H : Heap) (locs : List Loc) (ls : Array Slot), wX12_layWays_b132 (wg E) ko36 Q v1 v2 v3 v4 v5 v6 I J → Wd E I J s H locs → lv_has ls 9 [(0, .ref (wa E 17 0)), (1, .int v1), (2, .int v2), (3, .int v3), (4, .int v4), (5, .int v5), (6, .int v6)] → W p l e (rmO 1 25) s m args below meth c H locs 0 0 (MQ below (QV E Q) args s 0 0 (AA E)) (F0 m 132 ls []) := by
  have hx := X.1.1
  have hb := X.1.2.1
  intro v1 v2 v3 v4 v5 v6 I J H locs ls h hW hl
  refine lv_iinc (v := v6 + 1) (lv' := [(6, .int (v6 + 1)), (0, .ref (wa E 17 0)), (1, .int v1), (2, .int v2), (3, .int v3), (4, .int v4), (5, .int v5)]) hx hb dX12_layWays_132 hl (k := 6) rfl rfl (by decide) rfl (fun ls hl => ?_)
  refine lv_goto (tgt := 36) hx hb dX12_layWays_135 (by decide) ?_
  exact hk36 v1 v2 v3 v4 v5 (v6 + 1) _ _ _ _ _  h hW (lv_sub hl [1, 2, 3, 4, 5, 6, 0] rfl)
def wX12_layWays_b77 (g : GS) (ko36 : Int32 → Int32 → Int32 → Int32 → Int32 → Int32 → MI → MJ → Prop) (Q : MI → MJ → Prop) : Nat → Int32 → Int32 → Int32 → Int32 → Int32 → Int32 → Int32 → Int32 → MI → MJ → Prop
  | 0, _, _, _, _, _, _, _, _, _, _ => False
  | n + 1, v1, v2, v3, v4, v5, v6, v7, v8, I, J => ((v8 < 0 → wX12_layWays_b132 g ko36 Q v1 v2 v3 v4 v5 v6 I J) ∧ (¬ v8 < 0 → vp_in v8 9 ∧ (((¬ v8 = 0 → vp_in (v8 - 1) 9 ∧ (wX12_layWays_b124 g ko36 (fun v1 v2 v3 v4 v5 v6 v7 v8 I J => wX12_layWays_b77 g ko36 Q n v1 v2 v3 v4 v5 v6 v7 v8 I J) Q v1 v2 v3 v4 v5 v6 v7 v8 ((J 31 0 (Int32.toNatClampNeg (v8 - 1))) * (Int32.toInt64 v7)) ((J 31 0 (Int32.toNatClampNeg v8)) * (Int32.toInt64 (10 - v7))) v8 I J)) ∧ (v8 = 0 → wX12_layWays_b124 g ko36 (fun v1 v2 v3 v4 v5 v6 v7 v8 I J => wX12_layWays_b77 g ko36 Q n v1 v2 v3 v4 v5 v6 v7 v8 I J) Q v1 v2 v3 v4 v5 v6 v7 v8 0 ((J 31 0 (Int32.toNatClampNeg v8)) * (Int32.toInt64 (10 - v7))) v8 I J)))))
set_option maxHeartbeats 4000000 in
set_option maxRecDepth 100000 in
theorem bX12_layWays_77 {p : Program} {l : Launch} {e : Env} {s : State} {m : MethodId} {args : Array Value} {below : List Frame} {meth : Method} {c : Code} {E : WE} {Q : MI → MJ → Prop} {ko36 : Int32 → Int32 → Int32 → Int32 → Int32 → Int32 → MI → MJ → Prop} (X : Cx E cX12_layWays 9 RX12 ((Option.none : Option FieldType)) p s m args c meth)
    (hk36 : ∀ (v1 : Int32) (v2 : Int32) (v3 : Int32) (v4 : Int32) (v5 : Int32) (v6 : Int32) (I : MI) (J : MJ) (H : Heap) (locs : List Loc) (ls : Array Slot), ko36 v1 v2 v3 v4 v5 v6 I J → Wd E I J s H locs → lv_has ls 9 [(0, .ref (wa E 17 0)), (1, .int v1), (2, .int v2), (3, .int v3), (4, .int v4), (5, .int v5), (6, .int v6)] → W p l e (rmO 1 25) s m args below meth c H locs 0 0 (MQ below (QV E Q) args s 0 0 (AA E)) (F0 m 36 ls [])) (n : Nat) : ∀ (v1 : Int32) (v2 : Int32) (v3 : Int32) (v4 : Int32) (v5 : Int32) (v6 : Int32) (v7 : Int32) (v8 : Int32) (I : MI) (J : MJ) (H : Heap) (locs : List Loc) (ls : Array Slot), wX12_layWays_b77 (wg E) ko36 Q n v1 v2 v3 v4 v5 v6 v7 v8 I J → Wd E I J s H locs → lv_has ls 9 [(0, .ref (wa E 17 0)), (1, .int v1), (2, .int v2), (3, .int v3), (4, .int v4), (5, .int v5), (6, .int v6), (7, .int v7), (8, .int v8)] → W p l e (rmO 1 25) s m args below meth c H locs 0 0 (MQ below (QV E Q) args s 0 0 (AA E)) (F0 m 77 ls []) := by
  have hx := X.1.1
  have hb := X.1.2.1
  induction n with
  | zero => intro v1 v2 v3 v4 v5 v6 v7 v8 I J H locs ls h hW hl; exact h.elim
  | succ n ih =>
    intro v1 v2 v3 v4 v5 v6 v7 v8 I J H locs ls h hW hl
    refine lv_iload hx hb dX12_layWays_77 (lv_at hl 8 rfl) ?_
    refine lv_if_lt (tgt := 132) hx hb dX12_layWays_79 (by decide) (fun c79 => ?_) (fun c79 => ?_)
    · have h := h.1 c79
      exact bX12_layWays_132 X hk36 v1 v2 v3 v4 v5 v6 _ _ _ _ _  h hW (lv_sub hl [0, 1, 2, 3, 4, 5, 6] rfl)
    · have h := h.2 c79
      refine lv_aload_n hx hb dX12_layWays_82 rfl (lv_at hl 0 rfl) ?_
      refine r_get X hW 27 (okS hW sc17_0) rfl rfl inX12 (Nat.le_of_ble_eq_true rfl) tw861 rfl dX12_layWays_83 ?_
      refine lv_iload hx hb dX12_layWays_86 (lv_at hl 8 rfl) ?_
      refine lv_aload_n hx hb dX12_layWays_88 rfl (lv_at hl 0 rfl) ?_
      refine r_get X hW 27 (okS hW sc17_0) rfl rfl inX12 (Nat.le_of_ble_eq_true rfl) tw861 rfl dX12_layWays_89 ?_
      refine lv_iload hx hb dX12_layWays_92 (lv_at hl 8 rfl) ?_
      refine r_lald X hW (okS hW sc31_0) rfl h.1 dX12_layWays_94 ?_
      have h := h.2
      refine lv_bipush (v := 10) hx hb dX12_layWays_95 (by decide) ?_
      refine lv_iload hx hb dX12_layWays_97 (lv_at hl 7 rfl) ?_
      refine lv_isub hx hb dX12_layWays_99 ?_
      refine lv_i2l hx hb dX12_layWays_100 rfl ?_
      refine lv_lmul hx hb dX12_layWays_101 ?_
      refine lv_iload hx hb dX12_layWays_102 (lv_at hl 8 rfl) ?_
      refine lv_if_ne (tgt := 111) hx hb dX12_layWays_104 (by decide) (fun c104 => ?_) (fun c104 => ?_)
      · have h := h.1 c104
        refine lv_aload_n hx hb dX12_layWays_111 rfl (lv_at hl 0 rfl) ?_
        refine r_get X hW 27 (okS hW sc17_0) rfl rfl inX12 (Nat.le_of_ble_eq_true rfl) tw861 rfl dX12_layWays_112 ?_
        refine lv_iload hx hb dX12_layWays_115 (lv_at hl 8 rfl) ?_
        refine lv_iconst (v := 1) hx hb dX12_layWays_117 (by decide) ?_
        refine lv_isub hx hb dX12_layWays_118 ?_
        refine r_lald X hW (okS hW sc31_0) rfl h.1 dX12_layWays_119 ?_
        have h := h.2
        refine lv_iload hx hb dX12_layWays_120 (lv_at hl 7 rfl) ?_
        refine lv_i2l hx hb dX12_layWays_122 rfl ?_
        refine lv_lmul hx hb dX12_layWays_123 ?_
        exact bX12_layWays_124 X hk36 ih v1 v2 v3 v4 v5 v6 v7 v8 ((J 31 0 (Int32.toNatClampNeg (v8 - 1))) * (Int32.toInt64 v7)) ((J 31 0 (Int32.toNatClampNeg v8)) * (Int32.toInt64 (10 - v7))) v8 _ _ _ _ _  h hW (lv_sub hl [0, 1, 2, 3, 4, 5, 6, 7, 8] rfl)
      · have h := h.2 c104
        refine lv_lconst (v := 0) hx hb dX12_layWays_107 (by decide) ?_
        refine lv_goto (tgt := 124) hx hb dX12_layWays_108 (by decide) ?_
        exact bX12_layWays_124 X hk36 ih v1 v2 v3 v4 v5 v6 v7 v8 0 ((J 31 0 (Int32.toNatClampNeg v8)) * (Int32.toInt64 (10 - v7))) v8 _ _ _ _ _  h hW (lv_sub hl [0, 1, 2, 3, 4, 5, 6, 7, 8] rfl)
def wX12_layWays_b36 (g : GS) (Q : MI → MJ → Prop) : Nat → Int32 → Int32 → Int32 → Int32 → Int32 → Int32 → MI → MJ → Prop
  | 0, _, _, _, _, _, _, _, _ => False
  | n + 1, v1, v2, v3, v4, v5, v6, I, J => (((I 17 0 0) ≤ v6 → Q I J) ∧ (¬ (I 17 0 0) ≤ v6 → wX12_has g v3 v6 I J (fun r48 I48 J48 => ((r48 = 0 → wX12_layWays_b132 g (fun v1 v2 v3 v4 v5 v6 I J => wX12_layWays_b36 g Q n v1 v2 v3 v4 v5 v6 I J) Q v1 v2 v3 v4 v5 v6 I48 J48) ∧ (¬ r48 = 0 → ((v6 = v5 → wX12_layWays_b132 g (fun v1 v2 v3 v4 v5 v6 I J => wX12_layWays_b36 g Q n v1 v2 v3 v4 v5 v6 I J) Q v1 v2 v3 v4 v5 v6 I48 J48) ∧ (¬ v6 = v5 → wX12_blackBy g v1 v2 v4 v6 I48 J48 (fun r68 I68 J68 => ∃ n77, wX12_layWays_b77 g (fun v1 v2 v3 v4 v5 v6 I J => wX12_layWays_b36 g Q n v1 v2 v3 v4 v5 v6 I J) Q n77 v1 v2 v3 v4 v5 v6 r68 8 I68 J68))))))))
set_option maxHeartbeats 4000000 in
set_option maxRecDepth 100000 in
theorem bX12_layWays_36 {p : Program} {l : Launch} {e : Env} {s : State} {m : MethodId} {args : Array Value} {below : List Frame} {meth : Method} {c : Code} {E : WE} {Q : MI → MJ → Prop} (X : Cx E cX12_layWays 9 RX12 ((Option.none : Option FieldType)) p s m args c meth) (n : Nat) : ∀ (v1 : Int32) (v2 : Int32) (v3 : Int32) (v4 : Int32) (v5 : Int32) (v6 : Int32) (I : MI) (J : MJ) (H : Heap) (locs : List Loc) (ls : Array Slot), wX12_layWays_b36 (wg E) Q n v1 v2 v3 v4 v5 v6 I J → Wd E I J s H locs → lv_has ls 9 [(0, .ref (wa E 17 0)), (1, .int v1), (2, .int v2), (3, .int v3), (4, .int v4), (5, .int v5), (6, .int v6)] → W p l e (rmO 1 25) s m args below meth c H locs 0 0 (MQ below (QV E Q) args s 0 0 (AA E)) (F0 m 36 ls []) := by
  have hx := X.1.1
  have hb := X.1.2.1
  induction n with
  | zero => intro v1 v2 v3 v4 v5 v6 I J H locs ls h hW hl; exact h.elim
  | succ n ih =>
    intro v1 v2 v3 v4 v5 v6 I J H locs ls h hW hl
    refine lv_iload hx hb dX12_layWays_36 (lv_at hl 6 rfl) ?_
    refine lv_aload_n hx hb dX12_layWays_38 rfl (lv_at hl 0 rfl) ?_
    refine r_get X hW 0 (okS hW sc17_0) rfl rfl inX12 (Nat.le_of_ble_eq_true rfl) tw834 rfl dX12_layWays_39 ?_
    refine lv_icmp_ge (tgt := 138) hx hb dX12_layWays_42 (by decide) (fun c42 => ?_) (fun c42 => ?_)
    · have h := h.1 c42
      exact e_v X hW h dX12_layWays_138
    · have h := h.2 c42
      refine lv_iload_n hx hb dX12_layWays_45 rfl (lv_at hl 3 rfl) ?_
      refine lv_iload hx hb dX12_layWays_46 (lv_at hl 6 rfl) ?_
      refine af_i hW (rn_S X hW (As := [.int v3, .int v6]) (rest := []) (kX12_has h) mbX12_has tw1055 tw1056 rfl hl.1 (Nat.le_of_ble_eq_true rfl) ⟨(Nat.le_of_ble_eq_true rfl), (Nat.le_of_ble_eq_true rfl)⟩ dX12_layWays_48) (fun r48 I48 J48 H locs h hW => ?_)
      refine lv_if_eq (tgt := 132) hx hb dX12_layWays_51 (by decide) (fun c51 => ?_) (fun c51 => ?_)
      · have h := h.1 c51
        exact bX12_layWays_132 X ih v1 v2 v3 v4 v5 v6 _ _ _ _ _  h hW (lv_sub hl [0, 1, 2, 3, 4, 5, 6] rfl)
      · have h := h.2 c51
        refine lv_iload hx hb dX12_layWays_54 (lv_at hl 6 rfl) ?_
        refine lv_iload hx hb dX12_layWays_56 (lv_at hl 5 rfl) ?_
        refine lv_icmp_eq (tgt := 132) hx hb dX12_layWays_58 (by decide) (fun c58 => ?_) (fun c58 => ?_)
        · have h := h.1 c58
          exact bX12_layWays_132 X ih v1 v2 v3 v4 v5 v6 _ _ _ _ _  h hW (lv_sub hl [0, 1, 2, 3, 4, 5, 6] rfl)
        · have h := h.2 c58
          refine lv_aload_n hx hb dX12_layWays_61 rfl (lv_at hl 0 rfl) ?_
          refine lv_iload_n hx hb dX12_layWays_62 rfl (lv_at hl 1 rfl) ?_
          refine lv_iload_n hx hb dX12_layWays_63 rfl (lv_at hl 2 rfl) ?_
          refine lv_iload hx hb dX12_layWays_64 (lv_at hl 4 rfl) ?_
          refine lv_iload hx hb dX12_layWays_66 (lv_at hl 6 rfl) ?_
          refine af_i hW (rn_V X hW (As := [.int v1, .int v2, .int v4, .int v6]) (rest := []) (okS hW sc17_0) rfl rfl (kX12_blackBy h) mbX12_blackBy tw1061 tw1063 tp37 rfl hl.1 (Nat.le_of_ble_eq_true rfl) ⟨(Nat.le_of_ble_eq_true rfl), (Nat.le_of_ble_eq_true rfl)⟩ dX12_layWays_68) (fun r68 I68 J68 H locs h hW => ?_)
          refine lv_istore (lv' := [(7, .int r68), (0, .ref (wa E 17 0)), (1, .int v1), (2, .int v2), (3, .int v3), (4, .int v4), (5, .int v5), (6, .int v6)]) hx hb dX12_layWays_71 hl (by decide) rfl (fun ls hl => ?_)
          refine lv_bipush (v := 8) hx hb dX12_layWays_73 (by decide) ?_
          refine lv_istore (lv' := [(8, .int 8), (7, .int r68), (0, .ref (wa E 17 0)), (1, .int v1), (2, .int v2), (3, .int v3), (4, .int v4), (5, .int v5), (6, .int v6)]) hx hb dX12_layWays_75 hl (by decide) rfl (fun ls hl => ?_)
          obtain ⟨n77, h⟩ := h
          exact bX12_layWays_77 X ih n77 v1 v2 v3 v4 v5 v6 r68 8 _ _ _ _ _  h hW (lv_sub hl [2, 3, 4, 5, 6, 7, 8, 1, 0] rfl)
def wX12_layWays_b3 (g : GS) (Q : MI → MJ → Prop) : Nat → Int32 → Int32 → Int32 → Int32 → Int32 → Int32 → MI → MJ → Prop
  | 0, _, _, _, _, _, _, _, _ => False
  | n + 1, v1, v2, v3, v4, v5, v6, I, J => ((9 ≤ v6 → ∃ n36, wX12_layWays_b36 g Q n36 v1 v2 v3 v4 v5 0 I J) ∧ (¬ 9 ≤ v6 → ((¬ v6 = 0 → wX12_layWays_b26 g (fun v1 v2 v3 v4 v5 v6 I J => wX12_layWays_b3 g Q n v1 v2 v3 v4 v5 v6 I J) Q v1 v2 v3 v4 v5 v6 0 v6 I J) ∧ (v6 = 0 → wX12_layWays_b26 g (fun v1 v2 v3 v4 v5 v6 I J => wX12_layWays_b3 g Q n v1 v2 v3 v4 v5 v6 I J) Q v1 v2 v3 v4 v5 v6 1 v6 I J))))
set_option maxHeartbeats 4000000 in
set_option maxRecDepth 100000 in
theorem bX12_layWays_3 {p : Program} {l : Launch} {e : Env} {s : State} {m : MethodId} {args : Array Value} {below : List Frame} {meth : Method} {c : Code} {E : WE} {Q : MI → MJ → Prop} (X : Cx E cX12_layWays 9 RX12 ((Option.none : Option FieldType)) p s m args c meth) (n : Nat) : ∀ (v1 : Int32) (v2 : Int32) (v3 : Int32) (v4 : Int32) (v5 : Int32) (v6 : Int32) (I : MI) (J : MJ) (H : Heap) (locs : List Loc) (ls : Array Slot), wX12_layWays_b3 (wg E) Q n v1 v2 v3 v4 v5 v6 I J → Wd E I J s H locs → lv_has ls 9 [(0, .ref (wa E 17 0)), (1, .int v1), (2, .int v2), (3, .int v3), (4, .int v4), (5, .int v5), (6, .int v6)] → W p l e (rmO 1 25) s m args below meth c H locs 0 0 (MQ below (QV E Q) args s 0 0 (AA E)) (F0 m 3 ls []) := by
  have hx := X.1.1
  have hb := X.1.2.1
  induction n with
  | zero => intro v1 v2 v3 v4 v5 v6 I J H locs ls h hW hl; exact h.elim
  | succ n ih =>
    intro v1 v2 v3 v4 v5 v6 I J H locs ls h hW hl
    refine lv_iload hx hb dX12_layWays_3 (lv_at hl 6 rfl) ?_
    refine lv_bipush (v := 9) hx hb dX12_layWays_5 (by decide) ?_
    refine lv_icmp_ge (tgt := 33) hx hb dX12_layWays_7 (by decide) (fun c7 => ?_) (fun c7 => ?_)
    · have h := h.1 c7
      refine lv_iconst (v := 0) hx hb dX12_layWays_33 (by decide) ?_
      refine lv_istore (lv' := [(6, .int 0), (0, .ref (wa E 17 0)), (1, .int v1), (2, .int v2), (3, .int v3), (4, .int v4), (5, .int v5)]) hx hb dX12_layWays_34 hl (by decide) rfl (fun ls hl => ?_)
      obtain ⟨n36, h⟩ := h
      exact bX12_layWays_36 X n36 v1 v2 v3 v4 v5 0 _ _ _ _ _  h hW (lv_sub hl [1, 2, 3, 4, 5, 6, 0] rfl)
    · have h := h.2 c7
      refine lv_aload_n hx hb dX12_layWays_10 rfl (lv_at hl 0 rfl) ?_
      refine r_get X hW 27 (okS hW sc17_0) rfl rfl inX12 (Nat.le_of_ble_eq_true rfl) tw861 rfl dX12_layWays_11 ?_
      refine lv_iload hx hb dX12_layWays_14 (lv_at hl 6 rfl) ?_
      refine lv_iload hx hb dX12_layWays_16 (lv_at hl 6 rfl) ?_
      refine lv_if_ne (tgt := 25) hx hb dX12_layWays_18 (by decide) (fun c18 => ?_) (fun c18 => ?_)
      · have h := h.1 c18
        refine lv_lconst (v := 0) hx hb dX12_layWays_25 (by decide) ?_
        exact bX12_layWays_26 X ih v1 v2 v3 v4 v5 v6 0 v6 _ _ _ _ _  h hW (lv_sub hl [0, 1, 2, 3, 4, 5, 6] rfl)
      · have h := h.2 c18
        refine lv_lconst (v := 1) hx hb dX12_layWays_21 (by decide) ?_
        refine lv_goto (tgt := 26) hx hb dX12_layWays_22 (by decide) ?_
        exact bX12_layWays_26 X ih v1 v2 v3 v4 v5 v6 1 v6 _ _ _ _ _  h hW (lv_sub hl [0, 1, 2, 3, 4, 5, 6] rfl)
def wX12_layWays (g : GS) (a1 : Int32) (a2 : Int32) (a3 : Int32) (a4 : Int32) (a5 : Int32) (I : MI) (J : MJ) (Q : MI → MJ → Prop) : Prop :=
  ∃ n3, wX12_layWays_b3 g Q n3 a1 a2 a3 a4 a5 0 I J
theorem mbX12_layWays : MB yX12_layWays cX12_layWays 9 ((Option.none : Option FieldType)) 5 := ⟨tw1079, tw7, ⟨by decide, by decide⟩, by decide +kernel, by decide +kernel⟩
set_option maxHeartbeats 4000000 in
set_option maxRecDepth 100000 in
theorem kX12_layWays {l : Launch} {E : WE} {a1 : Int32} {a2 : Int32} {a3 : Int32} {a4 : Int32} {a5 : Int32} {I : MI} {J : MJ} {Q : MI → MJ → Prop} (h : wX12_layWays (wg E) a1 a2 a3 a4 a5 I J Q) : Met l yX12_layWays (wsM yX12_layWays cX12_layWays 9 ((Option.none : Option FieldType))) (rmO 1 25) (va_Pc [.ref (wa E 17 0), .int a1, .int a2, .int a3, .int a4, .int a5] (Wp E I J)) (QV E Q) 0 0 (AA E) := by
  refine m_entry mbX12_layWays (Nat.le_of_ble_eq_true rfl) ?_
  intro p e s m args below meth c X ls hW hl
  have X : Cx E cX12_layWays 9 RX12 ((Option.none : Option FieldType)) p s m args c meth := X
  have hx := X.1.1
  have hb := X.1.2.1
  have hl : lv_has ls 9 [(0, .ref (wa E 17 0)), (1, .int a1), (2, .int a2), (3, .int a3), (4, .int a4), (5, .int a5)] := hl
  refine lv_iconst (v := 0) hx hb dX12_layWays_0 (by decide) ?_
  refine lv_istore (lv' := [(6, .int 0), (0, .ref (wa E 17 0)), (1, .int a1), (2, .int a2), (3, .int a3), (4, .int a4), (5, .int a5)]) hx hb dX12_layWays_1 hl (by decide) rfl (fun ls hl => ?_)
  obtain ⟨n3, h⟩ := h
  exact bX12_layWays_3 X n3 a1 a2 a3 a4 a5 0 _ _ _ _ _  h hW (lv_sub hl [1, 2, 3, 4, 5, 6, 0] rfl)
def wX12_shuts (g : GS) (a1 : Int32) (a2 : Int32) (a3 : Int32) (I : MI) (J : MJ) (Q : Int32 → MI → MJ → Prop) : Prop :=
  vp_in a1 6 ∧ ((((I 23 0 (Int32.toNatClampNeg a1)) ≤ 0 → vp_in a1 6 ∧ (((((I 24 0 (Int32.toNatClampNeg a1)) * a2) < a3 → Q 0 I J) ∧ (¬ ((I 24 0 (Int32.toNatClampNeg a1)) * a2) < a3 → Q 1 I J)))) ∧ (¬ (I 23 0 (Int32.toNatClampNeg a1)) ≤ 0 → vp_in a1 6 ∧ (((a2 < (I 23 0 (Int32.toNatClampNeg a1)) → Q 0 I J) ∧ (¬ a2 < (I 23 0 (Int32.toNatClampNeg a1)) → Q 1 I J))))))
theorem mbX12_shuts : MB yX12_shuts cX12_shuts 4 ((Option.some FieldType.boolean)) 3 := ⟨tw1104, tw7, ⟨by decide, by decide⟩, by decide +kernel, by decide +kernel⟩
set_option maxHeartbeats 4000000 in
set_option maxRecDepth 100000 in
theorem kX12_shuts {l : Launch} {E : WE} {a1 : Int32} {a2 : Int32} {a3 : Int32} {I : MI} {J : MJ} {Q : Int32 → MI → MJ → Prop} (h : wX12_shuts (wg E) a1 a2 a3 I J Q) : Met l yX12_shuts (wsM yX12_shuts cX12_shuts 4 ((Option.some FieldType.boolean))) (rmO 0 0) (va_Pc [.ref (wa E 17 0), .int a1, .int a2, .int a3] (Wp E I J)) (QI E Q) 0 0 (AA E) := by
  refine m_entry mbX12_shuts (Nat.le_of_ble_eq_true rfl) ?_
  intro p e s m args below meth c X ls hW hl
  have X : Cx E cX12_shuts 4 RX12 ((Option.some FieldType.boolean)) p s m args c meth := X
  have hx := X.1.1
  have hb := X.1.2.1
  have hl : lv_has ls 4 [(0, .ref (wa E 17 0)), (1, .int a1), (2, .int a2), (3, .int a3)] := hl
  refine lv_aload_n hx hb dX12_shuts_0 rfl (lv_at hl 0 rfl) ?_
  refine r_get X hW 8 (okS hW sc17_0) rfl rfl inX12 (Nat.le_of_ble_eq_true rfl) tw842 rfl dX12_shuts_1 ?_
  refine lv_iload_n hx hb dX12_shuts_4 rfl (lv_at hl 1 rfl) ?_
  refine r_iald X hW (okS hW sc23_0) rfl h.1 dX12_shuts_5 ?_
  have h := h.2
  refine lv_if_le (tgt := 27) hx hb dX12_shuts_6 (by decide) (fun c6 => ?_) (fun c6 => ?_)
  · have h := h.1 c6
    refine lv_aload_n hx hb dX12_shuts_27 rfl (lv_at hl 0 rfl) ?_
    refine r_get X hW 9 (okS hW sc17_0) rfl rfl inX12 (Nat.le_of_ble_eq_true rfl) tw843 rfl dX12_shuts_28 ?_
    refine lv_iload_n hx hb dX12_shuts_31 rfl (lv_at hl 1 rfl) ?_
    refine r_iald X hW (okS hW sc24_0) rfl h.1 dX12_shuts_32 ?_
    have h := h.2
    refine lv_iload_n hx hb dX12_shuts_33 rfl (lv_at hl 2 rfl) ?_
    refine lv_imul hx hb dX12_shuts_34 ?_
    refine lv_iload_n hx hb dX12_shuts_35 rfl (lv_at hl 3 rfl) ?_
    refine lv_icmp_lt (tgt := 43) hx hb dX12_shuts_36 (by decide) (fun c36 => ?_) (fun c36 => ?_)
    · have h := h.1 c36
      refine lv_iconst (v := 0) hx hb dX12_shuts_43 (by decide) ?_
      exact e_z X hW rfl h dX12_shuts_44
    · have h := h.2 c36
      refine lv_iconst (v := 1) hx hb dX12_shuts_39 (by decide) ?_
      refine lv_goto (tgt := 44) hx hb dX12_shuts_40 (by decide) ?_
      exact e_z X hW rfl h dX12_shuts_44
  · have h := h.2 c6
    refine lv_iload_n hx hb dX12_shuts_9 rfl (lv_at hl 2 rfl) ?_
    refine lv_aload_n hx hb dX12_shuts_10 rfl (lv_at hl 0 rfl) ?_
    refine r_get X hW 8 (okS hW sc17_0) rfl rfl inX12 (Nat.le_of_ble_eq_true rfl) tw842 rfl dX12_shuts_11 ?_
    refine lv_iload_n hx hb dX12_shuts_14 rfl (lv_at hl 1 rfl) ?_
    refine r_iald X hW (okS hW sc23_0) rfl h.1 dX12_shuts_15 ?_
    have h := h.2
    refine lv_icmp_lt (tgt := 23) hx hb dX12_shuts_16 (by decide) (fun c16 => ?_) (fun c16 => ?_)
    · have h := h.1 c16
      refine lv_iconst (v := 0) hx hb dX12_shuts_23 (by decide) ?_
      refine lv_goto (tgt := 44) hx hb dX12_shuts_24 (by decide) ?_
      exact e_z X hW rfl h dX12_shuts_44
    · have h := h.2 c16
      refine lv_iconst (v := 1) hx hb dX12_shuts_19 (by decide) ?_
      refine lv_goto (tgt := 44) hx hb dX12_shuts_20 (by decide) ?_
      exact e_z X hW rfl h dX12_shuts_44
def wX12_shutBy_b50 (g : GS) (ko16 : Int32 → Int32 → Int64 → Int32 → MI → MJ → Prop) (Q : Int64 → MI → MJ → Prop) (v1 : Int32) (v3 : Int32) (v7 : Int32) (t0 : Int64) (t1 : Int64) (I : MI) (J : MJ) : Prop :=
  ko16 v1 v3 (t1 + t0) (v7 + 1) I J
set_option maxHeartbeats 4000000 in
set_option maxRecDepth 100000 in
theorem bX12_shutBy_50 {p : Program} {l : Launch} {e : Env} {s : State} {m : MethodId} {args : Array Value} {below : List Frame} {meth : Method} {c : Code} {E : WE} {Q : Int64 → MI → MJ → Prop} {ko16 : Int32 → Int32 → Int64 → Int32 → MI → MJ → Prop} (X : Cx E cX12_shutBy 8 RX12 ((Option.some FieldType.long)) p s m args c meth)
    (hk16 : ∀ (v1 : Int32) (v3 : Int32) (v5 : Int64) (v7 : Int32) (I : MI) (J : MJ) (H : Heap) (locs : List Loc) (ls : Array Slot), ko16 v1 v3 v5 v7 I J → Wd E I J s H locs → lv_has ls 8 [(0, .ref (wa E 17 0)), (1, .int v1), (3, .int v3), (5, .long v5), (7, .int v7)] → W p l e (rmO 2 53) s m args below meth c H locs 0 0 (MQ below (QL E Q) args s 0 0 (AA E)) (F0 m 16 ls [])) : ∀ (v1 : Int32) (v3 : Int32) (v7 : Int32) (t0 : Int64) (t1 : Int64) (I : MI) (J : MJ) (H : Heap) (locs : List Loc) (ls : Array Slot), wX12_shutBy_b50 (wg E) ko16 Q v1 v3 v7 t0 t1 I J → Wd E I J s H locs → lv_has ls 8 [(0, .ref (wa E 17 0)), (1, .int v1), (3, .int v3), (7, .int v7)] → W p l e (rmO 2 53) s m args below meth c H locs 0 0 (MQ below (QL E Q) args s 0 0 (AA E)) (F0 m 50 ls [.long t0, .long t1]) := by
  have hx := X.1.1
  have hb := X.1.2.1
  intro v1 v3 v7 t0 t1 I J H locs ls h hW hl
  refine lv_ladd hx hb dX12_shutBy_50 ?_
  refine lv_lstore (lv' := [(5, .long (t1 + t0)), (0, .ref (wa E 17 0)), (1, .int v1), (3, .int v3), (7, .int v7)]) hx hb dX12_shutBy_51 hl (by decide) rfl (fun ls hl => ?_)
  refine lv_iinc (v := v7 + 1) (lv' := [(7, .int (v7 + 1)), (5, .long (t1 + t0)), (0, .ref (wa E 17 0)), (1, .int v1), (3, .int v3)]) hx hb dX12_shutBy_53 hl (k := 4) rfl rfl (by decide) rfl (fun ls hl => ?_)
  refine lv_goto (tgt := 16) hx hb dX12_shutBy_56 (by decide) ?_
  exact hk16 v1 v3 (t1 + t0) (v7 + 1) _ _ _ _ _  h hW (lv_sub hl [2, 3, 4, 1, 0] rfl)
def wX12_shutBy_b16 (g : GS) (Q : Int64 → MI → MJ → Prop) : Nat → Int32 → Int32 → Int64 → Int32 → MI → MJ → Prop
  | 0, _, _, _, _, _, _ => False
  | n + 1, v1, v3, v5, v7, I, J => ((9 ≤ v7 → Q v5 I J) ∧ (¬ 9 ≤ v7 → wX12_ones g v3 I J (fun r30 I30 J30 => wX12_shuts g v1 v7 r30 I30 J30 (fun r33 I33 J33 => ((r33 = 0 → wX12_shutBy_b50 g (fun v1 v3 v5 v7 I J => wX12_shutBy_b16 g Q n v1 v3 v5 v7 I J) Q v1 v3 v7 0 v5 I33 J33) ∧ (¬ r33 = 0 → vp_in v7 9 ∧ (wX12_shutBy_b50 g (fun v1 v3 v5 v7 I J => wX12_shutBy_b16 g Q n v1 v3 v5 v7 I J) Q v1 v3 v7 (J33 31 0 (Int32.toNatClampNeg v7)) v5 I33 J33)))))))
set_option maxHeartbeats 4000000 in
set_option maxRecDepth 100000 in
theorem bX12_shutBy_16 {p : Program} {l : Launch} {e : Env} {s : State} {m : MethodId} {args : Array Value} {below : List Frame} {meth : Method} {c : Code} {E : WE} {Q : Int64 → MI → MJ → Prop} (X : Cx E cX12_shutBy 8 RX12 ((Option.some FieldType.long)) p s m args c meth) (n : Nat) : ∀ (v1 : Int32) (v3 : Int32) (v5 : Int64) (v7 : Int32) (I : MI) (J : MJ) (H : Heap) (locs : List Loc) (ls : Array Slot), wX12_shutBy_b16 (wg E) Q n v1 v3 v5 v7 I J → Wd E I J s H locs → lv_has ls 8 [(0, .ref (wa E 17 0)), (1, .int v1), (3, .int v3), (5, .long v5), (7, .int v7)] → W p l e (rmO 2 53) s m args below meth c H locs 0 0 (MQ below (QL E Q) args s 0 0 (AA E)) (F0 m 16 ls []) := by
  have hx := X.1.1
  have hb := X.1.2.1
  induction n with
  | zero => intro v1 v3 v5 v7 I J H locs ls h hW hl; exact h.elim
  | succ n ih =>
    intro v1 v3 v5 v7 I J H locs ls h hW hl
    refine lv_iload hx hb dX12_shutBy_16 (lv_at hl 4 rfl) ?_
    refine lv_bipush (v := 9) hx hb dX12_shutBy_18 (by decide) ?_
    refine lv_icmp_ge (tgt := 59) hx hb dX12_shutBy_20 (by decide) (fun c20 => ?_) (fun c20 => ?_)
    · have h := h.1 c20
      refine lv_lload hx hb dX12_shutBy_59 (lv_at hl 3 rfl) ?_
      exact e_l X hW h dX12_shutBy_61
    · have h := h.2 c20
      refine lv_lload hx hb dX12_shutBy_23 (lv_at hl 3 rfl) ?_
      refine lv_aload_n hx hb dX12_shutBy_25 rfl (lv_at hl 0 rfl) ?_
      refine lv_iload_n hx hb dX12_shutBy_26 rfl (lv_at hl 1 rfl) ?_
      refine lv_iload hx hb dX12_shutBy_27 (lv_at hl 4 rfl) ?_
      refine lv_iload_n hx hb dX12_shutBy_29 rfl (lv_at hl 2 rfl) ?_
      refine af_i hW (rn_S X hW (As := [.int v3]) (rest := [.int v7, .int v1, .ref (wa E 17 0), .long v5]) (kX12_ones h) mbX12_ones tw1058 tw1059 rfl hl.1 (Nat.le_of_ble_eq_true rfl) ⟨(Nat.le_of_ble_eq_true rfl), (Nat.le_of_ble_eq_true rfl)⟩ dX12_shutBy_30) (fun r30 I30 J30 H locs h hW => ?_)
      refine af_i hW (rn_V X hW (As := [.int v1, .int v7, .int r30]) (rest := [.long v5]) (okS hW sc17_0) rfl rfl (kX12_shuts h) mbX12_shuts tw1101 tw1103 tp42 rfl hl.1 (Nat.le_of_ble_eq_true rfl) ⟨(Nat.le_of_ble_eq_true rfl), (Nat.le_of_ble_eq_true rfl)⟩ dX12_shutBy_33) (fun r33 I33 J33 H locs h hW => ?_)
      refine lv_if_eq (tgt := 49) hx hb dX12_shutBy_36 (by decide) (fun c36 => ?_) (fun c36 => ?_)
      · have h := h.1 c36
        refine lv_lconst (v := 0) hx hb dX12_shutBy_49 (by decide) ?_
        exact bX12_shutBy_50 X ih v1 v3 v7 0 v5 _ _ _ _ _  h hW (lv_sub hl [0, 1, 2, 4] rfl)
      · have h := h.2 c36
        refine lv_aload_n hx hb dX12_shutBy_39 rfl (lv_at hl 0 rfl) ?_
        refine r_get X hW 27 (okS hW sc17_0) rfl rfl inX12 (Nat.le_of_ble_eq_true rfl) tw861 rfl dX12_shutBy_40 ?_
        refine lv_iload hx hb dX12_shutBy_43 (lv_at hl 4 rfl) ?_
        refine r_lald X hW (okS hW sc31_0) rfl h.1 dX12_shutBy_45 ?_
        have h := h.2
        refine lv_goto (tgt := 50) hx hb dX12_shutBy_46 (by decide) ?_
        exact bX12_shutBy_50 X ih v1 v3 v7 (J33 31 0 (Int32.toNatClampNeg v7)) v5 _ _ _ _ _  h hW (lv_sub hl [0, 1, 2, 4] rfl)
def wX12_shutBy (g : GS) (a1 : Int32) (a2 : Int32) (a3 : Int32) (a4 : Int32) (I : MI) (J : MJ) (Q : Int64 → MI → MJ → Prop) : Prop :=
  wX12_layWays g a1 a2 a3 a4 ((-1)) I J (fun I7 J7 => ∃ n16, wX12_shutBy_b16 g Q n16 a1 a3 0 0 I7 J7)
theorem mbX12_shutBy : MB yX12_shutBy cX12_shutBy 8 ((Option.some FieldType.long)) 4 := ⟨tw1100, tw7, ⟨by decide, by decide⟩, by decide +kernel, by decide +kernel⟩
set_option maxHeartbeats 4000000 in
set_option maxRecDepth 100000 in
theorem kX12_shutBy {l : Launch} {E : WE} {a1 : Int32} {a2 : Int32} {a3 : Int32} {a4 : Int32} {I : MI} {J : MJ} {Q : Int64 → MI → MJ → Prop} (h : wX12_shutBy (wg E) a1 a2 a3 a4 I J Q) : Met l yX12_shutBy (wsM yX12_shutBy cX12_shutBy 8 ((Option.some FieldType.long))) (rmO 2 53) (va_Pc [.ref (wa E 17 0), .int a1, .int a2, .int a3, .int a4] (Wp E I J)) (QL E Q) 0 0 (AA E) := by
  refine m_entry mbX12_shutBy (Nat.le_of_ble_eq_true rfl) ?_
  intro p e s m args below meth c X ls hW hl
  have X : Cx E cX12_shutBy 8 RX12 ((Option.some FieldType.long)) p s m args c meth := X
  have hx := X.1.1
  have hb := X.1.2.1
  have hl : lv_has ls 8 [(0, .ref (wa E 17 0)), (1, .int a1), (2, .int a2), (3, .int a3), (4, .int a4)] := hl
  refine lv_aload_n hx hb dX12_shutBy_0 rfl (lv_at hl 0 rfl) ?_
  refine lv_iload_n hx hb dX12_shutBy_1 rfl (lv_at hl 1 rfl) ?_
  refine lv_iload_n hx hb dX12_shutBy_2 rfl (lv_at hl 2 rfl) ?_
  refine lv_iload_n hx hb dX12_shutBy_3 rfl (lv_at hl 3 rfl) ?_
  refine lv_iload hx hb dX12_shutBy_4 (lv_at hl 4 rfl) ?_
  refine lv_iconst (v := (-1)) hx hb dX12_shutBy_6 (by decide) ?_
  refine af_v hW (rn_V X hW (As := [.int a1, .int a2, .int a3, .int a4, .int ((-1))]) (rest := []) (okS hW sc17_0) rfl rfl (kX12_layWays h) mbX12_layWays tw1076 tw1078 tp39 rfl hl.1 (Nat.le_of_ble_eq_true rfl) ⟨(Nat.le_of_ble_eq_true rfl), (Nat.le_of_ble_eq_true rfl)⟩ dX12_shutBy_7) (fun I7 J7 H locs h hW => ?_)
  refine lv_lconst (v := 0) hx hb dX12_shutBy_10 (by decide) ?_
  refine lv_lstore (lv' := [(5, .long 0), (0, .ref (wa E 17 0)), (1, .int a1), (2, .int a2), (3, .int a3), (4, .int a4)]) hx hb dX12_shutBy_11 hl (by decide) rfl (fun ls hl => ?_)
  refine lv_iconst (v := 0) hx hb dX12_shutBy_13 (by decide) ?_
  refine lv_istore (lv' := [(7, .int 0), (5, .long 0), (0, .ref (wa E 17 0)), (1, .int a1), (2, .int a2), (3, .int a3), (4, .int a4)]) hx hb dX12_shutBy_14 hl (by decide) rfl (fun ls hl => ?_)
  obtain ⟨n16, h⟩ := h
  exact bX12_shutBy_16 X n16 a1 a3 0 0 _ _ _ _ _  h hW (lv_sub hl [2, 3, 5, 1, 0] rfl)
def wX12_inBy (g : GS) (a1 : Int32) (a2 : Int32) (a3 : Int32) (I : MI) (J : MJ) (Q : Int64 → MI → MJ → Prop) : Prop :=
  wX12_ones g a3 I J (fun r1 I1 J1 => ((r1 = 0 → Q 0 I1 J1) ∧ (¬ r1 = 0 → vp_in a1 6 ∧ ((((I1 25 0 (Int32.toNatClampNeg a1)) ≤ r1 → wX12_shutBy g a1 a2 a3 r1 I1 J1 (fun r30 I30 J30 => vp_in a1 6 ∧ ((((I30 26 0 (Int32.toNatClampNeg a1)) = 0 → wX12_tens g r1 I30 J30 (fun r62 I62 J62 => wX12_tens g r1 I62 J62 (fun r70 I70 J70 => Q ((r62 - r30) * r70) I70 J70))) ∧ (¬ (I30 26 0 (Int32.toNatClampNeg a1)) = 0 → wX12_tens g (2 * r1) I30 J30 (fun r48 I48 J48 => Q (r48 - (r30 * r30)) I48 J48)))))) ∧ (¬ (I1 25 0 (Int32.toNatClampNeg a1)) ≤ r1 → Q 0 I1 J1))))))
theorem mbX12_inBy : MB yX12_inBy cX12_inBy 7 ((Option.some FieldType.long)) 3 := ⟨tw1096, tw7, ⟨by decide, by decide⟩, by decide +kernel, by decide +kernel⟩
set_option maxHeartbeats 4000000 in
set_option maxRecDepth 100000 in
theorem kX12_inBy {l : Launch} {E : WE} {a1 : Int32} {a2 : Int32} {a3 : Int32} {I : MI} {J : MJ} {Q : Int64 → MI → MJ → Prop} (h : wX12_inBy (wg E) a1 a2 a3 I J Q) : Met l yX12_inBy (wsM yX12_inBy cX12_inBy 7 ((Option.some FieldType.long))) (rmO 3 80) (va_Pc [.ref (wa E 17 0), .int a1, .int a2, .int a3] (Wp E I J)) (QL E Q) 0 0 (AA E) := by
  refine m_entry mbX12_inBy (Nat.le_of_ble_eq_true rfl) ?_
  intro p e s m args below meth c X ls hW hl
  have X : Cx E cX12_inBy 7 RX12 ((Option.some FieldType.long)) p s m args c meth := X
  have hx := X.1.1
  have hb := X.1.2.1
  have hl : lv_has ls 7 [(0, .ref (wa E 17 0)), (1, .int a1), (2, .int a2), (3, .int a3)] := hl
  refine lv_iload_n hx hb dX12_inBy_0 rfl (lv_at hl 3 rfl) ?_
  refine af_i hW (rn_S X hW (As := [.int a3]) (rest := []) (kX12_ones h) mbX12_ones tw1058 tw1059 rfl hl.1 (Nat.le_of_ble_eq_true rfl) ⟨(Nat.le_of_ble_eq_true rfl), (Nat.le_of_ble_eq_true rfl)⟩ dX12_inBy_1) (fun r1 I1 J1 H locs h hW => ?_)
  refine lv_istore (lv' := [(4, .int r1), (0, .ref (wa E 17 0)), (1, .int a1), (2, .int a2), (3, .int a3)]) hx hb dX12_inBy_4 hl (by decide) rfl (fun ls hl => ?_)
  refine lv_iload hx hb dX12_inBy_6 (lv_at hl 0 rfl) ?_
  refine lv_if_eq (tgt := 22) hx hb dX12_inBy_8 (by decide) (fun c8 => ?_) (fun c8 => ?_)
  · have h := h.1 c8
    refine lv_lconst (v := 0) hx hb dX12_inBy_22 (by decide) ?_
    exact e_l X hW h dX12_inBy_23
  · have h := h.2 c8
    refine lv_iload hx hb dX12_inBy_11 (lv_at hl 0 rfl) ?_
    refine lv_aload_n hx hb dX12_inBy_13 rfl (lv_at hl 1 rfl) ?_
    refine r_get X hW 10 (okS hW sc17_0) rfl rfl inX12 (Nat.le_of_ble_eq_true rfl) tw844 rfl dX12_inBy_14 ?_
    refine lv_iload_n hx hb dX12_inBy_17 rfl (lv_at hl 2 rfl) ?_
    refine r_iald X hW (okS hW sc25_0) rfl h.1 dX12_inBy_18 ?_
    have h := h.2
    refine lv_icmp_ge (tgt := 24) hx hb dX12_inBy_19 (by decide) (fun c19 => ?_) (fun c19 => ?_)
    · have h := h.1 c19
      refine lv_aload_n hx hb dX12_inBy_24 rfl (lv_at hl 1 rfl) ?_
      refine lv_iload_n hx hb dX12_inBy_25 rfl (lv_at hl 2 rfl) ?_
      refine lv_iload_n hx hb dX12_inBy_26 rfl (lv_at hl 3 rfl) ?_
      refine lv_iload_n hx hb dX12_inBy_27 rfl (lv_at hl 4 rfl) ?_
      refine lv_iload hx hb dX12_inBy_28 (lv_at hl 0 rfl) ?_
      refine af_l hW (rn_V X hW (As := [.int a1, .int a2, .int a3, .int r1]) (rest := []) (okS hW sc17_0) rfl rfl (kX12_shutBy h) mbX12_shutBy tw1097 tw1099 tp41 rfl hl.1 (Nat.le_of_ble_eq_true rfl) ⟨(Nat.le_of_ble_eq_true rfl), (Nat.le_of_ble_eq_true rfl)⟩ dX12_inBy_30) (fun r30 I30 J30 H locs h hW => ?_)
      refine lv_lstore (lv' := [(5, .long r30), (4, .int r1), (0, .ref (wa E 17 0)), (1, .int a1), (2, .int a2), (3, .int a3)]) hx hb dX12_inBy_33 hl (by decide) rfl (fun ls hl => ?_)
      refine lv_aload_n hx hb dX12_inBy_35 rfl (lv_at hl 2 rfl) ?_
      refine r_get X hW 11 (okS hW sc17_0) rfl rfl inX12 (Nat.le_of_ble_eq_true rfl) tw845 rfl dX12_inBy_36 ?_
      refine lv_iload_n hx hb dX12_inBy_39 rfl (lv_at hl 3 rfl) ?_
      refine r_zald X hW (okS hW sc26_0) rfl h.1 dX12_inBy_40 ?_
      have h := h.2
      refine lv_if_eq (tgt := 60) hx hb dX12_inBy_41 (by decide) (fun c41 => ?_) (fun c41 => ?_)
      · have h := h.1 c41
        refine lv_iload hx hb dX12_inBy_60 (lv_at hl 1 rfl) ?_
        refine af_l hW (rn_S X hW (As := [.int r1]) (rest := []) (kX12_tens h) mbX12_tens tw1080 tw1081 rfl hl.1 (Nat.le_of_ble_eq_true rfl) ⟨(Nat.le_of_ble_eq_true rfl), (Nat.le_of_ble_eq_true rfl)⟩ dX12_inBy_62) (fun r62 I62 J62 H locs h hW => ?_)
        refine lv_lload hx hb dX12_inBy_65 (lv_at hl 0 rfl) ?_
        refine lv_lsub hx hb dX12_inBy_67 ?_
        refine lv_iload hx hb dX12_inBy_68 (lv_at hl 1 rfl) ?_
        refine af_l hW (rn_S X hW (As := [.int r1]) (rest := [.long (r62 - r30)]) (kX12_tens h) mbX12_tens tw1080 tw1081 rfl hl.1 (Nat.le_of_ble_eq_true rfl) ⟨(Nat.le_of_ble_eq_true rfl), (Nat.le_of_ble_eq_true rfl)⟩ dX12_inBy_70) (fun r70 I70 J70 H locs h hW => ?_)
        refine lv_lmul hx hb dX12_inBy_73 ?_
        exact e_l X hW h dX12_inBy_74
      · have h := h.2 c41
        refine lv_iconst (v := 2) hx hb dX12_inBy_44 (by decide) ?_
        refine lv_iload hx hb dX12_inBy_45 (lv_at hl 1 rfl) ?_
        refine lv_imul hx hb dX12_inBy_47 ?_
        refine af_l hW (rn_S X hW (As := [.int (2 * r1)]) (rest := []) (kX12_tens h) mbX12_tens tw1080 tw1081 rfl hl.1 (Nat.le_of_ble_eq_true rfl) ⟨(Nat.le_of_ble_eq_true rfl), (Nat.le_of_ble_eq_true rfl)⟩ dX12_inBy_48) (fun r48 I48 J48 H locs h hW => ?_)
        refine lv_lload hx hb dX12_inBy_51 (lv_at hl 0 rfl) ?_
        refine lv_lload hx hb dX12_inBy_53 (lv_at hl 0 rfl) ?_
        refine lv_lmul hx hb dX12_inBy_55 ?_
        refine lv_lsub hx hb dX12_inBy_56 ?_
        refine lv_goto (tgt := 74) hx hb dX12_inBy_57 (by decide) ?_
        exact e_l X hW h dX12_inBy_74
    · have h := h.2 c19
      refine lv_lconst (v := 0) hx hb dX12_inBy_22 (by decide) ?_
      exact e_l X hW h dX12_inBy_23
def wX12_areThere (g : GS) (a1 : Int32) (a2 : Int32) (I : MI) (J : MJ) (Q : Int32 → MI → MJ → Prop) : Prop :=
  wX12_isRule g a1 I J (fun r2 I2 J2 => ((r2 = 0 → Q 0 I2 J2) ∧ (¬ r2 = 0 → wX12_isCandidate g a2 I2 J2 (fun r10 I10 J10 => ((r10 = 0 → Q 0 I10 J10) ∧ (¬ r10 = 0 → Q 1 I10 J10))))))
theorem mbX12_areThere : MB yX12_areThere cX12_areThere 3 ((Option.some FieldType.boolean)) 2 := ⟨tw1072, tw7, ⟨by decide, by decide⟩, by decide +kernel, by decide +kernel⟩
set_option maxHeartbeats 4000000 in
set_option maxRecDepth 100000 in
theorem kX12_areThere {l : Launch} {E : WE} {a1 : Int32} {a2 : Int32} {I : MI} {J : MJ} {Q : Int32 → MI → MJ → Prop} (h : wX12_areThere (wg E) a1 a2 I J Q) : Met l yX12_areThere (wsM yX12_areThere cX12_areThere 3 ((Option.some FieldType.boolean))) (rmO 2 43) (va_Pc [.ref (wa E 17 0), .int a1, .int a2] (Wp E I J)) (QI E Q) 0 0 (AA E) := by
  refine m_entry mbX12_areThere (Nat.le_of_ble_eq_true rfl) ?_
  intro p e s m args below meth c X ls hW hl
  have X : Cx E cX12_areThere 3 RX12 ((Option.some FieldType.boolean)) p s m args c meth := X
  have hx := X.1.1
  have hb := X.1.2.1
  have hl : lv_has ls 3 [(0, .ref (wa E 17 0)), (1, .int a1), (2, .int a2)] := hl
  refine lv_aload_n hx hb dX12_areThere_0 rfl (lv_at hl 0 rfl) ?_
  refine lv_iload_n hx hb dX12_areThere_1 rfl (lv_at hl 1 rfl) ?_
  refine af_i hW (rn_V X hW (As := [.int a1]) (rest := []) (okS hW sc17_0) rfl rfl (kX12_isRule h) mbX12_isRule tw987 tw989 tp28 rfl hl.1 (Nat.le_of_ble_eq_true rfl) ⟨(Nat.le_of_ble_eq_true rfl), (Nat.le_of_ble_eq_true rfl)⟩ dX12_areThere_2) (fun r2 I2 J2 H locs h hW => ?_)
  refine lv_if_eq (tgt := 20) hx hb dX12_areThere_5 (by decide) (fun c5 => ?_) (fun c5 => ?_)
  · have h := h.1 c5
    refine lv_iconst (v := 0) hx hb dX12_areThere_20 (by decide) ?_
    exact e_z X hW rfl h dX12_areThere_21
  · have h := h.2 c5
    refine lv_aload_n hx hb dX12_areThere_8 rfl (lv_at hl 0 rfl) ?_
    refine lv_iload_n hx hb dX12_areThere_9 rfl (lv_at hl 2 rfl) ?_
    refine af_i hW (rn_V X hW (As := [.int a2]) (rest := []) (okS hW sc17_0) rfl rfl (kX12_isCandidate h) mbX12_isCandidate tw1027 tw1029 tp32 rfl hl.1 (Nat.le_of_ble_eq_true rfl) ⟨(Nat.le_of_ble_eq_true rfl), (Nat.le_of_ble_eq_true rfl)⟩ dX12_areThere_10) (fun r10 I10 J10 H locs h hW => ?_)
    refine lv_if_eq (tgt := 20) hx hb dX12_areThere_13 (by decide) (fun c13 => ?_) (fun c13 => ?_)
    · have h := h.1 c13
      refine lv_iconst (v := 0) hx hb dX12_areThere_20 (by decide) ?_
      exact e_z X hW rfl h dX12_areThere_21
    · have h := h.2 c13
      refine lv_iconst (v := 1) hx hb dX12_areThere_16 (by decide) ?_
      refine lv_goto (tgt := 21) hx hb dX12_areThere_17 (by decide) ?_
      exact e_z X hW rfl h dX12_areThere_21
def wX12_balls (g : GS) (a1 : Int32) (a2 : Int32) (a3 : Int32) (a4 : Int32) (a5 : Int32) (I : MI) (J : MJ) (Q : Int32 → MI → MJ → Prop) : Prop :=
  wX12_areThere g a1 a2 I J (fun r3 I3 J3 => ((¬ r3 = 0 → wX12_areComers g a3 I3 J3 (fun r14 I14 J14 => ((r14 = 0 → Q ((-102)) I14 J14) ∧ (¬ r14 = 0 → wX12_within g a4 0 8 I14 J14 (fun r25 I25 J25 => ((r25 = 0 → Q ((-102)) I25 J25) ∧ (¬ r25 = 0 → wX12_isPart g a5 I25 J25 (fun r33 I33 J33 => ((¬ r33 = 0 → wX12_ones g a3 I33 J33 (fun r47 I47 J47 => wX12_layWays g a1 a2 a3 r47 ((-1)) I47 J47 (fun I51 J51 => vp_in a4 9 ∧ (wX12_ones g a3 I51 J51 (fun r62 I62 J62 => wX12_tens g r62 I62 J62 (fun r65 I65 J65 => wX12_lowest g (J51 31 0 (Int32.toNatClampNeg a4)) r65 a5 I65 J65 (fun r70 I70 J70 => Q (Int64.toInt32 r70) I70 J70))))))) ∧ (r33 = 0 → Q ((-102)) I33 J33)))))))))) ∧ (r3 = 0 → Q ((-101)) I3 J3)))
theorem mbX12_balls : MB yX12_balls cX12_balls 6 ((Option.some FieldType.int)) 5 := ⟨tw1068, tw7, ⟨by decide, by decide⟩, by decide +kernel, by decide +kernel⟩
set_option maxHeartbeats 4000000 in
set_option maxRecDepth 100000 in
theorem kX12_balls {l : Launch} {E : WE} {a1 : Int32} {a2 : Int32} {a3 : Int32} {a4 : Int32} {a5 : Int32} {I : MI} {J : MJ} {Q : Int32 → MI → MJ → Prop} (h : wX12_balls (wg E) a1 a2 a3 a4 a5 I J Q) : Met l yX12_balls (wsM yX12_balls cX12_balls 6 ((Option.some FieldType.int))) (rmO 3 65) (va_Pc [.ref (wa E 17 0), .int a1, .int a2, .int a3, .int a4, .int a5] (Wp E I J)) (QI E Q) 0 0 (AA E) := by
  refine m_entry mbX12_balls (Nat.le_of_ble_eq_true rfl) ?_
  intro p e s m args below meth c X ls hW hl
  have X : Cx E cX12_balls 6 RX12 ((Option.some FieldType.int)) p s m args c meth := X
  have hx := X.1.1
  have hb := X.1.2.1
  have hl : lv_has ls 6 [(0, .ref (wa E 17 0)), (1, .int a1), (2, .int a2), (3, .int a3), (4, .int a4), (5, .int a5)] := hl
  refine lv_aload_n hx hb dX12_balls_0 rfl (lv_at hl 0 rfl) ?_
  refine lv_iload_n hx hb dX12_balls_1 rfl (lv_at hl 1 rfl) ?_
  refine lv_iload_n hx hb dX12_balls_2 rfl (lv_at hl 2 rfl) ?_
  refine af_i hW (rn_V X hW (As := [.int a1, .int a2]) (rest := []) (okS hW sc17_0) rfl rfl (kX12_areThere h) mbX12_areThere tw1069 tw1071 tp38 rfl hl.1 (Nat.le_of_ble_eq_true rfl) ⟨(Nat.le_of_ble_eq_true rfl), (Nat.le_of_ble_eq_true rfl)⟩ dX12_balls_3) (fun r3 I3 J3 H locs h hW => ?_)
  refine lv_if_ne (tgt := 12) hx hb dX12_balls_6 (by decide) (fun c6 => ?_) (fun c6 => ?_)
  · have h := h.1 c6
    refine lv_aload_n hx hb dX12_balls_12 rfl (lv_at hl 0 rfl) ?_
    refine lv_iload_n hx hb dX12_balls_13 rfl (lv_at hl 3 rfl) ?_
    refine af_i hW (rn_V X hW (As := [.int a3]) (rest := []) (okS hW sc17_0) rfl rfl (kX12_areComers h) mbX12_areComers tw1051 tw1053 tp36 rfl hl.1 (Nat.le_of_ble_eq_true rfl) ⟨(Nat.le_of_ble_eq_true rfl), (Nat.le_of_ble_eq_true rfl)⟩ dX12_balls_14) (fun r14 I14 J14 H locs h hW => ?_)
    refine lv_if_eq (tgt := 39) hx hb dX12_balls_17 (by decide) (fun c17 => ?_) (fun c17 => ?_)
    · have h := h.1 c17
      refine lv_bipush (v := (-102)) hx hb dX12_balls_39 (by decide) ?_
      exact e_i X hW h dX12_balls_41
    · have h := h.2 c17
      refine lv_iload hx hb dX12_balls_20 (lv_at hl 4 rfl) ?_
      refine lv_iconst (v := 0) hx hb dX12_balls_22 (by decide) ?_
      refine lv_bipush (v := 8) hx hb dX12_balls_23 (by decide) ?_
      refine af_i hW (rn_S X hW (As := [.int a4, .int 0, .int 8]) (rest := []) (kX12_within h) mbX12_within tw969 tw970 rfl hl.1 (Nat.le_of_ble_eq_true rfl) ⟨(Nat.le_of_ble_eq_true rfl), (Nat.le_of_ble_eq_true rfl)⟩ dX12_balls_25) (fun r25 I25 J25 H locs h hW => ?_)
      refine lv_if_eq (tgt := 39) hx hb dX12_balls_28 (by decide) (fun c28 => ?_) (fun c28 => ?_)
      · have h := h.1 c28
        refine lv_bipush (v := (-102)) hx hb dX12_balls_39 (by decide) ?_
        exact e_i X hW h dX12_balls_41
      · have h := h.2 c28
        refine lv_iload hx hb dX12_balls_31 (lv_at hl 5 rfl) ?_
        refine af_i hW (rn_S X hW (As := [.int a5]) (rest := []) (kX12_isPart h) mbX12_isPart tw1073 tw1074 rfl hl.1 (Nat.le_of_ble_eq_true rfl) ⟨(Nat.le_of_ble_eq_true rfl), (Nat.le_of_ble_eq_true rfl)⟩ dX12_balls_33) (fun r33 I33 J33 H locs h hW => ?_)
        refine lv_if_ne (tgt := 42) hx hb dX12_balls_36 (by decide) (fun c36 => ?_) (fun c36 => ?_)
        · have h := h.1 c36
          refine lv_aload_n hx hb dX12_balls_42 rfl (lv_at hl 0 rfl) ?_
          refine lv_iload_n hx hb dX12_balls_43 rfl (lv_at hl 1 rfl) ?_
          refine lv_iload_n hx hb dX12_balls_44 rfl (lv_at hl 2 rfl) ?_
          refine lv_iload_n hx hb dX12_balls_45 rfl (lv_at hl 3 rfl) ?_
          refine lv_iload_n hx hb dX12_balls_46 rfl (lv_at hl 3 rfl) ?_
          refine af_i hW (rn_S X hW (As := [.int a3]) (rest := [.int a3, .int a2, .int a1, .ref (wa E 17 0)]) (kX12_ones h) mbX12_ones tw1058 tw1059 rfl hl.1 (Nat.le_of_ble_eq_true rfl) ⟨(Nat.le_of_ble_eq_true rfl), (Nat.le_of_ble_eq_true rfl)⟩ dX12_balls_47) (fun r47 I47 J47 H locs h hW => ?_)
          refine lv_iconst (v := (-1)) hx hb dX12_balls_50 (by decide) ?_
          refine af_v hW (rn_V X hW (As := [.int a1, .int a2, .int a3, .int r47, .int ((-1))]) (rest := []) (okS hW sc17_0) rfl rfl (kX12_layWays h) mbX12_layWays tw1076 tw1078 tp39 rfl hl.1 (Nat.le_of_ble_eq_true rfl) ⟨(Nat.le_of_ble_eq_true rfl), (Nat.le_of_ble_eq_true rfl)⟩ dX12_balls_51) (fun I51 J51 H locs h hW => ?_)
          refine lv_aload_n hx hb dX12_balls_54 rfl (lv_at hl 0 rfl) ?_
          refine r_get X hW 27 (okS hW sc17_0) rfl rfl inX12 (Nat.le_of_ble_eq_true rfl) tw861 rfl dX12_balls_55 ?_
          refine lv_iload hx hb dX12_balls_58 (lv_at hl 4 rfl) ?_
          refine r_lald X hW (okS hW sc31_0) rfl h.1 dX12_balls_60 ?_
          have h := h.2
          refine lv_iload_n hx hb dX12_balls_61 rfl (lv_at hl 3 rfl) ?_
          refine af_i hW (rn_S X hW (As := [.int a3]) (rest := [.long (J51 31 0 (Int32.toNatClampNeg a4))]) (kX12_ones h) mbX12_ones tw1058 tw1059 rfl hl.1 (Nat.le_of_ble_eq_true rfl) ⟨(Nat.le_of_ble_eq_true rfl), (Nat.le_of_ble_eq_true rfl)⟩ dX12_balls_62) (fun r62 I62 J62 H locs h hW => ?_)
          refine af_l hW (rn_S X hW (As := [.int r62]) (rest := [.long (J51 31 0 (Int32.toNatClampNeg a4))]) (kX12_tens h) mbX12_tens tw1080 tw1081 rfl hl.1 (Nat.le_of_ble_eq_true rfl) ⟨(Nat.le_of_ble_eq_true rfl), (Nat.le_of_ble_eq_true rfl)⟩ dX12_balls_65) (fun r65 I65 J65 H locs h hW => ?_)
          refine lv_iload hx hb dX12_balls_68 (lv_at hl 5 rfl) ?_
          refine af_l hW (rn_S X hW (As := [.long (J51 31 0 (Int32.toNatClampNeg a4)), .long r65, .int a5]) (rest := []) (kX12_lowest h) mbX12_lowest tw1084 tw1085 rfl hl.1 (Nat.le_of_ble_eq_true rfl) ⟨(Nat.le_of_ble_eq_true rfl), (Nat.le_of_ble_eq_true rfl)⟩ dX12_balls_70) (fun r70 I70 J70 H locs h hW => ?_)
          refine lv_l2i hx hb dX12_balls_73 rfl ?_
          exact e_i X hW h dX12_balls_74
        · have h := h.2 c36
          refine lv_bipush (v := (-102)) hx hb dX12_balls_39 (by decide) ?_
          exact e_i X hW h dX12_balls_41
  · have h := h.2 c6
    refine lv_bipush (v := (-101)) hx hb dX12_balls_9 (by decide) ?_
    exact e_i X hW h dX12_balls_11
def wX12_in (g : GS) (a1 : Int32) (a2 : Int32) (a3 : Int32) (a4 : Int32) (I : MI) (J : MJ) (Q : Int64 → MI → MJ → Prop) : Prop :=
  wX12_areThere g a1 a2 I J (fun r3 I3 J3 => ((¬ r3 = 0 → wX12_areComers g a3 I3 J3 (fun r15 I15 J15 => ((r15 = 0 → Q ((-102)) I15 J15) ∧ (¬ r15 = 0 → wX12_isPart g a4 I15 J15 (fun r23 I23 J23 => ((¬ r23 = 0 → wX12_inBy g a1 a2 a3 I23 J23 (fun r37 I37 J37 => wX12_ones g a3 I37 J37 (fun r42 I42 J42 => wX12_tens g (2 * r42) I42 J42 (fun r46 I46 J46 => wX12_lowest g r37 r46 a4 I46 J46 (fun r51 I51 J51 => Q r51 I51 J51))))) ∧ (r23 = 0 → Q ((-102)) I23 J23))))))) ∧ (r3 = 0 → Q ((-101)) I3 J3)))
theorem mbX12_in : MB yX12_in cX12_in 5 ((Option.some FieldType.long)) 4 := ⟨tw1090, tw7, ⟨by decide, by decide⟩, by decide +kernel, by decide +kernel⟩
set_option maxHeartbeats 4000000 in
set_option maxRecDepth 100000 in
theorem kX12_in {l : Launch} {E : WE} {a1 : Int32} {a2 : Int32} {a3 : Int32} {a4 : Int32} {I : MI} {J : MJ} {Q : Int64 → MI → MJ → Prop} (h : wX12_in (wg E) a1 a2 a3 a4 I J Q) : Met l yX12_in (wsM yX12_in cX12_in 5 ((Option.some FieldType.long))) (rmO 4 106) (va_Pc [.ref (wa E 17 0), .int a1, .int a2, .int a3, .int a4] (Wp E I J)) (QL E Q) 0 0 (AA E) := by
  refine m_entry mbX12_in (Nat.le_of_ble_eq_true rfl) ?_
  intro p e s m args below meth c X ls hW hl
  have X : Cx E cX12_in 5 RX12 ((Option.some FieldType.long)) p s m args c meth := X
  have hx := X.1.1
  have hb := X.1.2.1
  have hl : lv_has ls 5 [(0, .ref (wa E 17 0)), (1, .int a1), (2, .int a2), (3, .int a3), (4, .int a4)] := hl
  refine lv_aload_n hx hb dX12_in_0 rfl (lv_at hl 0 rfl) ?_
  refine lv_iload_n hx hb dX12_in_1 rfl (lv_at hl 1 rfl) ?_
  refine lv_iload_n hx hb dX12_in_2 rfl (lv_at hl 2 rfl) ?_
  refine af_i hW (rn_V X hW (As := [.int a1, .int a2]) (rest := []) (okS hW sc17_0) rfl rfl (kX12_areThere h) mbX12_areThere tw1069 tw1071 tp38 rfl hl.1 (Nat.le_of_ble_eq_true rfl) ⟨(Nat.le_of_ble_eq_true rfl), (Nat.le_of_ble_eq_true rfl)⟩ dX12_in_3) (fun r3 I3 J3 H locs h hW => ?_)
  refine lv_if_ne (tgt := 13) hx hb dX12_in_6 (by decide) (fun c6 => ?_) (fun c6 => ?_)
  · have h := h.1 c6
    refine lv_aload_n hx hb dX12_in_13 rfl (lv_at hl 0 rfl) ?_
    refine lv_iload_n hx hb dX12_in_14 rfl (lv_at hl 3 rfl) ?_
    refine af_i hW (rn_V X hW (As := [.int a3]) (rest := []) (okS hW sc17_0) rfl rfl (kX12_areComers h) mbX12_areComers tw1051 tw1053 tp36 rfl hl.1 (Nat.le_of_ble_eq_true rfl) ⟨(Nat.le_of_ble_eq_true rfl), (Nat.le_of_ble_eq_true rfl)⟩ dX12_in_15) (fun r15 I15 J15 H locs h hW => ?_)
    refine lv_if_eq (tgt := 29) hx hb dX12_in_18 (by decide) (fun c18 => ?_) (fun c18 => ?_)
    · have h := h.1 c18
      refine lv_ldc2 hx hb X.1.2.2.2.1 (X.1.2.2.2.2 _ tw1092) dX12_in_29 ?_
      exact e_l X hW h dX12_in_32
    · have h := h.2 c18
      refine lv_iload hx hb dX12_in_21 (lv_at hl 4 rfl) ?_
      refine af_i hW (rn_S X hW (As := [.int a4]) (rest := []) (kX12_isPart h) mbX12_isPart tw1073 tw1074 rfl hl.1 (Nat.le_of_ble_eq_true rfl) ⟨(Nat.le_of_ble_eq_true rfl), (Nat.le_of_ble_eq_true rfl)⟩ dX12_in_23) (fun r23 I23 J23 H locs h hW => ?_)
      refine lv_if_ne (tgt := 33) hx hb dX12_in_26 (by decide) (fun c26 => ?_) (fun c26 => ?_)
      · have h := h.1 c26
        refine lv_aload_n hx hb dX12_in_33 rfl (lv_at hl 0 rfl) ?_
        refine lv_iload_n hx hb dX12_in_34 rfl (lv_at hl 1 rfl) ?_
        refine lv_iload_n hx hb dX12_in_35 rfl (lv_at hl 2 rfl) ?_
        refine lv_iload_n hx hb dX12_in_36 rfl (lv_at hl 3 rfl) ?_
        refine af_l hW (rn_V X hW (As := [.int a1, .int a2, .int a3]) (rest := []) (okS hW sc17_0) rfl rfl (kX12_inBy h) mbX12_inBy tw1093 tw1095 tp40 rfl hl.1 (Nat.le_of_ble_eq_true rfl) ⟨(Nat.le_of_ble_eq_true rfl), (Nat.le_of_ble_eq_true rfl)⟩ dX12_in_37) (fun r37 I37 J37 H locs h hW => ?_)
        refine lv_iconst (v := 2) hx hb dX12_in_40 (by decide) ?_
        refine lv_iload_n hx hb dX12_in_41 rfl (lv_at hl 3 rfl) ?_
        refine af_i hW (rn_S X hW (As := [.int a3]) (rest := [.int 2, .long r37]) (kX12_ones h) mbX12_ones tw1058 tw1059 rfl hl.1 (Nat.le_of_ble_eq_true rfl) ⟨(Nat.le_of_ble_eq_true rfl), (Nat.le_of_ble_eq_true rfl)⟩ dX12_in_42) (fun r42 I42 J42 H locs h hW => ?_)
        refine lv_imul hx hb dX12_in_45 ?_
        refine af_l hW (rn_S X hW (As := [.int (2 * r42)]) (rest := [.long r37]) (kX12_tens h) mbX12_tens tw1080 tw1081 rfl hl.1 (Nat.le_of_ble_eq_true rfl) ⟨(Nat.le_of_ble_eq_true rfl), (Nat.le_of_ble_eq_true rfl)⟩ dX12_in_46) (fun r46 I46 J46 H locs h hW => ?_)
        refine lv_iload hx hb dX12_in_49 (lv_at hl 4 rfl) ?_
        refine af_l hW (rn_S X hW (As := [.long r37, .long r46, .int a4]) (rest := []) (kX12_lowest h) mbX12_lowest tw1084 tw1085 rfl hl.1 (Nat.le_of_ble_eq_true rfl) ⟨(Nat.le_of_ble_eq_true rfl), (Nat.le_of_ble_eq_true rfl)⟩ dX12_in_51) (fun r51 I51 J51 H locs h hW => ?_)
        exact e_l X hW h dX12_in_54
      · have h := h.2 c26
        refine lv_ldc2 hx hb X.1.2.2.2.1 (X.1.2.2.2.2 _ tw1092) dX12_in_29 ?_
        exact e_l X hW h dX12_in_32
  · have h := h.2 c6
    refine lv_ldc2 hx hb X.1.2.2.2.1 (X.1.2.2.2.2 _ tw1091) dX12_in_9 ?_
    exact e_l X hW h dX12_in_12
def wX12_comesBy_b46 (g : GS) (ko5 : Int32 → Int64 → Int32 → MI → MJ → Prop) (Q : Int64 → MI → MJ → Prop) (v1 : Int32) (v4 : Int32) (t0 : Int64) (t1 : Int64) (I : MI) (J : MJ) : Prop :=
  ko5 v1 (t1 * t0) (v4 + 1) I J
set_option maxHeartbeats 4000000 in
set_option maxRecDepth 100000 in
theorem bX12_comesBy_46 {p : Program} {l : Launch} {e : Env} {s : State} {m : MethodId} {args : Array Value} {below : List Frame} {meth : Method} {c : Code} {E : WE} {Q : Int64 → MI → MJ → Prop} {ko5 : Int32 → Int64 → Int32 → MI → MJ → Prop} (X : Cx E cX12_comesBy 5 RX12 ((Option.some FieldType.long)) p s m args c meth)
    (hk5 : ∀ (v1 : Int32) (v2 : Int64) (v4 : Int32) (I : MI) (J : MJ) (H : Heap) (locs : List Loc) (ls : Array Slot), ko5 v1 v2 v4 I J → Wd E I J s H locs → lv_has ls 5 [(0, .ref (wa E 17 0)), (1, .int v1), (2, .long v2), (4, .int v4)] → W p l e (rmO 1 21) s m args below meth c H locs 0 0 (MQ below (QL E Q) args s 0 0 (AA E)) (F0 m 5 ls [])) : ∀ (v1 : Int32) (v4 : Int32) (t0 : Int64) (t1 : Int64) (I : MI) (J : MJ) (H : Heap) (locs : List Loc) (ls : Array Slot), wX12_comesBy_b46 (wg E) ko5 Q v1 v4 t0 t1 I J → Wd E I J s H locs → lv_has ls 5 [(0, .ref (wa E 17 0)), (1, .int v1), (4, .int v4)] → W p l e (rmO 1 21) s m args below meth c H locs 0 0 (MQ below (QL E Q) args s 0 0 (AA E)) (F0 m 46 ls [.long t0, .long t1]) := by
  have hx := X.1.1
  have hb := X.1.2.1
  intro v1 v4 t0 t1 I J H locs ls h hW hl
  refine lv_lmul hx hb dX12_comesBy_46 ?_
  refine lv_lstore_n (lv' := [(2, .long (t1 * t0)), (0, .ref (wa E 17 0)), (1, .int v1), (4, .int v4)]) hx hb dX12_comesBy_47 rfl hl (by decide) rfl (fun ls hl => ?_)
  refine lv_iinc (v := v4 + 1) (lv' := [(4, .int (v4 + 1)), (2, .long (t1 * t0)), (0, .ref (wa E 17 0)), (1, .int v1)]) hx hb dX12_comesBy_48 hl (k := 3) rfl rfl (by decide) rfl (fun ls hl => ?_)
  refine lv_goto (tgt := 5) hx hb dX12_comesBy_51 (by decide) ?_
  exact hk5 v1 (t1 * t0) (v4 + 1) _ _ _ _ _  h hW (lv_sub hl [2, 3, 1, 0] rfl)
def wX12_comesBy_b5 (g : GS) (Q : Int64 → MI → MJ → Prop) : Nat → Int32 → Int64 → Int32 → MI → MJ → Prop
  | 0, _, _, _, _, _ => False
  | n + 1, v1, v2, v4, I, J => (((I 17 0 0) ≤ v4 → Q v2 I J) ∧ (¬ (I 17 0 0) ≤ v4 → wX12_has g v1 v4 I J (fun r18 I18 J18 => ((r18 = 0 → vp_in v4 8 ∧ (wX12_comesBy_b46 g (fun v1 v2 v4 I J => wX12_comesBy_b5 g Q n v1 v2 v4 I J) Q v1 v4 (Int32.toInt64 (10 - (I18 20 0 (Int32.toNatClampNeg v4)))) v2 I18 J18)) ∧ (¬ r18 = 0 → vp_in v4 8 ∧ (wX12_comesBy_b46 g (fun v1 v2 v4 I J => wX12_comesBy_b5 g Q n v1 v2 v4 I J) Q v1 v4 (Int32.toInt64 (I18 20 0 (Int32.toNatClampNeg v4))) v2 I18 J18))))))
set_option maxHeartbeats 4000000 in
set_option maxRecDepth 100000 in
theorem bX12_comesBy_5 {p : Program} {l : Launch} {e : Env} {s : State} {m : MethodId} {args : Array Value} {below : List Frame} {meth : Method} {c : Code} {E : WE} {Q : Int64 → MI → MJ → Prop} (X : Cx E cX12_comesBy 5 RX12 ((Option.some FieldType.long)) p s m args c meth) (n : Nat) : ∀ (v1 : Int32) (v2 : Int64) (v4 : Int32) (I : MI) (J : MJ) (H : Heap) (locs : List Loc) (ls : Array Slot), wX12_comesBy_b5 (wg E) Q n v1 v2 v4 I J → Wd E I J s H locs → lv_has ls 5 [(0, .ref (wa E 17 0)), (1, .int v1), (2, .long v2), (4, .int v4)] → W p l e (rmO 1 21) s m args below meth c H locs 0 0 (MQ below (QL E Q) args s 0 0 (AA E)) (F0 m 5 ls []) := by
  have hx := X.1.1
  have hb := X.1.2.1
  induction n with
  | zero => intro v1 v2 v4 I J H locs ls h hW hl; exact h.elim
  | succ n ih =>
    intro v1 v2 v4 I J H locs ls h hW hl
    refine lv_iload hx hb dX12_comesBy_5 (lv_at hl 3 rfl) ?_
    refine lv_aload_n hx hb dX12_comesBy_7 rfl (lv_at hl 0 rfl) ?_
    refine r_get X hW 0 (okS hW sc17_0) rfl rfl inX12 (Nat.le_of_ble_eq_true rfl) tw834 rfl dX12_comesBy_8 ?_
    refine lv_icmp_ge (tgt := 54) hx hb dX12_comesBy_11 (by decide) (fun c11 => ?_) (fun c11 => ?_)
    · have h := h.1 c11
      refine lv_lload_n hx hb dX12_comesBy_54 rfl (lv_at hl 2 rfl) ?_
      exact e_l X hW h dX12_comesBy_55
    · have h := h.2 c11
      refine lv_lload_n hx hb dX12_comesBy_14 rfl (lv_at hl 2 rfl) ?_
      refine lv_iload_n hx hb dX12_comesBy_15 rfl (lv_at hl 1 rfl) ?_
      refine lv_iload hx hb dX12_comesBy_16 (lv_at hl 3 rfl) ?_
      refine af_i hW (rn_S X hW (As := [.int v1, .int v4]) (rest := [.long v2]) (kX12_has h) mbX12_has tw1055 tw1056 rfl hl.1 (Nat.le_of_ble_eq_true rfl) ⟨(Nat.le_of_ble_eq_true rfl), (Nat.le_of_ble_eq_true rfl)⟩ dX12_comesBy_18) (fun r18 I18 J18 H locs h hW => ?_)
      refine lv_if_eq (tgt := 35) hx hb dX12_comesBy_21 (by decide) (fun c21 => ?_) (fun c21 => ?_)
      · have h := h.1 c21
        refine lv_bipush (v := 10) hx hb dX12_comesBy_35 (by decide) ?_
        refine lv_aload_n hx hb dX12_comesBy_37 rfl (lv_at hl 0 rfl) ?_
        refine r_get X hW 3 (okS hW sc17_0) rfl rfl inX12 (Nat.le_of_ble_eq_true rfl) tw837 rfl dX12_comesBy_38 ?_
        refine lv_iload hx hb dX12_comesBy_41 (lv_at hl 3 rfl) ?_
        refine r_iald X hW (okS hW sc20_0) rfl h.1 dX12_comesBy_43 ?_
        have h := h.2
        refine lv_isub hx hb dX12_comesBy_44 ?_
        refine lv_i2l hx hb dX12_comesBy_45 rfl ?_
        exact bX12_comesBy_46 X ih v1 v4 (Int32.toInt64 (10 - (I18 20 0 (Int32.toNatClampNeg v4)))) v2 _ _ _ _ _  h hW (lv_sub hl [0, 1, 3] rfl)
      · have h := h.2 c21
        refine lv_aload_n hx hb dX12_comesBy_24 rfl (lv_at hl 0 rfl) ?_
        refine r_get X hW 3 (okS hW sc17_0) rfl rfl inX12 (Nat.le_of_ble_eq_true rfl) tw837 rfl dX12_comesBy_25 ?_
        refine lv_iload hx hb dX12_comesBy_28 (lv_at hl 3 rfl) ?_
        refine r_iald X hW (okS hW sc20_0) rfl h.1 dX12_comesBy_30 ?_
        have h := h.2
        refine lv_i2l hx hb dX12_comesBy_31 rfl ?_
        refine lv_goto (tgt := 46) hx hb dX12_comesBy_32 (by decide) ?_
        exact bX12_comesBy_46 X ih v1 v4 (Int32.toInt64 (I18 20 0 (Int32.toNatClampNeg v4))) v2 _ _ _ _ _  h hW (lv_sub hl [0, 1, 3] rfl)
def wX12_comesBy (g : GS) (a1 : Int32) (I : MI) (J : MJ) (Q : Int64 → MI → MJ → Prop) : Prop :=
  ∃ n5, wX12_comesBy_b5 g Q n5 a1 1 0 I J
theorem mbX12_comesBy : MB yX12_comesBy cX12_comesBy 5 ((Option.some FieldType.long)) 1 := ⟨tw1113, tw7, ⟨by decide, by decide⟩, by decide +kernel, by decide +kernel⟩
set_option maxHeartbeats 4000000 in
set_option maxRecDepth 100000 in
theorem kX12_comesBy {l : Launch} {E : WE} {a1 : Int32} {I : MI} {J : MJ} {Q : Int64 → MI → MJ → Prop} (h : wX12_comesBy (wg E) a1 I J Q) : Met l yX12_comesBy (wsM yX12_comesBy cX12_comesBy 5 ((Option.some FieldType.long))) (rmO 1 21) (va_Pc [.ref (wa E 17 0), .int a1] (Wp E I J)) (QL E Q) 0 0 (AA E) := by
  refine m_entry mbX12_comesBy (Nat.le_of_ble_eq_true rfl) ?_
  intro p e s m args below meth c X ls hW hl
  have X : Cx E cX12_comesBy 5 RX12 ((Option.some FieldType.long)) p s m args c meth := X
  have hx := X.1.1
  have hb := X.1.2.1
  have hl : lv_has ls 5 [(0, .ref (wa E 17 0)), (1, .int a1)] := hl
  refine lv_lconst (v := 1) hx hb dX12_comesBy_0 (by decide) ?_
  refine lv_lstore_n (lv' := [(2, .long 1), (0, .ref (wa E 17 0)), (1, .int a1)]) hx hb dX12_comesBy_1 rfl hl (by decide) rfl (fun ls hl => ?_)
  refine lv_iconst (v := 0) hx hb dX12_comesBy_2 (by decide) ?_
  refine lv_istore (lv' := [(4, .int 0), (2, .long 1), (0, .ref (wa E 17 0)), (1, .int a1)]) hx hb dX12_comesBy_3 hl (by decide) rfl (fun ls hl => ?_)
  obtain ⟨n5, h⟩ := h
  exact bX12_comesBy_5 X n5 a1 1 0 _ _ _ _ _  h hW (lv_sub hl [2, 3, 1, 0] rfl)
def wX12_large_b124 (g : GS) (ko50 : Int32 → Int32 → Int32 → Int64 → Int32 → MI → MJ → Prop) (Q : Int64 → MI → MJ → Prop) (v1 : Int32) (v2 : Int32) (v3 : Int32) (v4 : Int64) (v6 : Int32) (I : MI) (J : MJ) : Prop :=
  ko50 v1 v2 v3 v4 (v6 + 1) I J
set_option maxHeartbeats 4000000 in
set_option maxRecDepth 100000 in
theorem bX12_large_124 {p : Program} {l : Launch} {e : Env} {s : State} {m : MethodId} {args : Array Value} {below : List Frame} {meth : Method} {c : Code} {E : WE} {Q : Int64 → MI → MJ → Prop} {ko50 : Int32 → Int32 → Int32 → Int64 → Int32 → MI → MJ → Prop} (X : Cx E cX12_large 10 RX12 ((Option.some FieldType.long)) p s m args c meth)
    (hk50 : ∀ (v1 : Int32) (v2 : Int32) (v3 : Int32) (v4 : Int64) (v6 : Int32) (I : MI) (J : MJ) (H : Heap) (locs : List Loc) (ls : Array Slot), ko50 v1 v2 v3 v4 v6 I J → Wd E I J s H locs → lv_has ls 10 [(0, .ref (wa E 17 0)), (1, .int v1), (2, .int v2), (3, .int v3), (4, .long v4), (6, .int v6)] → W p l e (rmO 3 80) s m args below meth c H locs 0 0 (MQ below (QL E Q) args s 0 0 (AA E)) (F0 m 50 ls [])) : ∀ (v1 : Int32) (v2 : Int32) (v3 : Int32) (v4 : Int64) (v6 : Int32) (I : MI) (J : MJ) (H : Heap) (locs : List Loc) (ls : Array Slot), wX12_large_b124 (wg E) ko50 Q v1 v2 v3 v4 v6 I J → Wd E I J s H locs → lv_has ls 10 [(0, .ref (wa E 17 0)), (1, .int v1), (2, .int v2), (3, .int v3), (4, .long v4), (6, .int v6)] → W p l e (rmO 3 80) s m args below meth c H locs 0 0 (MQ below (QL E Q) args s 0 0 (AA E)) (F0 m 124 ls []) := by
  have hx := X.1.1
  have hb := X.1.2.1
  intro v1 v2 v3 v4 v6 I J H locs ls h hW hl
  refine lv_iinc (v := v6 + 1) (lv' := [(6, .int (v6 + 1)), (0, .ref (wa E 17 0)), (1, .int v1), (2, .int v2), (3, .int v3), (4, .long v4)]) hx hb dX12_large_124 hl (k := 5) rfl rfl (by decide) rfl (fun ls hl => ?_)
  refine lv_goto (tgt := 50) hx hb dX12_large_127 (by decide) ?_
  exact hk50 v1 v2 v3 v4 (v6 + 1) _ _ _ _ _  h hW (lv_sub hl [1, 2, 3, 4, 5, 0] rfl)
def wX12_large_b50 (g : GS) (Q : Int64 → MI → MJ → Prop) : Nat → Int32 → Int32 → Int32 → Int64 → Int32 → MI → MJ → Prop
  | 0, _, _, _, _, _, _, _ => False
  | n + 1, v1, v2, v3, v4, v6, I, J => (((1 <<< ((I 17 0 0) &&& 31)) ≤ v6 → wX12_tens g (2 * (I 17 0 0)) I J (fun r138 I138 J138 => wX12_lowest g v4 r138 v3 I138 J138 (fun r142 I142 J142 => Q r142 I142 J142))) ∧ (¬ (1 <<< ((I 17 0 0) &&& 31)) ≤ v6 → wX12_ones g v6 I J (fun r63 I63 J63 => vp_in v1 6 ∧ (((r63 < (I63 25 0 (Int32.toNatClampNeg v1)) → wX12_large_b124 g (fun v1 v2 v3 v4 v6 I J => wX12_large_b50 g Q n v1 v2 v3 v4 v6 I J) Q v1 v2 v3 v4 v6 I63 J63) ∧ (¬ r63 < (I63 25 0 (Int32.toNatClampNeg v1)) → wX12_tens g r63 I63 J63 (fun r81 I81 J81 => wX12_shutBy g v1 v2 v6 (I81 17 0 0) I81 J81 (fun r93 I93 J93 => wX12_comesBy g v6 I93 J93 (fun r104 I104 J104 => wX12_tens g ((I104 17 0 0) - r63) I104 J104 (fun r117 I117 J117 => wX12_large_b124 g (fun v1 v2 v3 v4 v6 I J => wX12_large_b50 g Q n v1 v2 v3 v4 v6 I J) Q v1 v2 v3 (v4 + ((r104 * (r81 - r93)) * r117)) v6 I117 J117))))))))))
set_option maxHeartbeats 4000000 in
set_option maxRecDepth 100000 in
theorem bX12_large_50 {p : Program} {l : Launch} {e : Env} {s : State} {m : MethodId} {args : Array Value} {below : List Frame} {meth : Method} {c : Code} {E : WE} {Q : Int64 → MI → MJ → Prop} (X : Cx E cX12_large 10 RX12 ((Option.some FieldType.long)) p s m args c meth) (n : Nat) : ∀ (v1 : Int32) (v2 : Int32) (v3 : Int32) (v4 : Int64) (v6 : Int32) (I : MI) (J : MJ) (H : Heap) (locs : List Loc) (ls : Array Slot), wX12_large_b50 (wg E) Q n v1 v2 v3 v4 v6 I J → Wd E I J s H locs → lv_has ls 10 [(0, .ref (wa E 17 0)), (1, .int v1), (2, .int v2), (3, .int v3), (4, .long v4), (6, .int v6)] → W p l e (rmO 3 80) s m args below meth c H locs 0 0 (MQ below (QL E Q) args s 0 0 (AA E)) (F0 m 50 ls []) := by
  have hx := X.1.1
  have hb := X.1.2.1
  induction n with
  | zero => intro v1 v2 v3 v4 v6 I J H locs ls h hW hl; exact h.elim
  | succ n ih =>
    intro v1 v2 v3 v4 v6 I J H locs ls h hW hl
    refine lv_iload hx hb dX12_large_50 (lv_at hl 5 rfl) ?_
    refine lv_iconst (v := 1) hx hb dX12_large_52 (by decide) ?_
    refine lv_aload_n hx hb dX12_large_53 rfl (lv_at hl 0 rfl) ?_
    refine r_get X hW 0 (okS hW sc17_0) rfl rfl inX12 (Nat.le_of_ble_eq_true rfl) tw834 rfl dX12_large_54 ?_
    refine lv_ishl hx hb dX12_large_57 ?_
    refine lv_icmp_ge (tgt := 130) hx hb dX12_large_58 (by decide) (fun c58 => ?_) (fun c58 => ?_)
    · have h := h.1 c58
      refine lv_lload hx hb dX12_large_130 (lv_at hl 4 rfl) ?_
      refine lv_iconst (v := 2) hx hb dX12_large_132 (by decide) ?_
      refine lv_aload_n hx hb dX12_large_133 rfl (lv_at hl 0 rfl) ?_
      refine r_get X hW 0 (okS hW sc17_0) rfl rfl inX12 (Nat.le_of_ble_eq_true rfl) tw834 rfl dX12_large_134 ?_
      refine lv_imul hx hb dX12_large_137 ?_
      refine af_l hW (rn_S X hW (As := [.int (2 * (I 17 0 0))]) (rest := [.long v4]) (kX12_tens h) mbX12_tens tw1080 tw1081 rfl hl.1 (Nat.le_of_ble_eq_true rfl) ⟨(Nat.le_of_ble_eq_true rfl), (Nat.le_of_ble_eq_true rfl)⟩ dX12_large_138) (fun r138 I138 J138 H locs h hW => ?_)
      refine lv_iload_n hx hb dX12_large_141 rfl (lv_at hl 3 rfl) ?_
      refine af_l hW (rn_S X hW (As := [.long v4, .long r138, .int v3]) (rest := []) (kX12_lowest h) mbX12_lowest tw1084 tw1085 rfl hl.1 (Nat.le_of_ble_eq_true rfl) ⟨(Nat.le_of_ble_eq_true rfl), (Nat.le_of_ble_eq_true rfl)⟩ dX12_large_142) (fun r142 I142 J142 H locs h hW => ?_)
      exact e_l X hW h dX12_large_145
    · have h := h.2 c58
      refine lv_iload hx hb dX12_large_61 (lv_at hl 5 rfl) ?_
      refine af_i hW (rn_S X hW (As := [.int v6]) (rest := []) (kX12_ones h) mbX12_ones tw1058 tw1059 rfl hl.1 (Nat.le_of_ble_eq_true rfl) ⟨(Nat.le_of_ble_eq_true rfl), (Nat.le_of_ble_eq_true rfl)⟩ dX12_large_63) (fun r63 I63 J63 H locs h hW => ?_)
      refine lv_istore (lv' := [(7, .int r63), (0, .ref (wa E 17 0)), (1, .int v1), (2, .int v2), (3, .int v3), (4, .long v4), (6, .int v6)]) hx hb dX12_large_66 hl (by decide) rfl (fun ls hl => ?_)
      refine lv_iload hx hb dX12_large_68 (lv_at hl 0 rfl) ?_
      refine lv_aload_n hx hb dX12_large_70 rfl (lv_at hl 1 rfl) ?_
      refine r_get X hW 10 (okS hW sc17_0) rfl rfl inX12 (Nat.le_of_ble_eq_true rfl) tw844 rfl dX12_large_71 ?_
      refine lv_iload_n hx hb dX12_large_74 rfl (lv_at hl 2 rfl) ?_
      refine r_iald X hW (okS hW sc25_0) rfl h.1 dX12_large_75 ?_
      have h := h.2
      refine lv_icmp_lt (tgt := 124) hx hb dX12_large_76 (by decide) (fun c76 => ?_) (fun c76 => ?_)
      · have h := h.1 c76
        exact bX12_large_124 X ih v1 v2 v3 v4 v6 _ _ _ _ _  h hW (lv_sub hl [1, 2, 3, 4, 5, 6] rfl)
      · have h := h.2 c76
        refine lv_iload hx hb dX12_large_79 (lv_at hl 0 rfl) ?_
        refine af_l hW (rn_S X hW (As := [.int r63]) (rest := []) (kX12_tens h) mbX12_tens tw1080 tw1081 rfl hl.1 (Nat.le_of_ble_eq_true rfl) ⟨(Nat.le_of_ble_eq_true rfl), (Nat.le_of_ble_eq_true rfl)⟩ dX12_large_81) (fun r81 I81 J81 H locs h hW => ?_)
        refine lv_aload_n hx hb dX12_large_84 rfl (lv_at hl 1 rfl) ?_
        refine lv_iload_n hx hb dX12_large_85 rfl (lv_at hl 2 rfl) ?_
        refine lv_iload_n hx hb dX12_large_86 rfl (lv_at hl 3 rfl) ?_
        refine lv_iload hx hb dX12_large_87 (lv_at hl 6 rfl) ?_
        refine lv_aload_n hx hb dX12_large_89 rfl (lv_at hl 1 rfl) ?_
        refine r_get X hW 0 (okS hW sc17_0) rfl rfl inX12 (Nat.le_of_ble_eq_true rfl) tw834 rfl dX12_large_90 ?_
        refine af_l hW (rn_V X hW (As := [.int v1, .int v2, .int v6, .int (I81 17 0 0)]) (rest := [.long r81]) (okS hW sc17_0) rfl rfl (kX12_shutBy h) mbX12_shutBy tw1097 tw1099 tp41 rfl hl.1 (Nat.le_of_ble_eq_true rfl) ⟨(Nat.le_of_ble_eq_true rfl), (Nat.le_of_ble_eq_true rfl)⟩ dX12_large_93) (fun r93 I93 J93 H locs h hW => ?_)
        refine lv_lsub hx hb dX12_large_96 ?_
        refine lv_lstore (lv' := [(8, .long (r81 - r93)), (7, .int r63), (0, .ref (wa E 17 0)), (1, .int v1), (2, .int v2), (3, .int v3), (4, .long v4), (6, .int v6)]) hx hb dX12_large_97 hl (by decide) rfl (fun ls hl => ?_)
        refine lv_lload hx hb dX12_large_99 (lv_at hl 6 rfl) ?_
        refine lv_aload_n hx hb dX12_large_101 rfl (lv_at hl 2 rfl) ?_
        refine lv_iload hx hb dX12_large_102 (lv_at hl 7 rfl) ?_
        refine af_l hW (rn_V X hW (As := [.int v6]) (rest := [.long v4]) (okS hW sc17_0) rfl rfl (kX12_comesBy h) mbX12_comesBy tw1110 tw1112 tp43 rfl hl.1 (Nat.le_of_ble_eq_true rfl) ⟨(Nat.le_of_ble_eq_true rfl), (Nat.le_of_ble_eq_true rfl)⟩ dX12_large_104) (fun r104 I104 J104 H locs h hW => ?_)
        refine lv_lload hx hb dX12_large_107 (lv_at hl 0 rfl) ?_
        refine lv_lmul hx hb dX12_large_109 ?_
        refine lv_aload_n hx hb dX12_large_110 rfl (lv_at hl 2 rfl) ?_
        refine r_get X hW 0 (okS hW sc17_0) rfl rfl inX12 (Nat.le_of_ble_eq_true rfl) tw834 rfl dX12_large_111 ?_
        refine lv_iload hx hb dX12_large_114 (lv_at hl 1 rfl) ?_
        refine lv_isub hx hb dX12_large_116 ?_
        refine af_l hW (rn_S X hW (As := [.int ((I104 17 0 0) - r63)]) (rest := [.long (r104 * (r81 - r93)), .long v4]) (kX12_tens h) mbX12_tens tw1080 tw1081 rfl hl.1 (Nat.le_of_ble_eq_true rfl) ⟨(Nat.le_of_ble_eq_true rfl), (Nat.le_of_ble_eq_true rfl)⟩ dX12_large_117) (fun r117 I117 J117 H locs h hW => ?_)
        refine lv_lmul hx hb dX12_large_120 ?_
        refine lv_ladd hx hb dX12_large_121 ?_
        refine lv_lstore (lv' := [(4, .long (v4 + ((r104 * (r81 - r93)) * r117))), (8, .long (r81 - r93)), (7, .int r63), (0, .ref (wa E 17 0)), (1, .int v1), (2, .int v2), (3, .int v3), (6, .int v6)]) hx hb dX12_large_122 hl (by decide) rfl (fun ls hl => ?_)
        exact bX12_large_124 X ih v1 v2 v3 (v4 + ((r104 * (r81 - r93)) * r117)) v6 _ _ _ _ _  h hW (lv_sub hl [3, 4, 5, 6, 0, 7] rfl)
def wX12_large (g : GS) (a1 : Int32) (a2 : Int32) (a3 : Int32) (I : MI) (J : MJ) (Q : Int64 → MI → MJ → Prop) : Prop :=
  wX12_areThere g a1 a2 I J (fun r3 I3 J3 => ((¬ r3 = 0 → wX12_isPart g a3 I3 J3 (fun r14 I14 J14 => ((¬ r14 = 0 → vp_in a1 6 ∧ (((¬ (I14 26 0 (Int32.toNatClampNeg a1)) = 0 → Q ((-103)) I14 J14) ∧ ((I14 26 0 (Int32.toNatClampNeg a1)) = 0 → ((¬ (I14 17 0 0) = 0 → ∃ n50, wX12_large_b50 g Q n50 a1 a2 a3 0 1 I14 J14) ∧ ((I14 17 0 0) = 0 → Q ((-103)) I14 J14)))))) ∧ (r14 = 0 → Q ((-102)) I14 J14)))) ∧ (r3 = 0 → Q ((-101)) I3 J3)))
theorem mbX12_large : MB yX12_large cX12_large 10 ((Option.some FieldType.long)) 3 := ⟨tw1108, tw7, ⟨by decide, by decide⟩, by decide +kernel, by decide +kernel⟩
set_option maxHeartbeats 4000000 in
set_option maxRecDepth 100000 in
theorem kX12_large {l : Launch} {E : WE} {a1 : Int32} {a2 : Int32} {a3 : Int32} {I : MI} {J : MJ} {Q : Int64 → MI → MJ → Prop} (h : wX12_large (wg E) a1 a2 a3 I J Q) : Met l yX12_large (wsM yX12_large cX12_large 10 ((Option.some FieldType.long))) (rmO 3 80) (va_Pc [.ref (wa E 17 0), .int a1, .int a2, .int a3] (Wp E I J)) (QL E Q) 0 0 (AA E) := by
  refine m_entry mbX12_large (Nat.le_of_ble_eq_true rfl) ?_
  intro p e s m args below meth c X ls hW hl
  have X : Cx E cX12_large 10 RX12 ((Option.some FieldType.long)) p s m args c meth := X
  have hx := X.1.1
  have hb := X.1.2.1
  have hl : lv_has ls 10 [(0, .ref (wa E 17 0)), (1, .int a1), (2, .int a2), (3, .int a3)] := hl
  refine lv_aload_n hx hb dX12_large_0 rfl (lv_at hl 0 rfl) ?_
  refine lv_iload_n hx hb dX12_large_1 rfl (lv_at hl 1 rfl) ?_
  refine lv_iload_n hx hb dX12_large_2 rfl (lv_at hl 2 rfl) ?_
  refine af_i hW (rn_V X hW (As := [.int a1, .int a2]) (rest := []) (okS hW sc17_0) rfl rfl (kX12_areThere h) mbX12_areThere tw1069 tw1071 tp38 rfl hl.1 (Nat.le_of_ble_eq_true rfl) ⟨(Nat.le_of_ble_eq_true rfl), (Nat.le_of_ble_eq_true rfl)⟩ dX12_large_3) (fun r3 I3 J3 H locs h hW => ?_)
  refine lv_if_ne (tgt := 13) hx hb dX12_large_6 (by decide) (fun c6 => ?_) (fun c6 => ?_)
  · have h := h.1 c6
    refine lv_iload_n hx hb dX12_large_13 rfl (lv_at hl 3 rfl) ?_
    refine af_i hW (rn_S X hW (As := [.int a3]) (rest := []) (kX12_isPart h) mbX12_isPart tw1073 tw1074 rfl hl.1 (Nat.le_of_ble_eq_true rfl) ⟨(Nat.le_of_ble_eq_true rfl), (Nat.le_of_ble_eq_true rfl)⟩ dX12_large_14) (fun r14 I14 J14 H locs h hW => ?_)
    refine lv_if_ne (tgt := 24) hx hb dX12_large_17 (by decide) (fun c17 => ?_) (fun c17 => ?_)
    · have h := h.1 c17
      refine lv_aload_n hx hb dX12_large_24 rfl (lv_at hl 0 rfl) ?_
      refine r_get X hW 11 (okS hW sc17_0) rfl rfl inX12 (Nat.le_of_ble_eq_true rfl) tw845 rfl dX12_large_25 ?_
      refine lv_iload_n hx hb dX12_large_28 rfl (lv_at hl 1 rfl) ?_
      refine r_zald X hW (okS hW sc26_0) rfl h.1 dX12_large_29 ?_
      have h := h.2
      refine lv_if_ne (tgt := 40) hx hb dX12_large_30 (by decide) (fun c30 => ?_) (fun c30 => ?_)
      · have h := h.1 c30
        refine lv_ldc2 hx hb X.1.2.2.2.1 (X.1.2.2.2.2 _ tw1109) dX12_large_40 ?_
        exact e_l X hW h dX12_large_43
      · have h := h.2 c30
        refine lv_aload_n hx hb dX12_large_33 rfl (lv_at hl 0 rfl) ?_
        refine r_get X hW 0 (okS hW sc17_0) rfl rfl inX12 (Nat.le_of_ble_eq_true rfl) tw834 rfl dX12_large_34 ?_
        refine lv_if_ne (tgt := 44) hx hb dX12_large_37 (by decide) (fun c37 => ?_) (fun c37 => ?_)
        · have h := h.1 c37
          refine lv_lconst (v := 0) hx hb dX12_large_44 (by decide) ?_
          refine lv_lstore (lv' := [(4, .long 0), (0, .ref (wa E 17 0)), (1, .int a1), (2, .int a2), (3, .int a3)]) hx hb dX12_large_45 hl (by decide) rfl (fun ls hl => ?_)
          refine lv_iconst (v := 1) hx hb dX12_large_47 (by decide) ?_
          refine lv_istore (lv' := [(6, .int 1), (4, .long 0), (0, .ref (wa E 17 0)), (1, .int a1), (2, .int a2), (3, .int a3)]) hx hb dX12_large_48 hl (by decide) rfl (fun ls hl => ?_)
          obtain ⟨n50, h⟩ := h
          exact bX12_large_50 X n50 a1 a2 a3 0 1 _ _ _ _ _  h hW (lv_sub hl [2, 3, 4, 5, 1, 0] rfl)
        · have h := h.2 c37
          refine lv_ldc2 hx hb X.1.2.2.2.1 (X.1.2.2.2.2 _ tw1109) dX12_large_40 ?_
          exact e_l X hW h dX12_large_43
    · have h := h.2 c17
      refine lv_ldc2 hx hb X.1.2.2.2.1 (X.1.2.2.2.2 _ tw1092) dX12_large_20 ?_
      exact e_l X hW h dX12_large_23
  · have h := h.2 c6
    refine lv_ldc2 hx hb X.1.2.2.2.1 (X.1.2.2.2.2 _ tw1091) dX12_large_9 ?_
    exact e_l X hW h dX12_large_12
