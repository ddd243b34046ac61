def wX12_fault (g : GS) (I : MI) (J : MJ) (Q : Int32 → MI → MJ → Prop) : Prop :=
  wX12_readPage g I J (fun I1 J1 => Q (I1 17 0 20) I1 J1)
theorem mbX12_fault : MB yX12_fault cX12_fault 1 ((Option.some FieldType.int)) 0 := ⟨tw960, tw7, ⟨by decide, by decide⟩, by decide +kernel, by decide +kernel⟩
set_option maxHeartbeats 4000000 in
set_option maxRecDepth 100000 in
theorem kX12_fault {l : Launch} {E : WE} {I : MI} {J : MJ} {Q : Int32 → MI → MJ → Prop} (h : wX12_fault (wg E) I J Q) : Met l yX12_fault (wsM yX12_fault cX12_fault 1 ((Option.some FieldType.int))) (rmO 5 110) (va_Pc [.ref (wa E 17 0)] (Wp E I J)) (QI E Q) 0 0 (AA E) := by
  refine m_entry mbX12_fault (Nat.le_of_ble_eq_true rfl) ?_
  intro p e s m args below meth c X ls hW hl
  have X : Cx E cX12_fault 1 RX12 ((Option.some FieldType.int)) p s m args c meth := X
  have hx := X.1.1
  have hb := X.1.2.1
  have hl : lv_has ls 1 [(0, .ref (wa E 17 0))] := hl
  refine lv_aload_n hx hb dX12_fault_0 rfl (lv_at hl 0 rfl) ?_
  refine af_v hW (rn_V X hW (As := []) (rest := []) (okS hW sc17_0) rfl rfl (kX12_readPage h) mbX12_readPage tw961 tw963 tp25 rfl hl.1 (Nat.le_of_ble_eq_true rfl) ⟨(Nat.le_of_ble_eq_true rfl), (Nat.le_of_ble_eq_true rfl)⟩ dX12_fault_1) (fun I1 J1 H locs h hW => ?_)
  refine lv_aload_n hx hb dX12_fault_4 rfl (lv_at hl 0 rfl) ?_
  refine r_get X hW 20 (okS hW sc17_0) rfl rfl inX12 (Nat.le_of_ble_eq_true rfl) tw854 rfl dX12_fault_5 ?_
  exact e_i X hW h dX12_fault_8
def wX12_rule (g : GS) (I : MI) (J : MJ) (Q : Int32 → MI → MJ → Prop) : Prop :=
  wX12_readPage g I J (fun I1 J1 => ((¬ (I1 17 0 21) = 0 → ((¬ (I1 17 0 7) = 6 → vp_in (I1 17 0 7) 6 ∧ (vp_in ((u3 I1 23 0 (upd (I1 23 0) (Int32.toNatClampNeg (I1 17 0 7)) (I1 17 0 22))) 17 0 7) 6 ∧ (∀ I51 : MI, I51 = u3 (u3 I1 23 0 (upd (I1 23 0) (Int32.toNatClampNeg (I1 17 0 7)) (I1 17 0 22))) 24 0 (upd ((u3 I1 23 0 (upd (I1 23 0) (Int32.toNatClampNeg (I1 17 0 7)) (I1 17 0 22))) 24 0) (Int32.toNatClampNeg ((u3 I1 23 0 (upd (I1 23 0) (Int32.toNatClampNeg (I1 17 0 7)) (I1 17 0 22))) 17 0 7)) ((u3 I1 23 0 (upd (I1 23 0) (Int32.toNatClampNeg (I1 17 0 7)) (I1 17 0 22))) 17 0 23)) → vp_in (I51 17 0 7) 6 ∧ (vp_in ((u3 I51 25 0 (upd (I51 25 0) (Int32.toNatClampNeg (I51 17 0 7)) (I51 17 0 24))) 17 0 7) 6 ∧ (∀ I77 : MI, I77 = u3 (u3 I51 25 0 (upd (I51 25 0) (Int32.toNatClampNeg (I51 17 0 7)) (I51 17 0 24))) 26 0 (upd ((u3 I51 25 0 (upd (I51 25 0) (Int32.toNatClampNeg (I51 17 0 7)) (I51 17 0 24))) 26 0) (Int32.toNatClampNeg ((u3 I51 25 0 (upd (I51 25 0) (Int32.toNatClampNeg (I51 17 0 7)) (I51 17 0 24))) 17 0 7)) (vp_nar .boolean ((u3 I51 25 0 (upd (I51 25 0) (Int32.toNatClampNeg (I51 17 0 7)) (I51 17 0 24))) 17 0 25))) → vp_in (I77 17 0 7) 6 ∧ (∀ I98 : MI, I98 = u3 (u3 I77 27 0 (upd (I77 27 0) (Int32.toNatClampNeg (I77 17 0 7)) (vp_nar .boolean (I77 17 0 26)))) 17 0 (upd ((u3 I77 27 0 (upd (I77 27 0) (Int32.toNatClampNeg (I77 17 0 7)) (vp_nar .boolean (I77 17 0 26)))) 17 0) 7 (((u3 I77 27 0 (upd (I77 27 0) (Int32.toNatClampNeg (I77 17 0 7)) (vp_nar .boolean (I77 17 0 26)))) 17 0 7) + 1)) → Q (((u3 I98 17 0 (upd (I98 17 0) 13 0)) 17 0 7) - 1) (u3 I98 17 0 (upd (I98 17 0) 13 0)) J1)))))) ∧ ((I1 17 0 7) = 6 → Q ((-104)) I1 J1))) ∧ ((I1 17 0 21) = 0 → Q ((-103)) I1 J1)))
theorem mbX12_rule : MB yX12_rule cX12_rule 1 ((Option.some FieldType.int)) 0 := ⟨tw982, tw7, ⟨by decide, by decide⟩, by decide +kernel, by decide +kernel⟩
set_option maxHeartbeats 4000000 in
set_option maxRecDepth 100000 in
theorem kX12_rule {l : Launch} {E : WE} {I : MI} {J : MJ} {Q : Int32 → MI → MJ → Prop} (h : wX12_rule (wg E) I J Q) : Met l yX12_rule (wsM yX12_rule cX12_rule 1 ((Option.some FieldType.int))) (rmO 5 110) (va_Pc [.ref (wa E 17 0)] (Wp E I J)) (QI E Q) 0 0 (AA E) := by
  refine m_entry mbX12_rule (Nat.le_of_ble_eq_true rfl) ?_
  intro p e s m args below meth c X ls hW hl
  have X : Cx E cX12_rule 1 RX12 ((Option.some FieldType.int)) p s m args c meth := X
  have hx := X.1.1
  have hb := X.1.2.1
  have hl : lv_has ls 1 [(0, .ref (wa E 17 0))] := hl
  refine lv_aload_n hx hb dX12_rule_0 rfl (lv_at hl 0 rfl) ?_
  refine af_v hW (rn_V X hW (As := []) (rest := []) (okS hW sc17_0) rfl rfl (kX12_readPage h) mbX12_readPage tw961 tw963 tp25 rfl hl.1 (Nat.le_of_ble_eq_true rfl) ⟨(Nat.le_of_ble_eq_true rfl), (Nat.le_of_ble_eq_true rfl)⟩ dX12_rule_1) (fun I1 J1 H locs h hW => ?_)
  refine lv_aload_n hx hb dX12_rule_4 rfl (lv_at hl 0 rfl) ?_
  refine r_get X hW 21 (okS hW sc17_0) rfl rfl inX12 (Nat.le_of_ble_eq_true rfl) tw855 rfl dX12_rule_5 ?_
  refine lv_if_ne (tgt := 14) hx hb dX12_rule_8 (by decide) (fun c8 => ?_) (fun c8 => ?_)
  · have h := h.1 c8
    refine lv_aload_n hx hb dX12_rule_14 rfl (lv_at hl 0 rfl) ?_
    refine r_get X hW 7 (okS hW sc17_0) rfl rfl inX12 (Nat.le_of_ble_eq_true rfl) tw841 rfl dX12_rule_15 ?_
    refine lv_bipush (v := 6) hx hb dX12_rule_18 (by decide) ?_
    refine lv_icmp_ne (tgt := 26) hx hb dX12_rule_20 (by decide) (fun c20 => ?_) (fun c20 => ?_)
    · have h := h.1 c20
      refine lv_aload_n hx hb dX12_rule_26 rfl (lv_at hl 0 rfl) ?_
      refine r_get X hW 8 (okS hW sc17_0) rfl rfl inX12 (Nat.le_of_ble_eq_true rfl) tw842 rfl dX12_rule_27 ?_
      refine lv_aload_n hx hb dX12_rule_30 rfl (lv_at hl 0 rfl) ?_
      refine r_get X hW 7 (okS hW sc17_0) rfl rfl inX12 (Nat.le_of_ble_eq_true rfl) tw841 rfl dX12_rule_31 ?_
      refine lv_aload_n hx hb dX12_rule_34 rfl (lv_at hl 0 rfl) ?_
      refine r_get X hW 22 (okS hW sc17_0) rfl rfl inX12 (Nat.le_of_ble_eq_true rfl) tw856 rfl dX12_rule_35 ?_
      refine r_iast X hW (okS hW sc23_0) (fun _ => rfl) h.1 dX12_rule_38 (fun H locs hW => ?_)
      have h := h.2
      refine lv_aload_n hx hb dX12_rule_39 rfl (lv_at hl 0 rfl) ?_
      refine r_get X hW 9 (okS hW sc17_0) rfl rfl inX12 (Nat.le_of_ble_eq_true rfl) tw843 rfl dX12_rule_40 ?_
      refine lv_aload_n hx hb dX12_rule_43 rfl (lv_at hl 0 rfl) ?_
      refine r_get X hW 7 (okS hW sc17_0) rfl rfl inX12 (Nat.le_of_ble_eq_true rfl) tw841 rfl dX12_rule_44 ?_
      refine lv_aload_n hx hb dX12_rule_47 rfl (lv_at hl 0 rfl) ?_
      refine r_get X hW 23 (okS hW sc17_0) rfl rfl inX12 (Nat.le_of_ble_eq_true rfl) tw857 rfl dX12_rule_48 ?_
      refine r_iast X hW (okS hW sc24_0) (fun _ => rfl) h.1 dX12_rule_51 (fun H locs hW => ?_)
      have h := h.2
      obtain ⟨I51, eI51⟩ : ∃ z : MI, z = u3 (u3 I1 23 0 (upd (I1 23 0) (Int32.toNatClampNeg (I1 17 0 7)) (I1 17 0 22))) 24 0 (upd ((u3 I1 23 0 (upd (I1 23 0) (Int32.toNatClampNeg (I1 17 0 7)) (I1 17 0 22))) 24 0) (Int32.toNatClampNeg ((u3 I1 23 0 (upd (I1 23 0) (Int32.toNatClampNeg (I1 17 0 7)) (I1 17 0 22))) 17 0 7)) ((u3 I1 23 0 (upd (I1 23 0) (Int32.toNatClampNeg (I1 17 0 7)) (I1 17 0 22))) 17 0 23)) := ⟨_, rfl⟩
      rw [← eI51] at hW
      have h := h I51 eI51
      refine lv_aload_n hx hb dX12_rule_52 rfl (lv_at hl 0 rfl) ?_
      refine r_get X hW 10 (okS hW sc17_0) rfl rfl inX12 (Nat.le_of_ble_eq_true rfl) tw844 rfl dX12_rule_53 ?_
      refine lv_aload_n hx hb dX12_rule_56 rfl (lv_at hl 0 rfl) ?_
      refine r_get X hW 7 (okS hW sc17_0) rfl rfl inX12 (Nat.le_of_ble_eq_true rfl) tw841 rfl dX12_rule_57 ?_
      refine lv_aload_n hx hb dX12_rule_60 rfl (lv_at hl 0 rfl) ?_
      refine r_get X hW 24 (okS hW sc17_0) rfl rfl inX12 (Nat.le_of_ble_eq_true rfl) tw858 rfl dX12_rule_61 ?_
      refine r_iast X hW (okS hW sc25_0) (fun _ => rfl) h.1 dX12_rule_64 (fun H locs hW => ?_)
      have h := h.2
      refine lv_aload_n hx hb dX12_rule_65 rfl (lv_at hl 0 rfl) ?_
      refine r_get X hW 11 (okS hW sc17_0) rfl rfl inX12 (Nat.le_of_ble_eq_true rfl) tw845 rfl dX12_rule_66 ?_
      refine lv_aload_n hx hb dX12_rule_69 rfl (lv_at hl 0 rfl) ?_
      refine r_get X hW 7 (okS hW sc17_0) rfl rfl inX12 (Nat.le_of_ble_eq_true rfl) tw841 rfl dX12_rule_70 ?_
      refine lv_aload_n hx hb dX12_rule_73 rfl (lv_at hl 0 rfl) ?_
      refine r_get X hW 25 (okS hW sc17_0) rfl rfl inX12 (Nat.le_of_ble_eq_true rfl) tw859 rfl dX12_rule_74 ?_
      refine r_zast X hW (okS hW sc26_0) (fun _ => rfl) h.1 dX12_rule_77 (fun H locs hW => ?_)
      have h := h.2
      obtain ⟨I77, eI77⟩ : ∃ z : MI, z = u3 (u3 I51 25 0 (upd (I51 25 0) (Int32.toNatClampNeg (I51 17 0 7)) (I51 17 0 24))) 26 0 (upd ((u3 I51 25 0 (upd (I51 25 0) (Int32.toNatClampNeg (I51 17 0 7)) (I51 17 0 24))) 26 0) (Int32.toNatClampNeg ((u3 I51 25 0 (upd (I51 25 0) (Int32.toNatClampNeg (I51 17 0 7)) (I51 17 0 24))) 17 0 7)) (vp_nar .boolean ((u3 I51 25 0 (upd (I51 25 0) (Int32.toNatClampNeg (I51 17 0 7)) (I51 17 0 24))) 17 0 25))) := ⟨_, rfl⟩
      rw [← eI77] at hW
      have h := h I77 eI77
      refine lv_aload_n hx hb dX12_rule_78 rfl (lv_at hl 0 rfl) ?_
      refine r_get X hW 12 (okS hW sc17_0) rfl rfl inX12 (Nat.le_of_ble_eq_true rfl) tw846 rfl dX12_rule_79 ?_
      refine lv_aload_n hx hb dX12_rule_82 rfl (lv_at hl 0 rfl) ?_
      refine r_get X hW 7 (okS hW sc17_0) rfl rfl inX12 (Nat.le_of_ble_eq_true rfl) tw841 rfl dX12_rule_83 ?_
      refine lv_aload_n hx hb dX12_rule_86 rfl (lv_at hl 0 rfl) ?_
      refine r_get X hW 26 (okS hW sc17_0) rfl rfl inX12 (Nat.le_of_ble_eq_true rfl) tw860 rfl dX12_rule_87 ?_
      refine r_zast X hW (okS hW sc27_0) (fun _ => rfl) h.1 dX12_rule_90 (fun H locs hW => ?_)
      have h := h.2
      refine lv_aload_n hx hb dX12_rule_91 rfl (lv_at hl 0 rfl) ?_
      refine lv_dup hx hb dX12_rule_92 rfl ?_
      refine r_get X hW 7 (okS hW sc17_0) rfl rfl inX12 (Nat.le_of_ble_eq_true rfl) tw841 rfl dX12_rule_93 ?_
      refine lv_iconst (v := 1) hx hb dX12_rule_96 (by decide) ?_
      refine lv_iadd hx hb dX12_rule_97 ?_
      refine r_putI X hW 7 (okS hW sc17_0) rfl rfl inX12 tyX12 tyX12_ok nmX12 (Nat.le_of_ble_eq_true rfl) tw841 rfl rfl rfl rfl (Nat.le_of_ble_eq_true rfl) rfl dX12_rule_98 (fun H locs hW => ?_)
      obtain ⟨I98, eI98⟩ : ∃ z : MI, z = u3 (u3 I77 27 0 (upd (I77 27 0) (Int32.toNatClampNeg (I77 17 0 7)) (vp_nar .boolean (I77 17 0 26)))) 17 0 (upd ((u3 I77 27 0 (upd (I77 27 0) (Int32.toNatClampNeg (I77 17 0 7)) (vp_nar .boolean (I77 17 0 26)))) 17 0) 7 (((u3 I77 27 0 (upd (I77 27 0) (Int32.toNatClampNeg (I77 17 0 7)) (vp_nar .boolean (I77 17 0 26)))) 17 0 7) + 1)) := ⟨_, rfl⟩
      rw [← eI98] at hW
      have h := h I98 eI98
      refine lv_aload_n hx hb dX12_rule_101 rfl (lv_at hl 0 rfl) ?_
      refine lv_iconst (v := 0) hx hb dX12_rule_102 (by decide) ?_
      refine r_putI X hW 13 (okS hW sc17_0) rfl rfl inX12 tyX12 tyX12_ok nmX12 (Nat.le_of_ble_eq_true rfl) tw847 rfl rfl rfl rfl (Nat.le_of_ble_eq_true rfl) rfl dX12_rule_103 (fun H locs hW => ?_)
      refine lv_aload_n hx hb dX12_rule_106 rfl (lv_at hl 0 rfl) ?_
      refine r_get X hW 7 (okS hW sc17_0) rfl rfl inX12 (Nat.le_of_ble_eq_true rfl) tw841 rfl dX12_rule_107 ?_
      refine lv_iconst (v := 1) hx hb dX12_rule_110 (by decide) ?_
      refine lv_isub hx hb dX12_rule_111 ?_
      exact e_i X hW h dX12_rule_112
    · have h := h.2 c20
      refine lv_bipush (v := (-104)) hx hb dX12_rule_23 (by decide) ?_
      exact e_i X hW h dX12_rule_25
  · have h := h.2 c8
    refine lv_bipush (v := (-103)) hx hb dX12_rule_11 (by decide) ?_
    exact e_i X hW h dX12_rule_13
def wX12_isRule (g : GS) (a1 : Int32) (I : MI) (J : MJ) (Q : Int32 → MI → MJ → Prop) : Prop :=
  wX12_within g a1 0 ((I 17 0 7) - 1) I J (fun r8 I8 J8 => isB r8 ∧ Q r8 I8 J8)
theorem mbX12_isRule : MB yX12_isRule cX12_isRule 2 ((Option.some FieldType.boolean)) 1 := ⟨tw990, tw7, ⟨by decide, by decide⟩, by decide +kernel, by decide +kernel⟩
set_option maxHeartbeats 4000000 in
set_option maxRecDepth 100000 in
theorem kX12_isRule {l : Launch} {E : WE} {a1 : Int32} {I : MI} {J : MJ} {Q : Int32 → MI → MJ → Prop} (h : wX12_isRule (wg E) a1 I J Q) : Met l yX12_isRule (wsM yX12_isRule cX12_isRule 2 ((Option.some FieldType.boolean))) (rmO 1 22) (va_Pc [.ref (wa E 17 0), .int a1] (Wp E I J)) (QI E Q) 0 0 (AA E) := by
  refine m_entry mbX12_isRule (Nat.le_of_ble_eq_true rfl) ?_
  intro p e s m args below meth c X ls hW hl
  have X : Cx E cX12_isRule 2 RX12 ((Option.some FieldType.boolean)) p s m args c meth := X
  have hx := X.1.1
  have hb := X.1.2.1
  have hl : lv_has ls 2 [(0, .ref (wa E 17 0)), (1, .int a1)] := hl
  refine lv_iload_n hx hb dX12_isRule_0 rfl (lv_at hl 1 rfl) ?_
  refine lv_iconst (v := 0) hx hb dX12_isRule_1 (by decide) ?_
  refine lv_aload_n hx hb dX12_isRule_2 rfl (lv_at hl 0 rfl) ?_
  refine r_get X hW 7 (okS hW sc17_0) rfl rfl inX12 (Nat.le_of_ble_eq_true rfl) tw841 rfl dX12_isRule_3 ?_
  refine lv_iconst (v := 1) hx hb dX12_isRule_6 (by decide) ?_
  refine lv_isub hx hb dX12_isRule_7 ?_
  refine af_i hW (rn_S X hW (As := [.int a1, .int 0, .int ((I 17 0 7) - 1)]) (rest := []) (kX12_within h) mbX12_within tw969 tw970 rfl hl.1 (Nat.le_of_ble_eq_true rfl) ⟨(Nat.le_of_ble_eq_true rfl), (Nat.le_of_ble_eq_true rfl)⟩ dX12_isRule_8) (fun r8 I8 J8 H locs h hW => ?_)
  exact e_z X hW (isB_n h.1) h.2 dX12_isRule_11
def wX12_ruleNow (g : GS) (a1 : Int32) (a2 : Int32) (I : MI) (J : MJ) (Q : Int32 → MI → MJ → Prop) : Prop :=
  ((a2 = 0 → vp_in a1 6 ∧ (Q (I 23 0 (Int32.toNatClampNeg a1)) I J)) ∧ (¬ a2 = 0 → ((a2 = 1 → vp_in a1 6 ∧ (Q (I 24 0 (Int32.toNatClampNeg a1)) I J)) ∧ (¬ a2 = 1 → ((a2 = 2 → vp_in a1 6 ∧ (Q (I 25 0 (Int32.toNatClampNeg a1)) I J)) ∧ (¬ a2 = 2 → ((a2 = 3 → vp_in a1 6 ∧ ((((I 26 0 (Int32.toNatClampNeg a1)) = 0 → Q 0 I J) ∧ (¬ (I 26 0 (Int32.toNatClampNeg a1)) = 0 → Q 1 I J)))) ∧ (¬ a2 = 3 → vp_in a1 6 ∧ ((((I 27 0 (Int32.toNatClampNeg a1)) = 0 → Q 0 I J) ∧ (¬ (I 27 0 (Int32.toNatClampNeg a1)) = 0 → Q 1 I J)))))))))))
theorem mbX12_ruleNow : MB yX12_ruleNow cX12_ruleNow 3 ((Option.some FieldType.int)) 2 := ⟨tw994, tw7, ⟨by decide, by decide⟩, by decide +kernel, by decide +kernel⟩
set_option maxHeartbeats 4000000 in
set_option maxRecDepth 100000 in
theorem kX12_ruleNow {l : Launch} {E : WE} {a1 : Int32} {a2 : Int32} {I : MI} {J : MJ} {Q : Int32 → MI → MJ → Prop} (h : wX12_ruleNow (wg E) a1 a2 I J Q) : Met l yX12_ruleNow (wsM yX12_ruleNow cX12_ruleNow 3 ((Option.some FieldType.int))) (rmO 0 0) (va_Pc [.ref (wa E 17 0), .int a1, .int a2] (Wp E I J)) (QI E Q) 0 0 (AA E) := by
  refine m_entry mbX12_ruleNow (Nat.le_of_ble_eq_true rfl) ?_
  intro p e s m args below meth c X ls hW hl
  have X : Cx E cX12_ruleNow 3 RX12 ((Option.some FieldType.int)) p s m args c meth := X
  have hx := X.1.1
  have hb := X.1.2.1
  have hl : lv_has ls 3 [(0, .ref (wa E 17 0)), (1, .int a1), (2, .int a2)] := hl
  refine lv_iload_n hx hb dX12_ruleNow_0 rfl (lv_at hl 2 rfl) ?_
  by_cases s1_0 : a2 = 0
  · have h := h.1 s1_0
    refine sw_in (tgt := 32) (off := 31) hx hb dX12_ruleNow_1 s1_0 (by decide) (by decide) (by decide) (by decide) ?_
    refine lv_aload_n hx hb dX12_ruleNow_32 rfl (lv_at hl 0 rfl) ?_
    refine r_get X hW 8 (okS hW sc17_0) rfl rfl inX12 (Nat.le_of_ble_eq_true rfl) tw842 rfl dX12_ruleNow_33 ?_
    refine lv_iload_n hx hb dX12_ruleNow_36 rfl (lv_at hl 1 rfl) ?_
    refine r_iald X hW (okS hW sc23_0) rfl h.1 dX12_ruleNow_37 ?_
    have h := h.2
    exact e_i X hW h dX12_ruleNow_38
  · have h := h.2 s1_0
    by_cases s1_1 : a2 = 1
    · have h := h.1 s1_1
      refine sw_in (tgt := 39) (off := 38) hx hb dX12_ruleNow_1 s1_1 (by decide) (by decide) (by decide) (by decide) ?_
      refine lv_aload_n hx hb dX12_ruleNow_39 rfl (lv_at hl 0 rfl) ?_
      refine r_get X hW 9 (okS hW sc17_0) rfl rfl inX12 (Nat.le_of_ble_eq_true rfl) tw843 rfl dX12_ruleNow_40 ?_
      refine lv_iload_n hx hb dX12_ruleNow_43 rfl (lv_at hl 1 rfl) ?_
      refine r_iald X hW (okS hW sc24_0) rfl h.1 dX12_ruleNow_44 ?_
      have h := h.2
      exact e_i X hW h dX12_ruleNow_45
    · have h := h.2 s1_1
      by_cases s1_2 : a2 = 2
      · have h := h.1 s1_2
        refine sw_in (tgt := 46) (off := 45) hx hb dX12_ruleNow_1 s1_2 (by decide) (by decide) (by decide) (by decide) ?_
        refine lv_aload_n hx hb dX12_ruleNow_46 rfl (lv_at hl 0 rfl) ?_
        refine r_get X hW 10 (okS hW sc17_0) rfl rfl inX12 (Nat.le_of_ble_eq_true rfl) tw844 rfl dX12_ruleNow_47 ?_
        refine lv_iload_n hx hb dX12_ruleNow_50 rfl (lv_at hl 1 rfl) ?_
        refine r_iald X hW (okS hW sc25_0) rfl h.1 dX12_ruleNow_51 ?_
        have h := h.2
        exact e_i X hW h dX12_ruleNow_52
      · have h := h.2 s1_2
        by_cases s1_3 : a2 = 3
        · have h := h.1 s1_3
          refine sw_in (tgt := 53) (off := 52) hx hb dX12_ruleNow_1 s1_3 (by decide) (by decide) (by decide) (by decide) ?_
          refine lv_aload_n hx hb dX12_ruleNow_53 rfl (lv_at hl 0 rfl) ?_
          refine r_get X hW 11 (okS hW sc17_0) rfl rfl inX12 (Nat.le_of_ble_eq_true rfl) tw845 rfl dX12_ruleNow_54 ?_
          refine lv_iload_n hx hb dX12_ruleNow_57 rfl (lv_at hl 1 rfl) ?_
          refine r_zald X hW (okS hW sc26_0) rfl h.1 dX12_ruleNow_58 ?_
          have h := h.2
          refine lv_if_eq (tgt := 66) hx hb dX12_ruleNow_59 (by decide) (fun c59 => ?_) (fun c59 => ?_)
          · have h := h.1 c59
            refine lv_iconst (v := 0) hx hb dX12_ruleNow_66 (by decide) ?_
            exact e_i X hW h dX12_ruleNow_67
          · have h := h.2 c59
            refine lv_iconst (v := 1) hx hb dX12_ruleNow_62 (by decide) ?_
            refine lv_goto (tgt := 67) hx hb dX12_ruleNow_63 (by decide) ?_
            exact e_i X hW h dX12_ruleNow_67
        · have h := h.2 s1_3
          have z1 : Int32.toInt a2 < 0 ∨ 3 < Int32.toInt a2 := by
            have := ne_ti s1_0 (a := 0) (by decide)
            have := ne_ti s1_1 (a := 1) (by decide)
            have := ne_ti s1_2 (a := 2) (by decide)
            have := ne_ti s1_3 (a := 3) (by decide)
            omega
          refine lv_tableOut (tgt := 68) hx hb dX12_ruleNow_1 z1 (by decide) ?_
          refine lv_aload_n hx hb dX12_ruleNow_68 rfl (lv_at hl 0 rfl) ?_
          refine r_get X hW 12 (okS hW sc17_0) rfl rfl inX12 (Nat.le_of_ble_eq_true rfl) tw846 rfl dX12_ruleNow_69 ?_
          refine lv_iload_n hx hb dX12_ruleNow_72 rfl (lv_at hl 1 rfl) ?_
          refine r_zald X hW (okS hW sc27_0) rfl h.1 dX12_ruleNow_73 ?_
          have h := h.2
          refine lv_if_eq (tgt := 81) hx hb dX12_ruleNow_74 (by decide) (fun c74 => ?_) (fun c74 => ?_)
          · have h := h.1 c74
            refine lv_iconst (v := 0) hx hb dX12_ruleNow_81 (by decide) ?_
            exact e_i X hW h dX12_ruleNow_82
          · have h := h.2 c74
            refine lv_iconst (v := 1) hx hb dX12_ruleNow_77 (by decide) ?_
            refine lv_goto (tgt := 82) hx hb dX12_ruleNow_78 (by decide) ?_
            exact e_i X hW h dX12_ruleNow_82
def wX12_ruleTold (g : GS) (a1 : Int32) (a2 : Int32) (I : MI) (J : MJ) (Q : Int32 → MI → MJ → Prop) : Prop :=
  wX12_isRule g a1 I J (fun r2 I2 J2 => ((¬ r2 = 0 → wX12_within g a2 0 4 I2 J2 (fun r16 I16 J16 => ((r16 = 0 → Q ((-102)) I16 J16) ∧ (¬ r16 = 0 → wX12_ruleNow g a1 a2 I16 J16 (fun r25 I25 J25 => Q r25 I25 J25))))) ∧ (r2 = 0 → Q ((-101)) I2 J2)))
theorem mbX12_ruleTold : MB yX12_ruleTold cX12_ruleTold 3 ((Option.some FieldType.int)) 2 := ⟨tw986, tw7, ⟨by decide, by decide⟩, by decide +kernel, by decide +kernel⟩
set_option maxHeartbeats 4000000 in
set_option maxRecDepth 100000 in
theorem kX12_ruleTold {l : Launch} {E : WE} {a1 : Int32} {a2 : Int32} {I : MI} {J : MJ} {Q : Int32 → MI → MJ → Prop} (h : wX12_ruleTold (wg E) a1 a2 I J Q) : Met l yX12_ruleTold (wsM yX12_ruleTold cX12_ruleTold 3 ((Option.some FieldType.int))) (rmO 2 43) (va_Pc [.ref (wa E 17 0), .int a1, .int a2] (Wp E I J)) (QI E Q) 0 0 (AA E) := by
  refine m_entry mbX12_ruleTold (Nat.le_of_ble_eq_true rfl) ?_
  intro p e s m args below meth c X ls hW hl
  have X : Cx E cX12_ruleTold 3 RX12 ((Option.some FieldType.int)) p s m args c meth := X
  have hx := X.1.1
  have hb := X.1.2.1
  have hl : lv_has ls 3 [(0, .ref (wa E 17 0)), (1, .int a1), (2, .int a2)] := hl
  refine lv_aload_n hx hb dX12_ruleTold_0 rfl (lv_at hl 0 rfl) ?_
  refine lv_iload_n hx hb dX12_ruleTold_1 rfl (lv_at hl 1 rfl) ?_
  refine af_i hW (rn_V X hW (As := [.int a1]) (rest := []) (okS hW sc17_0) rfl rfl (kX12_isRule h) mbX12_isRule tw987 tw989 tp28 rfl hl.1 (Nat.le_of_ble_eq_true rfl) ⟨(Nat.le_of_ble_eq_true rfl), (Nat.le_of_ble_eq_true rfl)⟩ dX12_ruleTold_2) (fun r2 I2 J2 H locs h hW => ?_)
  refine lv_if_ne (tgt := 13) hx hb dX12_ruleTold_5 (by decide) (fun c5 => ?_) (fun c5 => ?_)
  · have h := h.1 c5
    refine lv_iload_n hx hb dX12_ruleTold_13 rfl (lv_at hl 2 rfl) ?_
    refine lv_iconst (v := 0) hx hb dX12_ruleTold_14 (by decide) ?_
    refine lv_iconst (v := 4) hx hb dX12_ruleTold_15 (by decide) ?_
    refine af_i hW (rn_S X hW (As := [.int a2, .int 0, .int 4]) (rest := []) (kX12_within h) mbX12_within tw969 tw970 rfl hl.1 (Nat.le_of_ble_eq_true rfl) ⟨(Nat.le_of_ble_eq_true rfl), (Nat.le_of_ble_eq_true rfl)⟩ dX12_ruleTold_16) (fun r16 I16 J16 H locs h hW => ?_)
    refine lv_if_eq (tgt := 31) hx hb dX12_ruleTold_19 (by decide) (fun c19 => ?_) (fun c19 => ?_)
    · have h := h.1 c19
      refine lv_bipush (v := (-102)) hx hb dX12_ruleTold_31 (by decide) ?_
      exact e_i X hW h dX12_ruleTold_33
    · have h := h.2 c19
      refine lv_aload_n hx hb dX12_ruleTold_22 rfl (lv_at hl 0 rfl) ?_
      refine lv_iload_n hx hb dX12_ruleTold_23 rfl (lv_at hl 1 rfl) ?_
      refine lv_iload_n hx hb dX12_ruleTold_24 rfl (lv_at hl 2 rfl) ?_
      refine af_i hW (rn_V X hW (As := [.int a1, .int a2]) (rest := []) (okS hW sc17_0) rfl rfl (kX12_ruleNow h) mbX12_ruleNow tw991 tw993 tp29 rfl hl.1 (Nat.le_of_ble_eq_true rfl) ⟨(Nat.le_of_ble_eq_true rfl), (Nat.le_of_ble_eq_true rfl)⟩ dX12_ruleTold_25) (fun r25 I25 J25 H locs h hW => ?_)
      refine lv_goto (tgt := 33) hx hb dX12_ruleTold_28 (by decide) ?_
      exact e_i X hW h dX12_ruleTold_33
  · have h := h.2 c5
    refine lv_bipush (v := (-101)) hx hb dX12_ruleTold_8 (by decide) ?_
    refine lv_goto (tgt := 33) hx hb dX12_ruleTold_10 (by decide) ?_
    exact e_i X hW h dX12_ruleTold_33
def wX12_isMember (g : GS) (a1 : Int32) (I : MI) (J : MJ) (Q : Int32 → MI → MJ → Prop) : Prop :=
  wX12_within g a1 0 ((I 17 0 0) - 1) I J (fun r8 I8 J8 => isB r8 ∧ Q r8 I8 J8)
theorem mbX12_isMember : MB yX12_isMember cX12_isMember 2 ((Option.some FieldType.boolean)) 1 := ⟨tw1002, tw7, ⟨by decide, by decide⟩, by decide +kernel, by decide +kernel⟩
set_option maxHeartbeats 4000000 in
set_option maxRecDepth 100000 in
theorem kX12_isMember {l : Launch} {E : WE} {a1 : Int32} {I : MI} {J : MJ} {Q : Int32 → MI → MJ → Prop} (h : wX12_isMember (wg E) a1 I J Q) : Met l yX12_isMember (wsM yX12_isMember cX12_isMember 2 ((Option.some FieldType.boolean))) (rmO 1 22) (va_Pc [.ref (wa E 17 0), .int a1] (Wp E I J)) (QI E Q) 0 0 (AA E) := by
  refine m_entry mbX12_isMember (Nat.le_of_ble_eq_true rfl) ?_
  intro p e s m args below meth c X ls hW hl
  have X : Cx E cX12_isMember 2 RX12 ((Option.some FieldType.boolean)) p s m args c meth := X
  have hx := X.1.1
  have hb := X.1.2.1
  have hl : lv_has ls 2 [(0, .ref (wa E 17 0)), (1, .int a1)] := hl
  refine lv_iload_n hx hb dX12_isMember_0 rfl (lv_at hl 1 rfl) ?_
  refine lv_iconst (v := 0) hx hb dX12_isMember_1 (by decide) ?_
  refine lv_aload_n hx hb dX12_isMember_2 rfl (lv_at hl 0 rfl) ?_
  refine r_get X hW 0 (okS hW sc17_0) rfl rfl inX12 (Nat.le_of_ble_eq_true rfl) tw834 rfl dX12_isMember_3 ?_
  refine lv_iconst (v := 1) hx hb dX12_isMember_6 (by decide) ?_
  refine lv_isub hx hb dX12_isMember_7 ?_
  refine af_i hW (rn_S X hW (As := [.int a1, .int 0, .int ((I 17 0 0) - 1)]) (rest := []) (kX12_within h) mbX12_within tw969 tw970 rfl hl.1 (Nat.le_of_ble_eq_true rfl) ⟨(Nat.le_of_ble_eq_true rfl), (Nat.le_of_ble_eq_true rfl)⟩ dX12_isMember_8) (fun r8 I8 J8 H locs h hW => ?_)
  exact e_z X hW (isB_n h.1) h.2 dX12_isMember_11
def wX12_isCandidate (g : GS) (a1 : Int32) (I : MI) (J : MJ) (Q : Int32 → MI → MJ → Prop) : Prop :=
  wX12_within g a1 0 ((I 17 0 4) - 1) I J (fun r8 I8 J8 => isB r8 ∧ Q r8 I8 J8)
theorem mbX12_isCandidate : MB yX12_isCandidate cX12_isCandidate 2 ((Option.some FieldType.boolean)) 1 := ⟨tw1030, tw7, ⟨by decide, by decide⟩, by decide +kernel, by decide +kernel⟩
set_option maxHeartbeats 4000000 in
set_option maxRecDepth 100000 in
theorem kX12_isCandidate {l : Launch} {E : WE} {a1 : Int32} {I : MI} {J : MJ} {Q : Int32 → MI → MJ → Prop} (h : wX12_isCandidate (wg E) a1 I J Q) : Met l yX12_isCandidate (wsM yX12_isCandidate cX12_isCandidate 2 ((Option.some FieldType.boolean))) (rmO 1 22) (va_Pc [.ref (wa E 17 0), .int a1] (Wp E I J)) (QI E Q) 0 0 (AA E) := by
  refine m_entry mbX12_isCandidate (Nat.le_of_ble_eq_true rfl) ?_
  intro p e s m args below meth c X ls hW hl
  have X : Cx E cX12_isCandidate 2 RX12 ((Option.some FieldType.boolean)) p s m args c meth := X
  have hx := X.1.1
  have hb := X.1.2.1
  have hl : lv_has ls 2 [(0, .ref (wa E 17 0)), (1, .int a1)] := hl
  refine lv_iload_n hx hb dX12_isCandidate_0 rfl (lv_at hl 1 rfl) ?_
  refine lv_iconst (v := 0) hx hb dX12_isCandidate_1 (by decide) ?_
  refine lv_aload_n hx hb dX12_isCandidate_2 rfl (lv_at hl 0 rfl) ?_
  refine r_get X hW 4 (okS hW sc17_0) rfl rfl inX12 (Nat.le_of_ble_eq_true rfl) tw838 rfl dX12_isCandidate_3 ?_
  refine lv_iconst (v := 1) hx hb dX12_isCandidate_6 (by decide) ?_
  refine lv_isub hx hb dX12_isCandidate_7 ?_
  refine af_i hW (rn_S X hW (As := [.int a1, .int 0, .int ((I 17 0 4) - 1)]) (rest := []) (kX12_within h) mbX12_within tw969 tw970 rfl hl.1 (Nat.le_of_ble_eq_true rfl) ⟨(Nat.le_of_ble_eq_true rfl), (Nat.le_of_ble_eq_true rfl)⟩ dX12_isCandidate_8) (fun r8 I8 J8 H locs h hW => ?_)
  exact e_z X hW (isB_n h.1) h.2 dX12_isCandidate_11
def wX12_member_b51 (g : GS) (Q : Int32 → MI → MJ → Prop) (v1 : Int32) (v2 : Int32) (v3 : Int32) (I : MI) (J : MJ) : Prop :=
  wX12_within g v3 0 10 I J (fun r55 I55 J55 => ((¬ r55 = 0 → ((¬ (I55 17 0 0) = 8 → vp_in (I55 17 0 0) 8 ∧ (vp_in ((u3 I55 18 0 (upd (I55 18 0) (Int32.toNatClampNeg (I55 17 0 0)) v1)) 17 0 0) 8 ∧ (∀ I95 : MI, I95 = u3 (u3 I55 18 0 (upd (I55 18 0) (Int32.toNatClampNeg (I55 17 0 0)) v1)) 19 0 (upd ((u3 I55 18 0 (upd (I55 18 0) (Int32.toNatClampNeg (I55 17 0 0)) v1)) 19 0) (Int32.toNatClampNeg ((u3 I55 18 0 (upd (I55 18 0) (Int32.toNatClampNeg (I55 17 0 0)) v1)) 17 0 0)) v2) → vp_in (I95 17 0 0) 8 ∧ (∀ I113 : MI, I113 = u3 (u3 I95 20 0 (upd (I95 20 0) (Int32.toNatClampNeg (I95 17 0 0)) v3)) 17 0 (upd ((u3 I95 20 0 (upd (I95 20 0) (Int32.toNatClampNeg (I95 17 0 0)) v3)) 17 0) 0 (((u3 I95 20 0 (upd (I95 20 0) (Int32.toNatClampNeg (I95 17 0 0)) v3)) 17 0 0) + 1)) → Q ((I113 17 0 0) - 1) I113 J55)))) ∧ ((I55 17 0 0) = 8 → Q ((-104)) I55 J55))) ∧ (r55 = 0 → Q ((-102)) I55 J55)))
set_option maxHeartbeats 4000000 in
set_option maxRecDepth 100000 in
theorem bX12_member_51 {p : Program} {l : Launch} {e : Env} {s : State} {m : MethodId} {args : Array Value} {below : List Frame} {meth : Method} {c : Code} {E : WE} {Q : Int32 → MI → MJ → Prop} (X : Cx E cX12_member 4 RX12 ((Option.some FieldType.int)) p s m args c meth) : ∀ (v1 : Int32) (v2 : Int32) (v3 : Int32) (I : MI) (J : MJ) (H : Heap) (locs : List Loc) (ls : Array Slot), wX12_member_b51 (wg E) Q v1 v2 v3 I J → Wd E I J s H locs → lv_has ls 4 [(0, .ref (wa E 17 0)), (1, .int v1), (2, .int v2), (3, .int v3)] → W p l e (rmO 2 43) s m args below meth c H locs 0 0 (MQ below (QI E Q) args s 0 0 (AA E)) (F0 m 51 ls []) := by
  have hx := X.1.1
  have hb := X.1.2.1
  intro v1 v2 v3 I J H locs ls h hW hl
  refine lv_iload_n hx hb dX12_member_51 rfl (lv_at hl 3 rfl) ?_
  refine lv_iconst (v := 0) hx hb dX12_member_52 (by decide) ?_
  refine lv_bipush (v := 10) hx hb dX12_member_53 (by decide) ?_
  refine af_i hW (rn_S X hW (As := [.int v3, .int 0, .int 10]) (rest := []) (kX12_within h) mbX12_within tw969 tw970 rfl hl.1 (Nat.le_of_ble_eq_true rfl) ⟨(Nat.le_of_ble_eq_true rfl), (Nat.le_of_ble_eq_true rfl)⟩ dX12_member_55) (fun r55 I55 J55 H locs h hW => ?_)
  refine lv_if_ne (tgt := 64) hx hb dX12_member_58 (by decide) (fun c58 => ?_) (fun c58 => ?_)
  · have h := h.1 c58
    refine lv_aload_n hx hb dX12_member_64 rfl (lv_at hl 0 rfl) ?_
    refine r_get X hW 0 (okS hW sc17_0) rfl rfl inX12 (Nat.le_of_ble_eq_true rfl) tw834 rfl dX12_member_65 ?_
    refine lv_bipush (v := 8) hx hb dX12_member_68 (by decide) ?_
    refine lv_icmp_ne (tgt := 76) hx hb dX12_member_70 (by decide) (fun c70 => ?_) (fun c70 => ?_)
    · have h := h.1 c70
      refine lv_aload_n hx hb dX12_member_76 rfl (lv_at hl 0 rfl) ?_
      refine r_get X hW 1 (okS hW sc17_0) rfl rfl inX12 (Nat.le_of_ble_eq_true rfl) tw835 rfl dX12_member_77 ?_
      refine lv_aload_n hx hb dX12_member_80 rfl (lv_at hl 0 rfl) ?_
      refine r_get X hW 0 (okS hW sc17_0) rfl rfl inX12 (Nat.le_of_ble_eq_true rfl) tw834 rfl dX12_member_81 ?_
      refine lv_iload_n hx hb dX12_member_84 rfl (lv_at hl 1 rfl) ?_
      refine r_iast X hW (okS hW sc18_0) (fun _ => rfl) h.1 dX12_member_85 (fun H locs hW => ?_)
      have h := h.2
      refine lv_aload_n hx hb dX12_member_86 rfl (lv_at hl 0 rfl) ?_
      refine r_get X hW 2 (okS hW sc17_0) rfl rfl inX12 (Nat.le_of_ble_eq_true rfl) tw836 rfl dX12_member_87 ?_
      refine lv_aload_n hx hb dX12_member_90 rfl (lv_at hl 0 rfl) ?_
      refine r_get X hW 0 (okS hW sc17_0) rfl rfl inX12 (Nat.le_of_ble_eq_true rfl) tw834 rfl dX12_member_91 ?_
      refine lv_iload_n hx hb dX12_member_94 rfl (lv_at hl 2 rfl) ?_
      refine r_iast X hW (okS hW sc19_0) (fun _ => rfl) h.1 dX12_member_95 (fun H locs hW => ?_)
      have h := h.2
      obtain ⟨I95, eI95⟩ : ∃ z : MI, z = u3 (u3 I55 18 0 (upd (I55 18 0) (Int32.toNatClampNeg (I55 17 0 0)) v1)) 19 0 (upd ((u3 I55 18 0 (upd (I55 18 0) (Int32.toNatClampNeg (I55 17 0 0)) v1)) 19 0) (Int32.toNatClampNeg ((u3 I55 18 0 (upd (I55 18 0) (Int32.toNatClampNeg (I55 17 0 0)) v1)) 17 0 0)) v2) := ⟨_, rfl⟩
      rw [← eI95] at hW
      have h := h I95 eI95
      refine lv_aload_n hx hb dX12_member_96 rfl (lv_at hl 0 rfl) ?_
      refine r_get X hW 3 (okS hW sc17_0) rfl rfl inX12 (Nat.le_of_ble_eq_true rfl) tw837 rfl dX12_member_97 ?_
      refine lv_aload_n hx hb dX12_member_100 rfl (lv_at hl 0 rfl) ?_
      refine r_get X hW 0 (okS hW sc17_0) rfl rfl inX12 (Nat.le_of_ble_eq_true rfl) tw834 rfl dX12_member_101 ?_
      refine lv_iload_n hx hb dX12_member_104 rfl (lv_at hl 3 rfl) ?_
      refine r_iast X hW (okS hW sc20_0) (fun _ => rfl) h.1 dX12_member_105 (fun H locs hW => ?_)
      have h := h.2
      refine lv_aload_n hx hb dX12_member_106 rfl (lv_at hl 0 rfl) ?_
      refine lv_dup hx hb dX12_member_107 rfl ?_
      refine r_get X hW 0 (okS hW sc17_0) rfl rfl inX12 (Nat.le_of_ble_eq_true rfl) tw834 rfl dX12_member_108 ?_
      refine lv_iconst (v := 1) hx hb dX12_member_111 (by decide) ?_
      refine lv_iadd hx hb dX12_member_112 ?_
      refine r_putI X hW 0 (okS hW sc17_0) rfl rfl inX12 tyX12 tyX12_ok nmX12 (Nat.le_of_ble_eq_true rfl) tw834 rfl rfl rfl rfl (Nat.le_of_ble_eq_true rfl) rfl dX12_member_113 (fun H locs hW => ?_)
      obtain ⟨I113, eI113⟩ : ∃ z : MI, z = u3 (u3 I95 20 0 (upd (I95 20 0) (Int32.toNatClampNeg (I95 17 0 0)) v3)) 17 0 (upd ((u3 I95 20 0 (upd (I95 20 0) (Int32.toNatClampNeg (I95 17 0 0)) v3)) 17 0) 0 (((u3 I95 20 0 (upd (I95 20 0) (Int32.toNatClampNeg (I95 17 0 0)) v3)) 17 0 0) + 1)) := ⟨_, rfl⟩
      rw [← eI113] at hW
      have h := h I113 eI113
      refine lv_aload_n hx hb dX12_member_116 rfl (lv_at hl 0 rfl) ?_
      refine r_get X hW 0 (okS hW sc17_0) rfl rfl inX12 (Nat.le_of_ble_eq_true rfl) tw834 rfl dX12_member_117 ?_
      refine lv_iconst (v := 1) hx hb dX12_member_120 (by decide) ?_
      refine lv_isub hx hb dX12_member_121 ?_
      exact e_i X hW h dX12_member_122
    · have h := h.2 c70
      refine lv_bipush (v := (-104)) hx hb dX12_member_73 (by decide) ?_
      exact e_i X hW h dX12_member_75
  · have h := h.2 c58
    refine lv_bipush (v := (-102)) hx hb dX12_member_61 (by decide) ?_
    exact e_i X hW h dX12_member_63
def wX12_member_b35 (g : GS) (Q : Int32 → MI → MJ → Prop) (v1 : Int32) (v2 : Int32) (v3 : Int32) (I : MI) (J : MJ) : Prop :=
  ((v1 < 3 → wX12_member_b51 g Q v1 v2 v3 I J) ∧ (¬ v1 < 3 → wX12_isMember g v2 I J (fun r42 I42 J42 => ((¬ r42 = 0 → wX12_member_b51 g Q v1 v2 v3 I42 J42) ∧ (r42 = 0 → Q ((-101)) I42 J42)))))
set_option maxHeartbeats 4000000 in
set_option maxRecDepth 100000 in
theorem bX12_member_35 {p : Program} {l : Launch} {e : Env} {s : State} {m : MethodId} {args : Array Value} {below : List Frame} {meth : Method} {c : Code} {E : WE} {Q : Int32 → MI → MJ → Prop} (X : Cx E cX12_member 4 RX12 ((Option.some FieldType.int)) p s m args c meth) : ∀ (v1 : Int32) (v2 : Int32) (v3 : Int32) (I : MI) (J : MJ) (H : Heap) (locs : List Loc) (ls : Array Slot), wX12_member_b35 (wg E) Q v1 v2 v3 I J → Wd E I J s H locs → lv_has ls 4 [(0, .ref (wa E 17 0)), (1, .int v1), (2, .int v2), (3, .int v3)] → W p l e (rmO 2 43) s m args below meth c H locs 0 0 (MQ below (QI E Q) args s 0 0 (AA E)) (F0 m 35 ls []) := by
  have hx := X.1.1
  have hb := X.1.2.1
  intro v1 v2 v3 I J H locs ls h hW hl
  refine lv_iload_n hx hb dX12_member_35 rfl (lv_at hl 1 rfl) ?_
  refine lv_iconst (v := 3) hx hb dX12_member_36 (by decide) ?_
  refine lv_icmp_lt (tgt := 51) hx hb dX12_member_37 (by decide) (fun c37 => ?_) (fun c37 => ?_)
  · have h := h.1 c37
    exact bX12_member_51 X v1 v2 v3 _ _ _ _ _  h hW (lv_sub hl [0, 1, 2, 3] rfl)
  · have h := h.2 c37
    refine lv_aload_n hx hb dX12_member_40 rfl (lv_at hl 0 rfl) ?_
    refine lv_iload_n hx hb dX12_member_41 rfl (lv_at hl 2 rfl) ?_
    refine af_i hW (rn_V X hW (As := [.int v2]) (rest := []) (okS hW sc17_0) rfl rfl (kX12_isMember h) mbX12_isMember tw999 tw1001 tp30 rfl hl.1 (Nat.le_of_ble_eq_true rfl) ⟨(Nat.le_of_ble_eq_true rfl), (Nat.le_of_ble_eq_true rfl)⟩ dX12_member_42) (fun r42 I42 J42 H locs h hW => ?_)
    refine lv_if_ne (tgt := 51) hx hb dX12_member_45 (by decide) (fun c45 => ?_) (fun c45 => ?_)
    · have h := h.1 c45
      exact bX12_member_51 X v1 v2 v3 _ _ _ _ _  h hW (lv_sub hl [0, 1, 2, 3] rfl)
    · have h := h.2 c45
      refine lv_bipush (v := (-101)) hx hb dX12_member_48 (by decide) ?_
      exact e_i X hW h dX12_member_50
def wX12_member_b26 (g : GS) (Q : Int32 → MI → MJ → Prop) (v1 : Int32) (v2 : Int32) (v3 : Int32) (t0 : Int32) (t1 : Int32) (t2 : Int32) (I : MI) (J : MJ) : Prop :=
  wX12_within g t2 t1 t0 I J (fun r26 I26 J26 => ((¬ r26 = 0 → wX12_member_b35 g Q v1 v2 v3 I26 J26) ∧ (r26 = 0 → Q ((-102)) I26 J26)))
set_option maxHeartbeats 4000000 in
set_option maxRecDepth 100000 in
theorem bX12_member_26 {p : Program} {l : Launch} {e : Env} {s : State} {m : MethodId} {args : Array Value} {below : List Frame} {meth : Method} {c : Code} {E : WE} {Q : Int32 → MI → MJ → Prop} (X : Cx E cX12_member 4 RX12 ((Option.some FieldType.int)) p s m args c meth) : ∀ (v1 : Int32) (v2 : Int32) (v3 : Int32) (t0 : Int32) (t1 : Int32) (t2 : Int32) (I : MI) (J : MJ) (H : Heap) (locs : List Loc) (ls : Array Slot), wX12_member_b26 (wg E) Q v1 v2 v3 t0 t1 t2 I J → Wd E I J s H locs → lv_has ls 4 [(0, .ref (wa E 17 0)), (1, .int v1), (2, .int v2), (3, .int v3)] → W p l e (rmO 2 43) s m args below meth c H locs 0 0 (MQ below (QI E Q) args s 0 0 (AA E)) (F0 m 26 ls [.int t0, .int t1, .int t2]) := by
  have hx := X.1.1
  have hb := X.1.2.1
  intro v1 v2 v3 t0 t1 t2 I J H locs ls h hW hl
  refine af_i hW (rn_S X hW (As := [.int t2, .int t1, .int t0]) (rest := []) (kX12_within h) mbX12_within tw969 tw970 rfl hl.1 (Nat.le_of_ble_eq_true rfl) ⟨(Nat.le_of_ble_eq_true rfl), (Nat.le_of_ble_eq_true rfl)⟩ dX12_member_26) (fun r26 I26 J26 H locs h hW => ?_)
  refine lv_if_ne (tgt := 35) hx hb dX12_member_29 (by decide) (fun c29 => ?_) (fun c29 => ?_)
  · have h := h.1 c29
    exact bX12_member_35 X v1 v2 v3 _ _ _ _ _  h hW (lv_sub hl [0, 1, 2, 3] rfl)
  · have h := h.2 c29
    refine lv_bipush (v := (-102)) hx hb dX12_member_32 (by decide) ?_
    exact e_i X hW h dX12_member_34
def wX12_member (g : GS) (a1 : Int32) (a2 : Int32) (a3 : Int32) (I : MI) (J : MJ) (Q : Int32 → MI → MJ → Prop) : Prop :=
  wX12_within g a1 0 4 I J (fun r3 I3 J3 => ((r3 = 0 → Q ((-102)) I3 J3) ∧ (¬ r3 = 0 → ((3 ≤ a1 → wX12_member_b35 g Q a1 a2 a3 I3 J3) ∧ (¬ 3 ≤ a1 → ((¬ a1 = 2 → wX12_member_b26 g Q a1 a2 a3 0 0 a2 I3 J3) ∧ (a1 = 2 → wX12_member_b26 g Q a1 a2 a3 5 0 a2 I3 J3)))))))
theorem mbX12_member : MB yX12_member cX12_member 4 ((Option.some FieldType.int)) 3 := ⟨tw998, tw7, ⟨by decide, by decide⟩, by decide +kernel, by decide +kernel⟩
set_option maxHeartbeats 4000000 in
set_option maxRecDepth 100000 in
theorem kX12_member {l : Launch} {E : WE} {a1 : Int32} {a2 : Int32} {a3 : Int32} {I : MI} {J : MJ} {Q : Int32 → MI → MJ → Prop} (h : wX12_member (wg E) a1 a2 a3 I J Q) : Met l yX12_member (wsM yX12_member cX12_member 4 ((Option.some FieldType.int))) (rmO 2 43) (va_Pc [.ref (wa E 17 0), .int a1, .int a2, .int a3] (Wp E I J)) (QI E Q) 0 0 (AA E) := by
  refine m_entry mbX12_member (Nat.le_of_ble_eq_true rfl) ?_
  intro p e s m args below meth c X ls hW hl
  have X : Cx E cX12_member 4 RX12 ((Option.some FieldType.int)) p s m args c meth := X
  have hx := X.1.1
  have hb := X.1.2.1
  have hl : lv_has ls 4 [(0, .ref (wa E 17 0)), (1, .int a1), (2, .int a2), (3, .int a3)] := hl
  refine lv_iload_n hx hb dX12_member_0 rfl (lv_at hl 1 rfl) ?_
  refine lv_iconst (v := 0) hx hb dX12_member_1 (by decide) ?_
  refine lv_iconst (v := 4) hx hb dX12_member_2 (by decide) ?_
  refine af_i hW (rn_S X hW (As := [.int a1, .int 0, .int 4]) (rest := []) (kX12_within h) mbX12_within tw969 tw970 rfl hl.1 (Nat.le_of_ble_eq_true rfl) ⟨(Nat.le_of_ble_eq_true rfl), (Nat.le_of_ble_eq_true rfl)⟩ dX12_member_3) (fun r3 I3 J3 H locs h hW => ?_)
  refine lv_if_eq (tgt := 32) hx hb dX12_member_6 (by decide) (fun c6 => ?_) (fun c6 => ?_)
  · have h := h.1 c6
    refine lv_bipush (v := (-102)) hx hb dX12_member_32 (by decide) ?_
    exact e_i X hW h dX12_member_34
  · have h := h.2 c6
    refine lv_iload_n hx hb dX12_member_9 rfl (lv_at hl 1 rfl) ?_
    refine lv_iconst (v := 3) hx hb dX12_member_10 (by decide) ?_
    refine lv_icmp_ge (tgt := 35) hx hb dX12_member_11 (by decide) (fun c11 => ?_) (fun c11 => ?_)
    · have h := h.1 c11
      exact bX12_member_35 X a1 a2 a3 _ _ _ _ _  h hW (lv_sub hl [0, 1, 2, 3] rfl)
    · have h := h.2 c11
      refine lv_iload_n hx hb dX12_member_14 rfl (lv_at hl 2 rfl) ?_
      refine lv_iconst (v := 0) hx hb dX12_member_15 (by decide) ?_
      refine lv_iload_n hx hb dX12_member_16 rfl (lv_at hl 1 rfl) ?_
      refine lv_iconst (v := 2) hx hb dX12_member_17 (by decide) ?_
      refine lv_icmp_ne (tgt := 25) hx hb dX12_member_18 (by decide) (fun c18 => ?_) (fun c18 => ?_)
      · have h := h.1 c18
        refine lv_iconst (v := 0) hx hb dX12_member_25 (by decide) ?_
        exact bX12_member_26 X a1 a2 a3 0 0 a2 _ _ _ _ _  h hW (lv_sub hl [0, 1, 2, 3] rfl)
      · have h := h.2 c18
        refine lv_iconst (v := 5) hx hb dX12_member_21 (by decide) ?_
        refine lv_goto (tgt := 26) hx hb dX12_member_22 (by decide) ?_
        exact bX12_member_26 X a1 a2 a3 5 0 a2 _ _ _ _ _  h hW (lv_sub hl [0, 1, 2, 3] rfl)
def wX12_as (g : GS) (a1 : Int32) (a2 : Int32) (I : MI) (J : MJ) (Q : Int32 → MI → MJ → Prop) : Prop :=
  wX12_isMember g a1 I J (fun r2 I2 J2 => ((¬ r2 = 0 → wX12_within g a2 0 4 I2 J2 (fun r14 I14 J14 => ((¬ r14 = 0 → vp_in a1 8 ∧ (((a2 = 0 → Q a1 I14 J14) ∧ (¬ a2 = 0 → (((I14 18 0 (Int32.toNatClampNeg a1)) = a2 → Q a1 I14 J14) ∧ (¬ (I14 18 0 (Int32.toNatClampNeg a1)) = a2 → ((¬ a2 = 3 → Q ((-1)) I14 J14) ∧ (a2 = 3 → ((¬ (I14 18 0 (Int32.toNatClampNeg a1)) = 4 → Q ((-1)) I14 J14) ∧ ((I14 18 0 (Int32.toNatClampNeg a1)) = 4 → Q a1 I14 J14)))))))))) ∧ (r14 = 0 → Q ((-102)) I14 J14)))) ∧ (r2 = 0 → Q ((-101)) I2 J2)))
theorem mbX12_as : MB yX12_as cX12_as 4 ((Option.some FieldType.int)) 2 := ⟨tw1006, tw7, ⟨by decide, by decide⟩, by decide +kernel, by decide +kernel⟩
set_option maxHeartbeats 4000000 in
set_option maxRecDepth 100000 in
theorem kX12_as {l : Launch} {E : WE} {a1 : Int32} {a2 : Int32} {I : MI} {J : MJ} {Q : Int32 → MI → MJ → Prop} (h : wX12_as (wg E) a1 a2 I J Q) : Met l yX12_as (wsM yX12_as cX12_as 4 ((Option.some FieldType.int))) (rmO 2 43) (va_Pc [.ref (wa E 17 0), .int a1, .int a2] (Wp E I J)) (QI E Q) 0 0 (AA E) := by
  refine m_entry mbX12_as (Nat.le_of_ble_eq_true rfl) ?_
  intro p e s m args below meth c X ls hW hl
  have X : Cx E cX12_as 4 RX12 ((Option.some FieldType.int)) p s m args c meth := X
  have hx := X.1.1
  have hb := X.1.2.1
  have hl : lv_has ls 4 [(0, .ref (wa E 17 0)), (1, .int a1), (2, .int a2)] := hl
  refine lv_aload_n hx hb dX12_as_0 rfl (lv_at hl 0 rfl) ?_
  refine lv_iload_n hx hb dX12_as_1 rfl (lv_at hl 1 rfl) ?_
  refine af_i hW (rn_V X hW (As := [.int a1]) (rest := []) (okS hW sc17_0) rfl rfl (kX12_isMember h) mbX12_isMember tw999 tw1001 tp30 rfl hl.1 (Nat.le_of_ble_eq_true rfl) ⟨(Nat.le_of_ble_eq_true rfl), (Nat.le_of_ble_eq_true rfl)⟩ dX12_as_2) (fun r2 I2 J2 H locs h hW => ?_)
  refine lv_if_ne (tgt := 11) hx hb dX12_as_5 (by decide) (fun c5 => ?_) (fun c5 => ?_)
  · have h := h.1 c5
    refine lv_iload_n hx hb dX12_as_11 rfl (lv_at hl 2 rfl) ?_
    refine lv_iconst (v := 0) hx hb dX12_as_12 (by decide) ?_
    refine lv_iconst (v := 4) hx hb dX12_as_13 (by decide) ?_
    refine af_i hW (rn_S X hW (As := [.int a2, .int 0, .int 4]) (rest := []) (kX12_within h) mbX12_within tw969 tw970 rfl hl.1 (Nat.le_of_ble_eq_true rfl) ⟨(Nat.le_of_ble_eq_true rfl), (Nat.le_of_ble_eq_true rfl)⟩ dX12_as_14) (fun r14 I14 J14 H locs h hW => ?_)
    refine lv_if_ne (tgt := 23) hx hb dX12_as_17 (by decide) (fun c17 => ?_) (fun c17 => ?_)
    · have h := h.1 c17
      refine lv_aload_n hx hb dX12_as_23 rfl (lv_at hl 0 rfl) ?_
      refine r_get X hW 1 (okS hW sc17_0) rfl rfl inX12 (Nat.le_of_ble_eq_true rfl) tw835 rfl dX12_as_24 ?_
      refine lv_iload_n hx hb dX12_as_27 rfl (lv_at hl 1 rfl) ?_
      refine r_iald X hW (okS hW sc18_0) rfl h.1 dX12_as_28 ?_
      have h := h.2
      refine lv_istore_n (lv' := [(3, .int (I14 18 0 (Int32.toNatClampNeg a1))), (0, .ref (wa E 17 0)), (1, .int a1), (2, .int a2)]) hx hb dX12_as_29 rfl hl (by decide) rfl (fun ls hl => ?_)
      refine lv_iload_n hx hb dX12_as_30 rfl (lv_at hl 3 rfl) ?_
      refine lv_if_eq (tgt := 49) hx hb dX12_as_31 (by decide) (fun c31 => ?_) (fun c31 => ?_)
      · have h := h.1 c31
        refine lv_iload_n hx hb dX12_as_49 rfl (lv_at hl 2 rfl) ?_
        refine lv_goto (tgt := 54) hx hb dX12_as_50 (by decide) ?_
        exact e_i X hW h dX12_as_54
      · have h := h.2 c31
        refine lv_iload_n hx hb dX12_as_34 rfl (lv_at hl 0 rfl) ?_
        refine lv_iload_n hx hb dX12_as_35 rfl (lv_at hl 3 rfl) ?_
        refine lv_icmp_eq (tgt := 49) hx hb dX12_as_36 (by decide) (fun c36 => ?_) (fun c36 => ?_)
        · have h := h.1 c36
          refine lv_iload_n hx hb dX12_as_49 rfl (lv_at hl 2 rfl) ?_
          refine lv_goto (tgt := 54) hx hb dX12_as_50 (by decide) ?_
          exact e_i X hW h dX12_as_54
        · have h := h.2 c36
          refine lv_iload_n hx hb dX12_as_39 rfl (lv_at hl 3 rfl) ?_
          refine lv_iconst (v := 3) hx hb dX12_as_40 (by decide) ?_
          refine lv_icmp_ne (tgt := 53) hx hb dX12_as_41 (by decide) (fun c41 => ?_) (fun c41 => ?_)
          · have h := h.1 c41
            refine lv_iconst (v := (-1)) hx hb dX12_as_53 (by decide) ?_
            exact e_i X hW h dX12_as_54
          · have h := h.2 c41
            refine lv_iload_n hx hb dX12_as_44 rfl (lv_at hl 0 rfl) ?_
            refine lv_iconst (v := 4) hx hb dX12_as_45 (by decide) ?_
            refine lv_icmp_ne (tgt := 53) hx hb dX12_as_46 (by decide) (fun c46 => ?_) (fun c46 => ?_)
            · have h := h.1 c46
              refine lv_iconst (v := (-1)) hx hb dX12_as_53 (by decide) ?_
              exact e_i X hW h dX12_as_54
            · have h := h.2 c46
              refine lv_iload_n hx hb dX12_as_49 rfl (lv_at hl 2 rfl) ?_
              refine lv_goto (tgt := 54) hx hb dX12_as_50 (by decide) ?_
              exact e_i X hW h dX12_as_54
    · have h := h.2 c17
      refine lv_bipush (v := (-102)) hx hb dX12_as_20 (by decide) ?_
      exact e_i X hW h dX12_as_22
  · have h := h.2 c5
    refine lv_bipush (v := (-101)) hx hb dX12_as_8 (by decide) ?_
    exact e_i X hW h dX12_as_10
def wX12_memberNow (g : GS) (a1 : Int32) (a2 : Int32) (I : MI) (J : MJ) (Q : Int32 → MI → MJ → Prop) : Prop :=
  ((¬ a2 = 0 → ((¬ a2 = 1 → vp_in a1 8 ∧ (Q (I 20 0 (Int32.toNatClampNeg a1)) I J)) ∧ (a2 = 1 → vp_in a1 8 ∧ (Q (I 19 0 (Int32.toNatClampNeg a1)) I J)))) ∧ (a2 = 0 → vp_in a1 8 ∧ (Q (I 18 0 (Int32.toNatClampNeg a1)) I J)))
theorem mbX12_memberNow : MB yX12_memberNow cX12_memberNow 3 ((Option.some FieldType.int)) 2 := ⟨tw1014, tw7, ⟨by decide, by decide⟩, by decide +kernel, by decide +kernel⟩
set_option maxHeartbeats 4000000 in
set_option maxRecDepth 100000 in
theorem kX12_memberNow {l : Launch} {E : WE} {a1 : Int32} {a2 : Int32} {I : MI} {J : MJ} {Q : Int32 → MI → MJ → Prop} (h : wX12_memberNow (wg E) a1 a2 I J Q) : Met l yX12_memberNow (wsM yX12_memberNow cX12_memberNow 3 ((Option.some FieldType.int))) (rmO 0 0) (va_Pc [.ref (wa E 17 0), .int a1, .int a2] (Wp E I J)) (QI E Q) 0 0 (AA E) := by
  refine m_entry mbX12_memberNow (Nat.le_of_ble_eq_true rfl) ?_
  intro p e s m args below meth c X ls hW hl
  have X : Cx E cX12_memberNow 3 RX12 ((Option.some FieldType.int)) p s m args c meth := X
  have hx := X.1.1
  have hb := X.1.2.1
  have hl : lv_has ls 3 [(0, .ref (wa E 17 0)), (1, .int a1), (2, .int a2)] := hl
  refine lv_iload_n hx hb dX12_memberNow_0 rfl (lv_at hl 2 rfl) ?_
  refine lv_if_ne (tgt := 13) hx hb dX12_memberNow_1 (by decide) (fun c1 => ?_) (fun c1 => ?_)
  · have h := h.1 c1
    refine lv_iload_n hx hb dX12_memberNow_13 rfl (lv_at hl 2 rfl) ?_
    refine lv_iconst (v := 1) hx hb dX12_memberNow_14 (by decide) ?_
    refine lv_icmp_ne (tgt := 27) hx hb dX12_memberNow_15 (by decide) (fun c15 => ?_) (fun c15 => ?_)
    · have h := h.1 c15
      refine lv_aload_n hx hb dX12_memberNow_27 rfl (lv_at hl 0 rfl) ?_
      refine r_get X hW 3 (okS hW sc17_0) rfl rfl inX12 (Nat.le_of_ble_eq_true rfl) tw837 rfl dX12_memberNow_28 ?_
      refine lv_iload_n hx hb dX12_memberNow_31 rfl (lv_at hl 1 rfl) ?_
      refine r_iald X hW (okS hW sc20_0) rfl h.1 dX12_memberNow_32 ?_
      have h := h.2
      exact e_i X hW h dX12_memberNow_33
    · have h := h.2 c15
      refine lv_aload_n hx hb dX12_memberNow_18 rfl (lv_at hl 0 rfl) ?_
      refine r_get X hW 2 (okS hW sc17_0) rfl rfl inX12 (Nat.le_of_ble_eq_true rfl) tw836 rfl dX12_memberNow_19 ?_
      refine lv_iload_n hx hb dX12_memberNow_22 rfl (lv_at hl 1 rfl) ?_
      refine r_iald X hW (okS hW sc19_0) rfl h.1 dX12_memberNow_23 ?_
      have h := h.2
      refine lv_goto (tgt := 33) hx hb dX12_memberNow_24 (by decide) ?_
      exact e_i X hW h dX12_memberNow_33
  · have h := h.2 c1
    refine lv_aload_n hx hb dX12_memberNow_4 rfl (lv_at hl 0 rfl) ?_
    refine r_get X hW 1 (okS hW sc17_0) rfl rfl inX12 (Nat.le_of_ble_eq_true rfl) tw835 rfl dX12_memberNow_5 ?_
    refine lv_iload_n hx hb dX12_memberNow_8 rfl (lv_at hl 1 rfl) ?_
    refine r_iald X hW (okS hW sc18_0) rfl h.1 dX12_memberNow_9 ?_
    have h := h.2
    refine lv_goto (tgt := 33) hx hb dX12_memberNow_10 (by decide) ?_
    exact e_i X hW h dX12_memberNow_33
def wX12_about (g : GS) (a1 : Int32) (a2 : Int32) (I : MI) (J : MJ) (Q : Int32 → MI → MJ → Prop) : Prop :=
  wX12_isMember g a1 I J (fun r2 I2 J2 => ((¬ r2 = 0 → wX12_within g a2 0 2 I2 J2 (fun r16 I16 J16 => ((r16 = 0 → Q ((-102)) I16 J16) ∧ (¬ r16 = 0 → wX12_memberNow g a1 a2 I16 J16 (fun r25 I25 J25 => Q r25 I25 J25))))) ∧ (r2 = 0 → Q ((-101)) I2 J2)))
theorem mbX12_about : MB yX12_about cX12_about 3 ((Option.some FieldType.int)) 2 := ⟨tw1010, tw7, ⟨by decide, by decide⟩, by decide +kernel, by decide +kernel⟩
set_option maxHeartbeats 4000000 in
set_option maxRecDepth 100000 in
theorem kX12_about {l : Launch} {E : WE} {a1 : Int32} {a2 : Int32} {I : MI} {J : MJ} {Q : Int32 → MI → MJ → Prop} (h : wX12_about (wg E) a1 a2 I J Q) : Met l yX12_about (wsM yX12_about cX12_about 3 ((Option.some FieldType.int))) (rmO 2 43) (va_Pc [.ref (wa E 17 0), .int a1, .int a2] (Wp E I J)) (QI E Q) 0 0 (AA E) := by
  refine m_entry mbX12_about (Nat.le_of_ble_eq_true rfl) ?_
  intro p e s m args below meth c X ls hW hl
  have X : Cx E cX12_about 3 RX12 ((Option.some FieldType.int)) p s m args c meth := X
  have hx := X.1.1
  have hb := X.1.2.1
  have hl : lv_has ls 3 [(0, .ref (wa E 17 0)), (1, .int a1), (2, .int a2)] := hl
  refine lv_aload_n hx hb dX12_about_0 rfl (lv_at hl 0 rfl) ?_
  refine lv_iload_n hx hb dX12_about_1 rfl (lv_at hl 1 rfl) ?_
  refine af_i hW (rn_V X hW (As := [.int a1]) (rest := []) (okS hW sc17_0) rfl rfl (kX12_isMember h) mbX12_isMember tw999 tw1001 tp30 rfl hl.1 (Nat.le_of_ble_eq_true rfl) ⟨(Nat.le_of_ble_eq_true rfl), (Nat.le_of_ble_eq_true rfl)⟩ dX12_about_2) (fun r2 I2 J2 H locs h hW => ?_)
  refine lv_if_ne (tgt := 13) hx hb dX12_about_5 (by decide) (fun c5 => ?_) (fun c5 => ?_)
  · have h := h.1 c5
    refine lv_iload_n hx hb dX12_about_13 rfl (lv_at hl 2 rfl) ?_
    refine lv_iconst (v := 0) hx hb dX12_about_14 (by decide) ?_
    refine lv_iconst (v := 2) hx hb dX12_about_15 (by decide) ?_
    refine af_i hW (rn_S X hW (As := [.int a2, .int 0, .int 2]) (rest := []) (kX12_within h) mbX12_within tw969 tw970 rfl hl.1 (Nat.le_of_ble_eq_true rfl) ⟨(Nat.le_of_ble_eq_true rfl), (Nat.le_of_ble_eq_true rfl)⟩ dX12_about_16) (fun r16 I16 J16 H locs h hW => ?_)
    refine lv_if_eq (tgt := 31) hx hb dX12_about_19 (by decide) (fun c19 => ?_) (fun c19 => ?_)
    · have h := h.1 c19
      refine lv_bipush (v := (-102)) hx hb dX12_about_31 (by decide) ?_
      exact e_i X hW h dX12_about_33
    · have h := h.2 c19
      refine lv_aload_n hx hb dX12_about_22 rfl (lv_at hl 0 rfl) ?_
      refine lv_iload_n hx hb dX12_about_23 rfl (lv_at hl 1 rfl) ?_
      refine lv_iload_n hx hb dX12_about_24 rfl (lv_at hl 2 rfl) ?_
      refine af_i hW (rn_V X hW (As := [.int a1, .int a2]) (rest := []) (okS hW sc17_0) rfl rfl (kX12_memberNow h) mbX12_memberNow tw1011 tw1013 tp31 rfl hl.1 (Nat.le_of_ble_eq_true rfl) ⟨(Nat.le_of_ble_eq_true rfl), (Nat.le_of_ble_eq_true rfl)⟩ dX12_about_25) (fun r25 I25 J25 H locs h hW => ?_)
      refine lv_goto (tgt := 33) hx hb dX12_about_28 (by decide) ?_
      exact e_i X hW h dX12_about_33
  · have h := h.2 c5
    refine lv_bipush (v := (-101)) hx hb dX12_about_8 (by decide) ?_
    refine lv_goto (tgt := 33) hx hb dX12_about_10 (by decide) ?_
    exact e_i X hW h dX12_about_33
def wX12_comes (g : GS) (a1 : Int32) (a2 : Int32) (I : MI) (J : MJ) (Q : Int32 → MI → MJ → Prop) : Prop :=
  wX12_isMember g a1 I J (fun r2 I2 J2 => ((¬ r2 = 0 → wX12_within g a2 0 10 I2 J2 (fun r15 I15 J15 => ((¬ r15 = 0 → vp_in a1 8 ∧ (vp_in a1 8 ∧ (Q (I15 20 0 (Int32.toNatClampNeg a1)) (u3 I15 20 0 (upd (I15 20 0) (Int32.toNatClampNeg a1) a2)) J15))) ∧ (r15 = 0 → Q ((-102)) I15 J15)))) ∧ (r2 = 0 → Q ((-101)) I2 J2)))
theorem mbX12_comes : MB yX12_comes cX12_comes 4 ((Option.some FieldType.int)) 2 := ⟨tw1018, tw7, ⟨by decide, by decide⟩, by decide +kernel, by decide +kernel⟩
set_option maxHeartbeats 4000000 in
set_option maxRecDepth 100000 in
theorem kX12_comes {l : Launch} {E : WE} {a1 : Int32} {a2 : Int32} {I : MI} {J : MJ} {Q : Int32 → MI → MJ → Prop} (h : wX12_comes (wg E) a1 a2 I J Q) : Met l yX12_comes (wsM yX12_comes cX12_comes 4 ((Option.some FieldType.int))) (rmO 2 43) (va_Pc [.ref (wa E 17 0), .int a1, .int a2] (Wp E I J)) (QI E Q) 0 0 (AA E) := by
  refine m_entry mbX12_comes (Nat.le_of_ble_eq_true rfl) ?_
  intro p e s m args below meth c X ls hW hl
  have X : Cx E cX12_comes 4 RX12 ((Option.some FieldType.int)) p s m args c meth := X
  have hx := X.1.1
  have hb := X.1.2.1
  have hl : lv_has ls 4 [(0, .ref (wa E 17 0)), (1, .int a1), (2, .int a2)] := hl
  refine lv_aload_n hx hb dX12_comes_0 rfl (lv_at hl 0 rfl) ?_
  refine lv_iload_n hx hb dX12_comes_1 rfl (lv_at hl 1 rfl) ?_
  refine af_i hW (rn_V X hW (As := [.int a1]) (rest := []) (okS hW sc17_0) rfl rfl (kX12_isMember h) mbX12_isMember tw999 tw1001 tp30 rfl hl.1 (Nat.le_of_ble_eq_true rfl) ⟨(Nat.le_of_ble_eq_true rfl), (Nat.le_of_ble_eq_true rfl)⟩ dX12_comes_2) (fun r2 I2 J2 H locs h hW => ?_)
  refine lv_if_ne (tgt := 11) hx hb dX12_comes_5 (by decide) (fun c5 => ?_) (fun c5 => ?_)
  · have h := h.1 c5
    refine lv_iload_n hx hb dX12_comes_11 rfl (lv_at hl 2 rfl) ?_
    refine lv_iconst (v := 0) hx hb dX12_comes_12 (by decide) ?_
    refine lv_bipush (v := 10) hx hb dX12_comes_13 (by decide) ?_
    refine af_i hW (rn_S X hW (As := [.int a2, .int 0, .int 10]) (rest := []) (kX12_within h) mbX12_within tw969 tw970 rfl hl.1 (Nat.le_of_ble_eq_true rfl) ⟨(Nat.le_of_ble_eq_true rfl), (Nat.le_of_ble_eq_true rfl)⟩ dX12_comes_15) (fun r15 I15 J15 H locs h hW => ?_)
    refine lv_if_ne (tgt := 24) hx hb dX12_comes_18 (by decide) (fun c18 => ?_) (fun c18 => ?_)
    · have h := h.1 c18
      refine lv_aload_n hx hb dX12_comes_24 rfl (lv_at hl 0 rfl) ?_
      refine r_get X hW 3 (okS hW sc17_0) rfl rfl inX12 (Nat.le_of_ble_eq_true rfl) tw837 rfl dX12_comes_25 ?_
      refine lv_iload_n hx hb dX12_comes_28 rfl (lv_at hl 1 rfl) ?_
      refine r_iald X hW (okS hW sc20_0) rfl h.1 dX12_comes_29 ?_
      have h := h.2
      refine lv_istore_n (lv' := [(3, .int (I15 20 0 (Int32.toNatClampNeg a1))), (0, .ref (wa E 17 0)), (1, .int a1), (2, .int a2)]) hx hb dX12_comes_30 rfl hl (by decide) rfl (fun ls hl => ?_)
      refine lv_aload_n hx hb dX12_comes_31 rfl (lv_at hl 1 rfl) ?_
      refine r_get X hW 3 (okS hW sc17_0) rfl rfl inX12 (Nat.le_of_ble_eq_true rfl) tw837 rfl dX12_comes_32 ?_
      refine lv_iload_n hx hb dX12_comes_35 rfl (lv_at hl 2 rfl) ?_
      refine lv_iload_n hx hb dX12_comes_36 rfl (lv_at hl 3 rfl) ?_
      refine r_iast X hW (okS hW sc20_0) (fun _ => rfl) h.1 dX12_comes_37 (fun H locs hW => ?_)
      have h := h.2
      refine lv_iload_n hx hb dX12_comes_38 rfl (lv_at hl 0 rfl) ?_
      exact e_i X hW h dX12_comes_39
    · have h := h.2 c18
      refine lv_bipush (v := (-102)) hx hb dX12_comes_21 (by decide) ?_
      exact e_i X hW h dX12_comes_23
  · have h := h.2 c5
    refine lv_bipush (v := (-101)) hx hb dX12_comes_8 (by decide) ?_
    exact e_i X hW h dX12_comes_10
def wX12_candidate (g : GS) (a1 : Int32) (I : MI) (J : MJ) (Q : Int32 → MI → MJ → Prop) : Prop :=
  wX12_isMember g a1 I J (fun r2 I2 J2 => ((¬ r2 = 0 → ((¬ (I2 17 0 4) = 6 → vp_in (I2 17 0 4) 6 ∧ (∀ I40 : MI, I40 = u3 (u3 I2 21 0 (upd (I2 21 0) (Int32.toNatClampNeg (I2 17 0 4)) a1)) 17 0 (upd ((u3 I2 21 0 (upd (I2 21 0) (Int32.toNatClampNeg (I2 17 0 4)) a1)) 17 0) 4 (((u3 I2 21 0 (upd (I2 21 0) (Int32.toNatClampNeg (I2 17 0 4)) a1)) 17 0 4) + 1)) → Q ((I40 17 0 4) - 1) I40 J2)) ∧ ((I2 17 0 4) = 6 → Q ((-104)) I2 J2))) ∧ (r2 = 0 → Q ((-101)) I2 J2)))
theorem mbX12_candidate : MB yX12_candidate cX12_candidate 2 ((Option.some FieldType.int)) 1 := ⟨tw1022, tw7, ⟨by decide, by decide⟩, by decide +kernel, by decide +kernel⟩
set_option maxHeartbeats 4000000 in
set_option maxRecDepth 100000 in
theorem kX12_candidate {l : Launch} {E : WE} {a1 : Int32} {I : MI} {J : MJ} {Q : Int32 → MI → MJ → Prop} (h : wX12_candidate (wg E) a1 I J Q) : Met l yX12_candidate (wsM yX12_candidate cX12_candidate 2 ((Option.some FieldType.int))) (rmO 2 43) (va_Pc [.ref (wa E 17 0), .int a1] (Wp E I J)) (QI E Q) 0 0 (AA E) := by
  refine m_entry mbX12_candidate (Nat.le_of_ble_eq_true rfl) ?_
  intro p e s m args below meth c X ls hW hl
  have X : Cx E cX12_candidate 2 RX12 ((Option.some FieldType.int)) p s m args c meth := X
  have hx := X.1.1
  have hb := X.1.2.1
  have hl : lv_has ls 2 [(0, .ref (wa E 17 0)), (1, .int a1)] := hl
  refine lv_aload_n hx hb dX12_candidate_0 rfl (lv_at hl 0 rfl) ?_
  refine lv_iload_n hx hb dX12_candidate_1 rfl (lv_at hl 1 rfl) ?_
  refine af_i hW (rn_V X hW (As := [.int a1]) (rest := []) (okS hW sc17_0) rfl rfl (kX12_isMember h) mbX12_isMember tw999 tw1001 tp30 rfl hl.1 (Nat.le_of_ble_eq_true rfl) ⟨(Nat.le_of_ble_eq_true rfl), (Nat.le_of_ble_eq_true rfl)⟩ dX12_candidate_2) (fun r2 I2 J2 H locs h hW => ?_)
  refine lv_if_ne (tgt := 11) hx hb dX12_candidate_5 (by decide) (fun c5 => ?_) (fun c5 => ?_)
  · have h := h.1 c5
    refine lv_aload_n hx hb dX12_candidate_11 rfl (lv_at hl 0 rfl) ?_
    refine r_get X hW 4 (okS hW sc17_0) rfl rfl inX12 (Nat.le_of_ble_eq_true rfl) tw838 rfl dX12_candidate_12 ?_
    refine lv_bipush (v := 6) hx hb dX12_candidate_15 (by decide) ?_
    refine lv_icmp_ne (tgt := 23) hx hb dX12_candidate_17 (by decide) (fun c17 => ?_) (fun c17 => ?_)
    · have h := h.1 c17
      refine lv_aload_n hx hb dX12_candidate_23 rfl (lv_at hl 0 rfl) ?_
      refine r_get X hW 5 (okS hW sc17_0) rfl rfl inX12 (Nat.le_of_ble_eq_true rfl) tw839 rfl dX12_candidate_24 ?_
      refine lv_aload_n hx hb dX12_candidate_27 rfl (lv_at hl 0 rfl) ?_
      refine r_get X hW 4 (okS hW sc17_0) rfl rfl inX12 (Nat.le_of_ble_eq_true rfl) tw838 rfl dX12_candidate_28 ?_
      refine lv_iload_n hx hb dX12_candidate_31 rfl (lv_at hl 1 rfl) ?_
      refine r_iast X hW (okS hW sc21_0) (fun _ => rfl) h.1 dX12_candidate_32 (fun H locs hW => ?_)
      have h := h.2
      refine lv_aload_n hx hb dX12_candidate_33 rfl (lv_at hl 0 rfl) ?_
      refine lv_dup hx hb dX12_candidate_34 rfl ?_
      refine r_get X hW 4 (okS hW sc17_0) rfl rfl inX12 (Nat.le_of_ble_eq_true rfl) tw838 rfl dX12_candidate_35 ?_
      refine lv_iconst (v := 1) hx hb dX12_candidate_38 (by decide) ?_
      refine lv_iadd hx hb dX12_candidate_39 ?_
      refine r_putI X hW 4 (okS hW sc17_0) rfl rfl inX12 tyX12 tyX12_ok nmX12 (Nat.le_of_ble_eq_true rfl) tw838 rfl rfl rfl rfl (Nat.le_of_ble_eq_true rfl) rfl dX12_candidate_40 (fun H locs hW => ?_)
      obtain ⟨I40, eI40⟩ : ∃ z : MI, z = u3 (u3 I2 21 0 (upd (I2 21 0) (Int32.toNatClampNeg (I2 17 0 4)) a1)) 17 0 (upd ((u3 I2 21 0 (upd (I2 21 0) (Int32.toNatClampNeg (I2 17 0 4)) a1)) 17 0) 4 (((u3 I2 21 0 (upd (I2 21 0) (Int32.toNatClampNeg (I2 17 0 4)) a1)) 17 0 4) + 1)) := ⟨_, rfl⟩
      rw [← eI40] at hW
      have h := h I40 eI40
      refine lv_aload_n hx hb dX12_candidate_43 rfl (lv_at hl 0 rfl) ?_
      refine r_get X hW 4 (okS hW sc17_0) rfl rfl inX12 (Nat.le_of_ble_eq_true rfl) tw838 rfl dX12_candidate_44 ?_
      refine lv_iconst (v := 1) hx hb dX12_candidate_47 (by decide) ?_
      refine lv_isub hx hb dX12_candidate_48 ?_
      exact e_i X hW h dX12_candidate_49
    · have h := h.2 c17
      refine lv_bipush (v := (-104)) hx hb dX12_candidate_20 (by decide) ?_
      exact e_i X hW h dX12_candidate_22
  · have h := h.2 c5
    refine lv_bipush (v := (-101)) hx hb dX12_candidate_8 (by decide) ?_
    exact e_i X hW h dX12_candidate_10
def wX12_minds_b66 (g : GS) (Q : Int32 → MI → MJ → Prop) (v4 : Int32) (t0 : Int32) (t1 : Int32) (I : MI) (J : MJ) : Prop :=
  vp_in t1 48 ∧ (Q v4 (u3 I 22 0 (upd (I 22 0) (Int32.toNatClampNeg t1) t0)) J)
set_option maxHeartbeats 4000000 in
set_option maxRecDepth 100000 in
theorem bX12_minds_66 {p : Program} {l : Launch} {e : Env} {s : State} {m : MethodId} {args : Array Value} {below : List Frame} {meth : Method} {c : Code} {E : WE} {Q : Int32 → MI → MJ → Prop} (X : Cx E cX12_minds 5 RX12 ((Option.some FieldType.int)) p s m args c meth) : ∀ (v4 : Int32) (t0 : Int32) (t1 : Int32) (I : MI) (J : MJ) (H : Heap) (locs : List Loc) (ls : Array Slot), wX12_minds_b66 (wg E) Q v4 t0 t1 I J → Wd E I J s H locs → lv_has ls 5 [(4, .int v4)] → W p l e (rmO 2 43) s m args below meth c H locs 0 0 (MQ below (QI E Q) args s 0 0 (AA E)) (F0 m 66 ls [.int t0, .int t1, .ref (wa E 22 0)]) := by
  have hx := X.1.1
  have hb := X.1.2.1
  intro v4 t0 t1 I J H locs ls h hW hl
  refine r_iast X hW (okS hW sc22_0) (fun _ => rfl) h.1 dX12_minds_66 (fun H locs hW => ?_)
  have h := h.2
  refine lv_iload hx hb dX12_minds_67 (lv_at hl 0 rfl) ?_
  exact e_i X hW h dX12_minds_69
def wX12_minds (g : GS) (a1 : Int32) (a2 : Int32) (a3 : Int32) (I : MI) (J : MJ) (Q : Int32 → MI → MJ → Prop) : Prop :=
  wX12_isMember g a1 I J (fun r2 I2 J2 => ((r2 = 0 → Q ((-101)) I2 J2) ∧ (¬ r2 = 0 → wX12_isCandidate g a2 I2 J2 (fun r10 I10 J10 => ((¬ r10 = 0 → wX12_within g a3 ((-1)) 10 I10 J10 (fun r23 I23 J23 => ((¬ r23 = 0 → vp_in ((6 * a1) + a2) 48 ∧ (((¬ a3 = ((-1)) → wX12_minds_b66 g Q (I23 22 0 (Int32.toNatClampNeg ((6 * a1) + a2))) a3 ((6 * a1) + a2) I23 J23) ∧ (a3 = ((-1)) → wX12_minds_b66 g Q (I23 22 0 (Int32.toNatClampNeg ((6 * a1) + a2))) (I23 22 0 (Int32.toNatClampNeg ((6 * a1) + a2))) ((6 * a1) + a2) I23 J23)))) ∧ (r23 = 0 → Q ((-102)) I23 J23)))) ∧ (r10 = 0 → Q ((-101)) I10 J10))))))
theorem mbX12_minds : MB yX12_minds cX12_minds 5 ((Option.some FieldType.int)) 3 := ⟨tw1026, tw7, ⟨by decide, by decide⟩, by decide +kernel, by decide +kernel⟩
set_option maxHeartbeats 4000000 in
set_option maxRecDepth 100000 in
theorem kX12_minds {l : Launch} {E : WE} {a1 : Int32} {a2 : Int32} {a3 : Int32} {I : MI} {J : MJ} {Q : Int32 → MI → MJ → Prop} (h : wX12_minds (wg E) a1 a2 a3 I J Q) : Met l yX12_minds (wsM yX12_minds cX12_minds 5 ((Option.some FieldType.int))) (rmO 2 43) (va_Pc [.ref (wa E 17 0), .int a1, .int a2, .int a3] (Wp E I J)) (QI E Q) 0 0 (AA E) := by
  refine m_entry mbX12_minds (Nat.le_of_ble_eq_true rfl) ?_
  intro p e s m args below meth c X ls hW hl
  have X : Cx E cX12_minds 5 RX12 ((Option.some FieldType.int)) p s m args c meth := X
  have hx := X.1.1
  have hb := X.1.2.1
  have hl : lv_has ls 5 [(0, .ref (wa E 17 0)), (1, .int a1), (2, .int a2), (3, .int a3)] := hl
  refine lv_aload_n hx hb dX12_minds_0 rfl (lv_at hl 0 rfl) ?_
  refine lv_iload_n hx hb dX12_minds_1 rfl (lv_at hl 1 rfl) ?_
  refine af_i hW (rn_V X hW (As := [.int a1]) (rest := []) (okS hW sc17_0) rfl rfl (kX12_isMember h) mbX12_isMember tw999 tw1001 tp30 rfl hl.1 (Nat.le_of_ble_eq_true rfl) ⟨(Nat.le_of_ble_eq_true rfl), (Nat.le_of_ble_eq_true rfl)⟩ dX12_minds_2) (fun r2 I2 J2 H locs h hW => ?_)
  refine lv_if_eq (tgt := 16) hx hb dX12_minds_5 (by decide) (fun c5 => ?_) (fun c5 => ?_)
  · have h := h.1 c5
    refine lv_bipush (v := (-101)) hx hb dX12_minds_16 (by decide) ?_
    exact e_i X hW h dX12_minds_18
  · have h := h.2 c5
    refine lv_aload_n hx hb dX12_minds_8 rfl (lv_at hl 0 rfl) ?_
    refine lv_iload_n hx hb dX12_minds_9 rfl (lv_at hl 2 rfl) ?_
    refine af_i hW (rn_V X hW (As := [.int a2]) (rest := []) (okS hW sc17_0) rfl rfl (kX12_isCandidate h) mbX12_isCandidate tw1027 tw1029 tp32 rfl hl.1 (Nat.le_of_ble_eq_true rfl) ⟨(Nat.le_of_ble_eq_true rfl), (Nat.le_of_ble_eq_true rfl)⟩ dX12_minds_10) (fun r10 I10 J10 H locs h hW => ?_)
    refine lv_if_ne (tgt := 19) hx hb dX12_minds_13 (by decide) (fun c13 => ?_) (fun c13 => ?_)
    · have h := h.1 c13
      refine lv_iload_n hx hb dX12_minds_19 rfl (lv_at hl 3 rfl) ?_
      refine lv_iconst (v := (-1)) hx hb dX12_minds_20 (by decide) ?_
      refine lv_bipush (v := 10) hx hb dX12_minds_21 (by decide) ?_
      refine af_i hW (rn_S X hW (As := [.int a3, .int ((-1)), .int 10]) (rest := []) (kX12_within h) mbX12_within tw969 tw970 rfl hl.1 (Nat.le_of_ble_eq_true rfl) ⟨(Nat.le_of_ble_eq_true rfl), (Nat.le_of_ble_eq_true rfl)⟩ dX12_minds_23) (fun r23 I23 J23 H locs h hW => ?_)
      refine lv_if_ne (tgt := 32) hx hb dX12_minds_26 (by decide) (fun c26 => ?_) (fun c26 => ?_)
      · have h := h.1 c26
        refine lv_aload_n hx hb dX12_minds_32 rfl (lv_at hl 0 rfl) ?_
        refine r_get X hW 6 (okS hW sc17_0) rfl rfl inX12 (Nat.le_of_ble_eq_true rfl) tw840 rfl dX12_minds_33 ?_
        refine lv_bipush (v := 6) hx hb dX12_minds_36 (by decide) ?_
        refine lv_iload_n hx hb dX12_minds_38 rfl (lv_at hl 1 rfl) ?_
        refine lv_imul hx hb dX12_minds_39 ?_
        refine lv_iload_n hx hb dX12_minds_40 rfl (lv_at hl 2 rfl) ?_
        refine lv_iadd hx hb dX12_minds_41 ?_
        refine r_iald X hW (okS hW sc22_0) rfl h.1 dX12_minds_42 ?_
        have h := h.2
        refine lv_istore (lv' := [(4, .int (I23 22 0 (Int32.toNatClampNeg ((6 * a1) + a2)))), (0, .ref (wa E 17 0)), (1, .int a1), (2, .int a2), (3, .int a3)]) hx hb dX12_minds_43 hl (by decide) rfl (fun ls hl => ?_)
        refine lv_aload_n hx hb dX12_minds_45 rfl (lv_at hl 1 rfl) ?_
        refine r_get X hW 6 (okS hW sc17_0) rfl rfl inX12 (Nat.le_of_ble_eq_true rfl) tw840 rfl dX12_minds_46 ?_
        refine lv_bipush (v := 6) hx hb dX12_minds_49 (by decide) ?_
        refine lv_iload_n hx hb dX12_minds_51 rfl (lv_at hl 2 rfl) ?_
        refine lv_imul hx hb dX12_minds_52 ?_
        refine lv_iload_n hx hb dX12_minds_53 rfl (lv_at hl 3 rfl) ?_
        refine lv_iadd hx hb dX12_minds_54 ?_
        refine lv_iload_n hx hb dX12_minds_55 rfl (lv_at hl 4 rfl) ?_
        refine lv_iconst (v := (-1)) hx hb dX12_minds_56 (by decide) ?_
        refine lv_icmp_ne (tgt := 65) hx hb dX12_minds_57 (by decide) (fun c57 => ?_) (fun c57 => ?_)
        · have h := h.1 c57
          refine lv_iload_n hx hb dX12_minds_65 rfl (lv_at hl 4 rfl) ?_
          exact bX12_minds_66 X (I23 22 0 (Int32.toNatClampNeg ((6 * a1) + a2))) a3 ((6 * a1) + a2) _ _ _ _ _  h hW (lv_sub hl [0] rfl)
        · have h := h.2 c57
          refine lv_iload hx hb dX12_minds_60 (lv_at hl 0 rfl) ?_
          refine lv_goto (tgt := 66) hx hb dX12_minds_62 (by decide) ?_
          exact bX12_minds_66 X (I23 22 0 (Int32.toNatClampNeg ((6 * a1) + a2))) (I23 22 0 (Int32.toNatClampNeg ((6 * a1) + a2))) ((6 * a1) + a2) _ _ _ _ _  h hW (lv_sub hl [0] rfl)
      · have h := h.2 c26
        refine lv_bipush (v := (-102)) hx hb dX12_minds_29 (by decide) ?_
        exact e_i X hW h dX12_minds_31
    · have h := h.2 c13
      refine lv_bipush (v := (-101)) hx hb dX12_minds_16 (by decide) ?_
      exact e_i X hW h dX12_minds_18
def wX12_mindedBy_b33 (g : GS) (ko4 : Int32 → Int32 → Int32 → MI → MJ → Prop) (Q : Int32 → MI → MJ → Prop) (v1 : Int32) (v3 : Int32) (t0 : Int32) (t1 : Int32) (I : MI) (J : MJ) : Prop :=
  ko4 v1 (t1 + t0) (v3 + 1) I J
set_option maxHeartbeats 4000000 in
set_option maxRecDepth 100000 in
theorem bX12_mindedBy_33 {p : Program} {l : Launch} {e : Env} {s : State} {m : MethodId} {args : Array Value} {below : List Frame} {meth : Method} {c : Code} {E : WE} {Q : Int32 → MI → MJ → Prop} {ko4 : Int32 → Int32 → Int32 → MI → MJ → Prop} (X : Cx E cX12_mindedBy 4 RX12 ((Option.some FieldType.int)) p s m args c meth)
    (hk4 : ∀ (v1 : Int32) (v2 : Int32) (v3 : Int32) (I : MI) (J : MJ) (H : Heap) (locs : List Loc) (ls : Array Slot), ko4 v1 v2 v3 I J → Wd E I J s H locs → lv_has ls 4 [(0, .ref (wa E 17 0)), (1, .int v1), (2, .int v2), (3, .int v3)] → W p l e (rmO 0 0) s m args below meth c H locs 0 0 (MQ below (QI E Q) args s 0 0 (AA E)) (F0 m 4 ls [])) : ∀ (v1 : Int32) (v3 : Int32) (t0 : Int32) (t1 : Int32) (I : MI) (J : MJ) (H : Heap) (locs : List Loc) (ls : Array Slot), wX12_mindedBy_b33 (wg E) ko4 Q v1 v3 t0 t1 I J → Wd E I J s H locs → lv_has ls 4 [(0, .ref (wa E 17 0)), (1, .int v1), (3, .int v3)] → W p l e (rmO 0 0) s m args below meth c H locs 0 0 (MQ below (QI E Q) args s 0 0 (AA E)) (F0 m 33 ls [.int t0, .int t1]) := by
  have hx := X.1.1
  have hb := X.1.2.1
  intro v1 v3 t0 t1 I J H locs ls h hW hl
  refine lv_iadd hx hb dX12_mindedBy_33 ?_
  refine lv_istore_n (lv' := [(2, .int (t1 + t0)), (0, .ref (wa E 17 0)), (1, .int v1), (3, .int v3)]) hx hb dX12_mindedBy_34 rfl hl (by decide) rfl (fun ls hl => ?_)
  refine lv_iinc (v := v3 + 1) (lv' := [(3, .int (v3 + 1)), (2, .int (t1 + t0)), (0, .ref (wa E 17 0)), (1, .int v1)]) hx hb dX12_mindedBy_35 hl (k := 3) rfl rfl (by decide) rfl (fun ls hl => ?_)
  refine lv_goto (tgt := 4) hx hb dX12_mindedBy_38 (by decide) ?_
  exact hk4 v1 (t1 + t0) (v3 + 1) _ _ _ _ _  h hW (lv_sub hl [2, 3, 1, 0] rfl)
def wX12_mindedBy_b4 (g : GS) (Q : Int32 → MI → MJ → Prop) : Nat → Int32 → Int32 → Int32 → MI → MJ → Prop
  | 0, _, _, _, _, _ => False
  | n + 1, v1, v2, v3, I, J => (((I 17 0 0) ≤ v3 → Q v2 I J) ∧ (¬ (I 17 0 0) ≤ v3 → vp_in ((6 * v3) + v1) 48 ∧ ((((I 22 0 (Int32.toNatClampNeg ((6 * v3) + v1))) < 5 → wX12_mindedBy_b33 g (fun v1 v2 v3 I J => wX12_mindedBy_b4 g Q n v1 v2 v3 I J) Q v1 v3 0 v2 I J) ∧ (¬ (I 22 0 (Int32.toNatClampNeg ((6 * v3) + v1))) < 5 → wX12_mindedBy_b33 g (fun v1 v2 v3 I J => wX12_mindedBy_b4 g Q n v1 v2 v3 I J) Q v1 v3 1 v2 I J)))))
set_option maxHeartbeats 4000000 in
set_option maxRecDepth 100000 in
theorem bX12_mindedBy_4 {p : Program} {l : Launch} {e : Env} {s : State} {m : MethodId} {args : Array Value} {below : List Frame} {meth : Method} {c : Code} {E : WE} {Q : Int32 → MI → MJ → Prop} (X : Cx E cX12_mindedBy 4 RX12 ((Option.some FieldType.int)) p s m args c meth) (n : Nat) : ∀ (v1 : Int32) (v2 : Int32) (v3 : Int32) (I : MI) (J : MJ) (H : Heap) (locs : List Loc) (ls : Array Slot), wX12_mindedBy_b4 (wg E) Q n v1 v2 v3 I J → Wd E I J s H locs → lv_has ls 4 [(0, .ref (wa E 17 0)), (1, .int v1), (2, .int v2), (3, .int v3)] → W p l e (rmO 0 0) s m args below meth c H locs 0 0 (MQ below (QI E Q) args s 0 0 (AA E)) (F0 m 4 ls []) := by
  have hx := X.1.1
  have hb := X.1.2.1
  induction n with
  | zero => intro v1 v2 v3 I J H locs ls h hW hl; exact h.elim
  | succ n ih =>
    intro v1 v2 v3 I J H locs ls h hW hl
    refine lv_iload_n hx hb dX12_mindedBy_4 rfl (lv_at hl 3 rfl) ?_
    refine lv_aload_n hx hb dX12_mindedBy_5 rfl (lv_at hl 0 rfl) ?_
    refine r_get X hW 0 (okS hW sc17_0) rfl rfl inX12 (Nat.le_of_ble_eq_true rfl) tw834 rfl dX12_mindedBy_6 ?_
    refine lv_icmp_ge (tgt := 41) hx hb dX12_mindedBy_9 (by decide) (fun c9 => ?_) (fun c9 => ?_)
    · have h := h.1 c9
      refine lv_iload_n hx hb dX12_mindedBy_41 rfl (lv_at hl 2 rfl) ?_
      exact e_i X hW h dX12_mindedBy_42
    · have h := h.2 c9
      refine lv_iload_n hx hb dX12_mindedBy_12 rfl (lv_at hl 2 rfl) ?_
      refine lv_aload_n hx hb dX12_mindedBy_13 rfl (lv_at hl 0 rfl) ?_
      refine r_get X hW 6 (okS hW sc17_0) rfl rfl inX12 (Nat.le_of_ble_eq_true rfl) tw840 rfl dX12_mindedBy_14 ?_
      refine lv_bipush (v := 6) hx hb dX12_mindedBy_17 (by decide) ?_
      refine lv_iload_n hx hb dX12_mindedBy_19 rfl (lv_at hl 3 rfl) ?_
      refine lv_imul hx hb dX12_mindedBy_20 ?_
      refine lv_iload_n hx hb dX12_mindedBy_21 rfl (lv_at hl 1 rfl) ?_
      refine lv_iadd hx hb dX12_mindedBy_22 ?_
      refine r_iald X hW (okS hW sc22_0) rfl h.1 dX12_mindedBy_23 ?_
      have h := h.2
      refine lv_iconst (v := 5) hx hb dX12_mindedBy_24 (by decide) ?_
      refine lv_icmp_lt (tgt := 32) hx hb dX12_mindedBy_25 (by decide) (fun c25 => ?_) (fun c25 => ?_)
      · have h := h.1 c25
        refine lv_iconst (v := 0) hx hb dX12_mindedBy_32 (by decide) ?_
        exact bX12_mindedBy_33 X ih v1 v3 0 v2 _ _ _ _ _  h hW (lv_sub hl [0, 1, 3] rfl)
      · have h := h.2 c25
        refine lv_iconst (v := 1) hx hb dX12_mindedBy_28 (by decide) ?_
        refine lv_goto (tgt := 33) hx hb dX12_mindedBy_29 (by decide) ?_
        exact bX12_mindedBy_33 X ih v1 v3 1 v2 _ _ _ _ _  h hW (lv_sub hl [0, 1, 3] rfl)
def wX12_mindedBy (g : GS) (a1 : Int32) (I : MI) (J : MJ) (Q : Int32 → MI → MJ → Prop) : Prop :=
  ∃ n4, wX12_mindedBy_b4 g Q n4 a1 0 0 I J
theorem mbX12_mindedBy : MB yX12_mindedBy cX12_mindedBy 4 ((Option.some FieldType.int)) 1 := ⟨tw1046, tw7, ⟨by decide, by decide⟩, by decide +kernel, by decide +kernel⟩
set_option maxHeartbeats 4000000 in
set_option maxRecDepth 100000 in
theorem kX12_mindedBy {l : Launch} {E : WE} {a1 : Int32} {I : MI} {J : MJ} {Q : Int32 → MI → MJ → Prop} (h : wX12_mindedBy (wg E) a1 I J Q) : Met l yX12_mindedBy (wsM yX12_mindedBy cX12_mindedBy 4 ((Option.some FieldType.int))) (rmO 0 0) (va_Pc [.ref (wa E 17 0), .int a1] (Wp E I J)) (QI E Q) 0 0 (AA E) := by
  refine m_entry mbX12_mindedBy (Nat.le_of_ble_eq_true rfl) ?_
  intro p e s m args below meth c X ls hW hl
  have X : Cx E cX12_mindedBy 4 RX12 ((Option.some FieldType.int)) p s m args c meth := X
  have hx := X.1.1
  have hb := X.1.2.1
  have hl : lv_has ls 4 [(0, .ref (wa E 17 0)), (1, .int a1)] := hl
  refine lv_iconst (v := 0) hx hb dX12_mindedBy_0 (by decide) ?_
  refine lv_istore_n (lv' := [(2, .int 0), (0, .ref (wa E 17 0)), (1, .int a1)]) hx hb dX12_mindedBy_1 rfl hl (by decide) rfl (fun ls hl => ?_)
  refine lv_iconst (v := 0) hx hb dX12_mindedBy_2 (by decide) ?_
  refine lv_istore_n (lv' := [(3, .int 0), (2, .int 0), (0, .ref (wa E 17 0)), (1, .int a1)]) hx hb dX12_mindedBy_3 rfl hl (by decide) rfl (fun ls hl => ?_)
  obtain ⟨n4, h⟩ := h
  exact bX12_mindedBy_4 X n4 a1 0 0 _ _ _ _ _  h hW (lv_sub hl [2, 3, 1, 0] rfl)
def wX12_isMinded (g : GS) (a1 : Int32) (I : MI) (J : MJ) (Q : Int32 → MI → MJ → Prop) : Prop :=
  wX12_mindedBy g a1 I J (fun r2 I2 J2 => ((r2 ≤ 1 → Q 0 I2 J2) ∧ (¬ r2 ≤ 1 → Q 1 I2 J2)))
theorem mbX12_isMinded : MB yX12_isMinded cX12_isMinded 2 ((Option.some FieldType.boolean)) 1 := ⟨tw1042, tw7, ⟨by decide, by decide⟩, by decide +kernel, by decide +kernel⟩
set_option maxHeartbeats 4000000 in
set_option maxRecDepth 100000 in
theorem kX12_isMinded {l : Launch} {E : WE} {a1 : Int32} {I : MI} {J : MJ} {Q : Int32 → MI → MJ → Prop} (h : wX12_isMinded (wg E) a1 I J Q) : Met l yX12_isMinded (wsM yX12_isMinded cX12_isMinded 2 ((Option.some FieldType.boolean))) (rmO 1 23) (va_Pc [.ref (wa E 17 0), .int a1] (Wp E I J)) (QI E Q) 0 0 (AA E) := by
  refine m_entry mbX12_isMinded (Nat.le_of_ble_eq_true rfl) ?_
  intro p e s m args below meth c X ls hW hl
  have X : Cx E cX12_isMinded 2 RX12 ((Option.some FieldType.boolean)) p s m args c meth := X
  have hx := X.1.1
  have hb := X.1.2.1
  have hl : lv_has ls 2 [(0, .ref (wa E 17 0)), (1, .int a1)] := hl
  refine lv_aload_n hx hb dX12_isMinded_0 rfl (lv_at hl 0 rfl) ?_
  refine lv_iload_n hx hb dX12_isMinded_1 rfl (lv_at hl 1 rfl) ?_
  refine af_i hW (rn_V X hW (As := [.int a1]) (rest := []) (okS hW sc17_0) rfl rfl (kX12_mindedBy h) mbX12_mindedBy tw1043 tw1045 tp35 rfl hl.1 (Nat.le_of_ble_eq_true rfl) ⟨(Nat.le_of_ble_eq_true rfl), (Nat.le_of_ble_eq_true rfl)⟩ dX12_isMinded_2) (fun r2 I2 J2 H locs h hW => ?_)
  refine lv_iconst (v := 1) hx hb dX12_isMinded_5 (by decide) ?_
  refine lv_icmp_le (tgt := 13) hx hb dX12_isMinded_6 (by decide) (fun c6 => ?_) (fun c6 => ?_)
  · have h := h.1 c6
    refine lv_iconst (v := 0) hx hb dX12_isMinded_13 (by decide) ?_
    exact e_z X hW rfl h dX12_isMinded_14
  · have h := h.2 c6
    refine lv_iconst (v := 1) hx hb dX12_isMinded_9 (by decide) ?_
    refine lv_goto (tgt := 14) hx hb dX12_isMinded_10 (by decide) ?_
    exact e_z X hW rfl h dX12_isMinded_14
def wX12_candidateNow (g : GS) (a1 : Int32) (a2 : Int32) (I : MI) (J : MJ) (Q : Int32 → MI → MJ → Prop) : Prop :=
  ((¬ a2 = 0 → ((¬ a2 = 1 → wX12_mindedBy g a1 I J (fun r36 I36 J36 => Q r36 I36 J36)) ∧ (a2 = 1 → wX12_isMinded g a1 I J (fun r20 I20 J20 => ((r20 = 0 → Q 0 I20 J20) ∧ (¬ r20 = 0 → Q 1 I20 J20)))))) ∧ (a2 = 0 → vp_in a1 6 ∧ (Q (I 21 0 (Int32.toNatClampNeg a1)) I J)))
theorem mbX12_candidateNow : MB yX12_candidateNow cX12_candidateNow 3 ((Option.some FieldType.int)) 2 := ⟨tw1038, tw7, ⟨by decide, by decide⟩, by decide +kernel, by decide +kernel⟩
set_option maxHeartbeats 4000000 in
set_option maxRecDepth 100000 in
theorem kX12_candidateNow {l : Launch} {E : WE} {a1 : Int32} {a2 : Int32} {I : MI} {J : MJ} {Q : Int32 → MI → MJ → Prop} (h : wX12_candidateNow (wg E) a1 a2 I J Q) : Met l yX12_candidateNow (wsM yX12_candidateNow cX12_candidateNow 3 ((Option.some FieldType.int))) (rmO 2 44) (va_Pc [.ref (wa E 17 0), .int a1, .int a2] (Wp E I J)) (QI E Q) 0 0 (AA E) := by
  refine m_entry mbX12_candidateNow (Nat.le_of_ble_eq_true rfl) ?_
  intro p e s m args below meth c X ls hW hl
  have X : Cx E cX12_candidateNow 3 RX12 ((Option.some FieldType.int)) p s m args c meth := X
  have hx := X.1.1
  have hb := X.1.2.1
  have hl : lv_has ls 3 [(0, .ref (wa E 17 0)), (1, .int a1), (2, .int a2)] := hl
  refine lv_iload_n hx hb dX12_candidateNow_0 rfl (lv_at hl 2 rfl) ?_
  refine lv_if_ne (tgt := 13) hx hb dX12_candidateNow_1 (by decide) (fun c1 => ?_) (fun c1 => ?_)
  · have h := h.1 c1
    refine lv_iload_n hx hb dX12_candidateNow_13 rfl (lv_at hl 2 rfl) ?_
    refine lv_iconst (v := 1) hx hb dX12_candidateNow_14 (by decide) ?_
    refine lv_icmp_ne (tgt := 34) hx hb dX12_candidateNow_15 (by decide) (fun c15 => ?_) (fun c15 => ?_)
    · have h := h.1 c15
      refine lv_aload_n hx hb dX12_candidateNow_34 rfl (lv_at hl 0 rfl) ?_
      refine lv_iload_n hx hb dX12_candidateNow_35 rfl (lv_at hl 1 rfl) ?_
      refine af_i hW (rn_V X hW (As := [.int a1]) (rest := []) (okS hW sc17_0) rfl rfl (kX12_mindedBy h) mbX12_mindedBy tw1043 tw1045 tp35 rfl hl.1 (Nat.le_of_ble_eq_true rfl) ⟨(Nat.le_of_ble_eq_true rfl), (Nat.le_of_ble_eq_true rfl)⟩ dX12_candidateNow_36) (fun r36 I36 J36 H locs h hW => ?_)
      exact e_i X hW h dX12_candidateNow_39
    · have h := h.2 c15
      refine lv_aload_n hx hb dX12_candidateNow_18 rfl (lv_at hl 0 rfl) ?_
      refine lv_iload_n hx hb dX12_candidateNow_19 rfl (lv_at hl 1 rfl) ?_
      refine af_i hW (rn_V X hW (As := [.int a1]) (rest := []) (okS hW sc17_0) rfl rfl (kX12_isMinded h) mbX12_isMinded tw1039 tw1041 tp34 rfl hl.1 (Nat.le_of_ble_eq_true rfl) ⟨(Nat.le_of_ble_eq_true rfl), (Nat.le_of_ble_eq_true rfl)⟩ dX12_candidateNow_20) (fun r20 I20 J20 H locs h hW => ?_)
      refine lv_if_eq (tgt := 30) hx hb dX12_candidateNow_23 (by decide) (fun c23 => ?_) (fun c23 => ?_)
      · have h := h.1 c23
        refine lv_iconst (v := 0) hx hb dX12_candidateNow_30 (by decide) ?_
        refine lv_goto (tgt := 39) hx hb dX12_candidateNow_31 (by decide) ?_
        exact e_i X hW h dX12_candidateNow_39
      · have h := h.2 c23
        refine lv_iconst (v := 1) hx hb dX12_candidateNow_26 (by decide) ?_
        refine lv_goto (tgt := 39) hx hb dX12_candidateNow_27 (by decide) ?_
        exact e_i X hW h dX12_candidateNow_39
  · have h := h.2 c1
    refine lv_aload_n hx hb dX12_candidateNow_4 rfl (lv_at hl 0 rfl) ?_
    refine r_get X hW 5 (okS hW sc17_0) rfl rfl inX12 (Nat.le_of_ble_eq_true rfl) tw839 rfl dX12_candidateNow_5 ?_
    refine lv_iload_n hx hb dX12_candidateNow_8 rfl (lv_at hl 1 rfl) ?_
    refine r_iald X hW (okS hW sc21_0) rfl h.1 dX12_candidateNow_9 ?_
    have h := h.2
    refine lv_goto (tgt := 39) hx hb dX12_candidateNow_10 (by decide) ?_
    exact e_i X hW h dX12_candidateNow_39
def wX12_friend (g : GS) (a1 : Int32) (a2 : Int32) (I : MI) (J : MJ) (Q : Int32 → MI → MJ → Prop) : Prop :=
  wX12_isCandidate g a1 I J (fun r2 I2 J2 => ((¬ r2 = 0 → wX12_within g a2 0 2 I2 J2 (fun r16 I16 J16 => ((r16 = 0 → Q ((-102)) I16 J16) ∧ (¬ r16 = 0 → wX12_candidateNow g a1 a2 I16 J16 (fun r25 I25 J25 => Q r25 I25 J25))))) ∧ (r2 = 0 → Q ((-101)) I2 J2)))
theorem mbX12_friend : MB yX12_friend cX12_friend 3 ((Option.some FieldType.int)) 2 := ⟨tw1034, tw7, ⟨by decide, by decide⟩, by decide +kernel, by decide +kernel⟩
set_option maxHeartbeats 4000000 in
set_option maxRecDepth 100000 in
theorem kX12_friend {l : Launch} {E : WE} {a1 : Int32} {a2 : Int32} {I : MI} {J : MJ} {Q : Int32 → MI → MJ → Prop} (h : wX12_friend (wg E) a1 a2 I J Q) : Met l yX12_friend (wsM yX12_friend cX12_friend 3 ((Option.some FieldType.int))) (rmO 3 66) (va_Pc [.ref (wa E 17 0), .int a1, .int a2] (Wp E I J)) (QI E Q) 0 0 (AA E) := by
  refine m_entry mbX12_friend (Nat.le_of_ble_eq_true rfl) ?_
  intro p e s m args below meth c X ls hW hl
  have X : Cx E cX12_friend 3 RX12 ((Option.some FieldType.int)) p s m args c meth := X
  have hx := X.1.1
  have hb := X.1.2.1
  have hl : lv_has ls 3 [(0, .ref (wa E 17 0)), (1, .int a1), (2, .int a2)] := hl
  refine lv_aload_n hx hb dX12_friend_0 rfl (lv_at hl 0 rfl) ?_
  refine lv_iload_n hx hb dX12_friend_1 rfl (lv_at hl 1 rfl) ?_
  refine af_i hW (rn_V X hW (As := [.int a1]) (rest := []) (okS hW sc17_0) rfl rfl (kX12_isCandidate h) mbX12_isCandidate tw1027 tw1029 tp32 rfl hl.1 (Nat.le_of_ble_eq_true rfl) ⟨(Nat.le_of_ble_eq_true rfl), (Nat.le_of_ble_eq_true rfl)⟩ dX12_friend_2) (fun r2 I2 J2 H locs h hW => ?_)
  refine lv_if_ne (tgt := 13) hx hb dX12_friend_5 (by decide) (fun c5 => ?_) (fun c5 => ?_)
  · have h := h.1 c5
    refine lv_iload_n hx hb dX12_friend_13 rfl (lv_at hl 2 rfl) ?_
    refine lv_iconst (v := 0) hx hb dX12_friend_14 (by decide) ?_
    refine lv_iconst (v := 2) hx hb dX12_friend_15 (by decide) ?_
    refine af_i hW (rn_S X hW (As := [.int a2, .int 0, .int 2]) (rest := []) (kX12_within h) mbX12_within tw969 tw970 rfl hl.1 (Nat.le_of_ble_eq_true rfl) ⟨(Nat.le_of_ble_eq_true rfl), (Nat.le_of_ble_eq_true rfl)⟩ dX12_friend_16) (fun r16 I16 J16 H locs h hW => ?_)
    refine lv_if_eq (tgt := 31) hx hb dX12_friend_19 (by decide) (fun c19 => ?_) (fun c19 => ?_)
    · have h := h.1 c19
      refine lv_bipush (v := (-102)) hx hb dX12_friend_31 (by decide) ?_
      exact e_i X hW h dX12_friend_33
    · have h := h.2 c19
      refine lv_aload_n hx hb dX12_friend_22 rfl (lv_at hl 0 rfl) ?_
      refine lv_iload_n hx hb dX12_friend_23 rfl (lv_at hl 1 rfl) ?_
      refine lv_iload_n hx hb dX12_friend_24 rfl (lv_at hl 2 rfl) ?_
      refine af_i hW (rn_V X hW (As := [.int a1, .int a2]) (rest := []) (okS hW sc17_0) rfl rfl (kX12_candidateNow h) mbX12_candidateNow tw1035 tw1037 tp33 rfl hl.1 (Nat.le_of_ble_eq_true rfl) ⟨(Nat.le_of_ble_eq_true rfl), (Nat.le_of_ble_eq_true rfl)⟩ dX12_friend_25) (fun r25 I25 J25 H locs h hW => ?_)
      refine lv_goto (tgt := 33) hx hb dX12_friend_28 (by decide) ?_
      exact e_i X hW h dX12_friend_33
  · have h := h.2 c5
    refine lv_bipush (v := (-101)) hx hb dX12_friend_8 (by decide) ?_
    refine lv_goto (tgt := 33) hx hb dX12_friend_10 (by decide) ?_
    exact e_i X hW h dX12_friend_33
def wX12_areComers (g : GS) (a1 : Int32) (I : MI) (J : MJ) (Q : Int32 → MI → MJ → Prop) : Prop :=
  wX12_within g a1 1 ((1 <<< ((I 17 0 0) &&& 31)) - 1) I J (fun r10 I10 J10 => isB r10 ∧ Q r10 I10 J10)
theorem mbX12_areComers : MB yX12_areComers cX12_areComers 2 ((Option.some FieldType.boolean)) 1 := ⟨tw1054, tw7, ⟨by decide, by decide⟩, by decide +kernel, by decide +kernel⟩
set_option maxHeartbeats 4000000 in
set_option maxRecDepth 100000 in
theorem kX12_areComers {l : Launch} {E : WE} {a1 : Int32} {I : MI} {J : MJ} {Q : Int32 → MI → MJ → Prop} (h : wX12_areComers (wg E) a1 I J Q) : Met l yX12_areComers (wsM yX12_areComers cX12_areComers 2 ((Option.some FieldType.boolean))) (rmO 1 22) (va_Pc [.ref (wa E 17 0), .int a1] (Wp E I J)) (QI E Q) 0 0 (AA E) := by
  refine m_entry mbX12_areComers (Nat.le_of_ble_eq_true rfl) ?_
  intro p e s m args below meth c X ls hW hl
  have X : Cx E cX12_areComers 2 RX12 ((Option.some FieldType.boolean)) p s m args c meth := X
  have hx := X.1.1
  have hb := X.1.2.1
  have hl : lv_has ls 2 [(0, .ref (wa E 17 0)), (1, .int a1)] := hl
  refine lv_iload_n hx hb dX12_areComers_0 rfl (lv_at hl 1 rfl) ?_
  refine lv_iconst (v := 1) hx hb dX12_areComers_1 (by decide) ?_
  refine lv_iconst (v := 1) hx hb dX12_areComers_2 (by decide) ?_
  refine lv_aload_n hx hb dX12_areComers_3 rfl (lv_at hl 0 rfl) ?_
  refine r_get X hW 0 (okS hW sc17_0) rfl rfl inX12 (Nat.le_of_ble_eq_true rfl) tw834 rfl dX12_areComers_4 ?_
  refine lv_ishl hx hb dX12_areComers_7 ?_
  refine lv_iconst (v := 1) hx hb dX12_areComers_8 (by decide) ?_
  refine lv_isub hx hb dX12_areComers_9 ?_
  refine af_i hW (rn_S X hW (As := [.int a1, .int 1, .int ((1 <<< ((I 17 0 0) &&& 31)) - 1)]) (rest := []) (kX12_within h) mbX12_within tw969 tw970 rfl hl.1 (Nat.le_of_ble_eq_true rfl) ⟨(Nat.le_of_ble_eq_true rfl), (Nat.le_of_ble_eq_true rfl)⟩ dX12_areComers_10) (fun r10 I10 J10 H locs h hW => ?_)
  exact e_z X hW (isB_n h.1) h.2 dX12_areComers_13
