def wX4_wipe (g : GS) (I : MI) (J : MJ) (Q : Int32 → MI → MJ → Prop) : Prop :=
  Q (I 1 0 1) (u3 I 1 0 (upd (I 1 0) 1 0)) J
theorem mbX4_wipe : MB yX4_wipe cX4_wipe 2 ((Option.some FieldType.int)) 0 := ⟨tw194, tw2, ⟨by decide, by decide⟩, by decide +kernel, by decide +kernel⟩
set_option maxHeartbeats 4000000 in
set_option maxRecDepth 100000 in
theorem kX4_wipe {l : Launch} {E : WE} {I : MI} {J : MJ} {Q : Int32 → MI → MJ → Prop} (h : wX4_wipe (wg E) I J Q) : Met l yX4_wipe (wsM yX4_wipe cX4_wipe 2 ((Option.some FieldType.int))) (rmO 0 0) (va_Pc [.ref (wa E 1 0)] (Wp E I J)) (QI E Q) 0 0 (AA E) := by
  refine m_entry mbX4_wipe (Nat.le_of_ble_eq_true rfl) ?_
  intro p e s m args below meth c X ls hW hl
  have X : Cx E cX4_wipe 2 RX4 ((Option.some FieldType.int)) p s m args c meth := X
  have hx := X.1.1
  have hb := X.1.2.1
  have hl : lv_has ls 2 [(0, .ref (wa E 1 0))] := hl
  refine lv_aload_n hx hb dX4_wipe_0 rfl (lv_at hl 0 rfl) ?_
  refine r_get X hW 1 (okS hW sc1_0) rfl rfl inX4 (Nat.le_of_ble_eq_true rfl) tw33 rfl dX4_wipe_1 ?_
  refine lv_istore_n (lv' := [(1, .int (I 1 0 1)), (0, .ref (wa E 1 0))]) hx hb dX4_wipe_4 rfl hl (by decide) rfl (fun ls hl => ?_)
  refine lv_aload_n hx hb dX4_wipe_5 rfl (lv_at hl 1 rfl) ?_
  refine lv_iconst (v := 0) hx hb dX4_wipe_6 (by decide) ?_
  refine r_putI X hW 1 (okS hW sc1_0) rfl rfl inX4 tyX4 tyX4_ok nmX4 (Nat.le_of_ble_eq_true rfl) tw33 rfl rfl rfl rfl (Nat.le_of_ble_eq_true rfl) rfl dX4_wipe_7 (fun H locs hW => ?_)
  refine lv_iload_n hx hb dX4_wipe_10 rfl (lv_at hl 0 rfl) ?_
  exact e_i X hW h dX4_wipe_11
def wX11_within (g : GS) (a0 : Int32) (a1 : Int32) (a2 : Int32) (I : MI) (J : MJ) (Q : Int32 → MI → MJ → Prop) : Prop :=
  ((a0 < a1 → Q 0 I J) ∧ (¬ a0 < a1 → ((a2 < a0 → Q 0 I J) ∧ (¬ a2 < a0 → Q 1 I J))))
theorem mbX11_within : MB yX11_within cX11_within 3 ((Option.some FieldType.boolean)) 3 := ⟨tw208, tw1, ⟨by decide, by decide⟩, by decide +kernel, by decide +kernel⟩
set_option maxHeartbeats 4000000 in
set_option maxRecDepth 100000 in
theorem kX11_within {l : Launch} {E : WE} {a0 : Int32} {a1 : Int32} {a2 : Int32} {I : MI} {J : MJ} {Q : Int32 → MI → MJ → Prop} (h : wX11_within (wg E) a0 a1 a2 I J Q) : Met l yX11_within (wsM yX11_within cX11_within 3 ((Option.some FieldType.boolean))) (rmO 0 0) (va_Pc [.int a0, .int a1, .int a2] (Wp E I J)) (QI E Q) 0 0 (AA E) := by
  refine m_entry mbX11_within (Nat.le_of_ble_eq_true rfl) ?_
  intro p e s m args below meth c X ls hW hl
  have X : Cx E cX11_within 3 RX11 ((Option.some FieldType.boolean)) p s m args c meth := X
  have hx := X.1.1
  have hb := X.1.2.1
  have hl : lv_has ls 3 [(0, .int a0), (1, .int a1), (2, .int a2)] := hl
  refine lv_iload_n hx hb dX11_within_0 rfl (lv_at hl 0 rfl) ?_
  refine lv_iload_n hx hb dX11_within_1 rfl (lv_at hl 1 rfl) ?_
  refine lv_icmp_lt (tgt := 14) hx hb dX11_within_2 (by decide) (fun c2 => ?_) (fun c2 => ?_)
  · have h := h.1 c2
    refine lv_iconst (v := 0) hx hb dX11_within_14 (by decide) ?_
    exact e_z X hW rfl h dX11_within_15
  · have h := h.2 c2
    refine lv_iload_n hx hb dX11_within_5 rfl (lv_at hl 0 rfl) ?_
    refine lv_iload_n hx hb dX11_within_6 rfl (lv_at hl 2 rfl) ?_
    refine lv_icmp_gt (tgt := 14) hx hb dX11_within_7 (by decide) (fun c7 => ?_) (fun c7 => ?_)
    · have h := h.1 c7
      refine lv_iconst (v := 0) hx hb dX11_within_14 (by decide) ?_
      exact e_z X hW rfl h dX11_within_15
    · have h := h.2 c7
      refine lv_iconst (v := 1) hx hb dX11_within_10 (by decide) ?_
      refine lv_goto (tgt := 15) hx hb dX11_within_11 (by decide) ?_
      exact e_z X hW rfl h dX11_within_15
def wX4_isCount (g : GS) (a0 : Int32) (I : MI) (J : MJ) (Q : Int32 → MI → MJ → Prop) : Prop :=
  ((a0 = 99 → Q 1 I J) ∧ (¬ a0 = 99 → ((¬ a0 = 121 → Q 0 I J) ∧ (a0 = 121 → Q 1 I J))))
theorem mbX4_isCount : MB yX4_isCount cX4_isCount 1 ((Option.some FieldType.boolean)) 1 := ⟨tw211, tw2, ⟨by decide, by decide⟩, by decide +kernel, by decide +kernel⟩
set_option maxHeartbeats 4000000 in
set_option maxRecDepth 100000 in
theorem kX4_isCount {l : Launch} {E : WE} {a0 : Int32} {I : MI} {J : MJ} {Q : Int32 → MI → MJ → Prop} (h : wX4_isCount (wg E) a0 I J Q) : Met l yX4_isCount (wsM yX4_isCount cX4_isCount 1 ((Option.some FieldType.boolean))) (rmO 0 0) (va_Pc [.int a0] (Wp E I J)) (QI E Q) 0 0 (AA E) := by
  refine m_entry mbX4_isCount (Nat.le_of_ble_eq_true rfl) ?_
  intro p e s m args below meth c X ls hW hl
  have X : Cx E cX4_isCount 1 RX4 ((Option.some FieldType.boolean)) p s m args c meth := X
  have hx := X.1.1
  have hb := X.1.2.1
  have hl : lv_has ls 1 [(0, .int a0)] := hl
  refine lv_iload_n hx hb dX4_isCount_0 rfl (lv_at hl 0 rfl) ?_
  refine lv_bipush (v := 99) hx hb dX4_isCount_1 (by decide) ?_
  refine lv_icmp_eq (tgt := 12) hx hb dX4_isCount_3 (by decide) (fun c3 => ?_) (fun c3 => ?_)
  · have h := h.1 c3
    refine lv_iconst (v := 1) hx hb dX4_isCount_12 (by decide) ?_
    refine lv_goto (tgt := 17) hx hb dX4_isCount_13 (by decide) ?_
    exact e_z X hW rfl h dX4_isCount_17
  · have h := h.2 c3
    refine lv_iload_n hx hb dX4_isCount_6 rfl (lv_at hl 0 rfl) ?_
    refine lv_bipush (v := 121) hx hb dX4_isCount_7 (by decide) ?_
    refine lv_icmp_ne (tgt := 16) hx hb dX4_isCount_9 (by decide) (fun c9 => ?_) (fun c9 => ?_)
    · have h := h.1 c9
      refine lv_iconst (v := 0) hx hb dX4_isCount_16 (by decide) ?_
      exact e_z X hW rfl h dX4_isCount_17
    · have h := h.2 c9
      refine lv_iconst (v := 1) hx hb dX4_isCount_12 (by decide) ?_
      refine lv_goto (tgt := 17) hx hb dX4_isCount_13 (by decide) ?_
      exact e_z X hW rfl h dX4_isCount_17
def wX4_dueBehind (g : GS) (a0 : Int32) (a1 : Int32) (I : MI) (J : MJ) (Q : Int32 → MI → MJ → Prop) : Prop :=
  ((a0 = 0 → ((¬ a1 = 98 → ((¬ a1 = 114 → Q ((-1)) I J) ∧ (a1 = 114 → Q 2 I J))) ∧ (a1 = 98 → Q 1 I J))) ∧ (¬ a0 = 0 → ((a0 = 1 → wX11_within g a1 49 56 I J (fun r79 I79 J79 => ((r79 = 0 → Q ((-1)) I79 J79) ∧ (¬ r79 = 0 → Q 5 I79 J79)))) ∧ (¬ a0 = 1 → ((a0 = 2 → ((¬ a1 = 49 → ((¬ a1 = 50 → wX11_within g a1 51 57 I J (fun r116 I116 J116 => ((r116 = 0 → Q ((-1)) I116 J116) ∧ (¬ r116 = 0 → Q 5 I116 J116)))) ∧ (a1 = 50 → Q 4 I J))) ∧ (a1 = 49 → Q 3 I J))) ∧ (¬ a0 = 2 → ((a0 = 3 → wX11_within g a1 48 57 I J (fun r133 I133 J133 => ((r133 = 0 → Q ((-1)) I133 J133) ∧ (¬ r133 = 0 → Q 5 I133 J133)))) ∧ (¬ a0 = 3 → ((a0 = 4 → ((¬ a1 = 48 → ((¬ a1 = 113 → Q ((-1)) I J) ∧ (a1 = 113 → Q 6 I J))) ∧ (a1 = 48 → Q 5 I J))) ∧ (¬ a0 = 4 → ((a0 = 5 → ((¬ a1 = 113 → Q ((-1)) I J) ∧ (a1 = 113 → Q 6 I J))) ∧ (¬ a0 = 5 → ((a0 = 6 → wX11_within g a1 48 56 I J (fun r186 I186 J186 => ((r186 = 0 → Q ((-1)) I186 J186) ∧ (¬ r186 = 0 → Q 7 I186 J186)))) ∧ (¬ a0 = 6 → ((a0 = 7 → ((¬ a1 = 116 → wX4_isCount g a1 I J (fun r211 I211 J211 => ((r211 = 0 → Q ((-1)) I211 J211) ∧ (¬ r211 = 0 → Q 9 I211 J211)))) ∧ (a1 = 116 → Q 8 I J))) ∧ (¬ a0 = 7 → ((a0 = 8 → wX4_isCount g a1 I J (fun r225 I225 J225 => ((r225 = 0 → Q ((-1)) I225 J225) ∧ (¬ r225 = 0 → Q 9 I225 J225)))) ∧ (¬ a0 = 8 → Q ((-1)) I J))))))))))))))))))
theorem mbX4_dueBehind : MB yX4_dueBehind cX4_dueBehind 2 ((Option.some FieldType.int)) 2 := ⟨tw205, tw2, ⟨by decide, by decide⟩, by decide +kernel, by decide +kernel⟩
set_option maxHeartbeats 4000000 in
set_option maxRecDepth 100000 in
theorem kX4_dueBehind {l : Launch} {E : WE} {a0 : Int32} {a1 : Int32} {I : MI} {J : MJ} {Q : Int32 → MI → MJ → Prop} (h : wX4_dueBehind (wg E) a0 a1 I J Q) : Met l yX4_dueBehind (wsM yX4_dueBehind cX4_dueBehind 2 ((Option.some FieldType.int))) (rmO 1 22) (va_Pc [.int a0, .int a1] (Wp E I J)) (QI E Q) 0 0 (AA E) := by
  refine m_entry mbX4_dueBehind (Nat.le_of_ble_eq_true rfl) ?_
  intro p e s m args below meth c X ls hW hl
  have X : Cx E cX4_dueBehind 2 RX4 ((Option.some FieldType.int)) p s m args c meth := X
  have hx := X.1.1
  have hb := X.1.2.1
  have hl : lv_has ls 2 [(0, .int a0), (1, .int a1)] := hl
  refine lv_iload_n hx hb dX4_dueBehind_0 rfl (lv_at hl 0 rfl) ?_
  by_cases s1_0 : a0 = 0
  · have h := h.1 s1_0
    refine sw_in (tgt := 52) (off := 51) hx hb dX4_dueBehind_1 s1_0 (by decide) (by decide) (by decide) (by decide) ?_
    refine lv_iload_n hx hb dX4_dueBehind_52 rfl (lv_at hl 1 rfl) ?_
    refine lv_bipush (v := 98) hx hb dX4_dueBehind_53 (by decide) ?_
    refine lv_icmp_ne (tgt := 62) hx hb dX4_dueBehind_55 (by decide) (fun c55 => ?_) (fun c55 => ?_)
    · have h := h.1 c55
      refine lv_iload_n hx hb dX4_dueBehind_62 rfl (lv_at hl 1 rfl) ?_
      refine lv_bipush (v := 114) hx hb dX4_dueBehind_63 (by decide) ?_
      refine lv_icmp_ne (tgt := 72) hx hb dX4_dueBehind_65 (by decide) (fun c65 => ?_) (fun c65 => ?_)
      · have h := h.1 c65
        refine lv_iconst (v := (-1)) hx hb dX4_dueBehind_72 (by decide) ?_
        exact e_i X hW h dX4_dueBehind_73
      · have h := h.2 c65
        refine lv_iconst (v := 2) hx hb dX4_dueBehind_68 (by decide) ?_
        refine lv_goto (tgt := 73) hx hb dX4_dueBehind_69 (by decide) ?_
        exact e_i X hW h dX4_dueBehind_73
    · have h := h.2 c55
      refine lv_iconst (v := 1) hx hb dX4_dueBehind_58 (by decide) ?_
      refine lv_goto (tgt := 73) hx hb dX4_dueBehind_59 (by decide) ?_
      exact e_i X hW h dX4_dueBehind_73
  · have h := h.2 s1_0
    by_cases s1_1 : a0 = 1
    · have h := h.1 s1_1
      refine sw_in (tgt := 74) (off := 73) hx hb dX4_dueBehind_1 s1_1 (by decide) (by decide) (by decide) (by decide) ?_
      refine lv_iload_n hx hb dX4_dueBehind_74 rfl (lv_at hl 1 rfl) ?_
      refine lv_bipush (v := 49) hx hb dX4_dueBehind_75 (by decide) ?_
      refine lv_bipush (v := 56) hx hb dX4_dueBehind_77 (by decide) ?_
      refine af_i hW (rn_SN X hW (As := [.int a1, .int 49, .int 56]) (rest := []) (kX11_within h) mbX11_within nw206 tw207 rfl hl.1 (Nat.le_of_ble_eq_true rfl) ⟨(Nat.le_of_ble_eq_true rfl), (Nat.le_of_ble_eq_true rfl)⟩ dX4_dueBehind_79) (fun r79 I79 J79 H locs h hW => ?_)
      refine lv_if_eq (tgt := 89) hx hb dX4_dueBehind_82 (by decide) (fun c82 => ?_) (fun c82 => ?_)
      · have h := h.1 c82
        refine lv_iconst (v := (-1)) hx hb dX4_dueBehind_89 (by decide) ?_
        exact e_i X hW h dX4_dueBehind_90
      · have h := h.2 c82
        refine lv_iconst (v := 5) hx hb dX4_dueBehind_85 (by decide) ?_
        refine lv_goto (tgt := 90) hx hb dX4_dueBehind_86 (by decide) ?_
        exact e_i X hW h dX4_dueBehind_90
    · have h := h.2 s1_1
      by_cases s1_2 : a0 = 2
      · have h := h.1 s1_2
        refine sw_in (tgt := 91) (off := 90) hx hb dX4_dueBehind_1 s1_2 (by decide) (by decide) (by decide) (by decide) ?_
        refine lv_iload_n hx hb dX4_dueBehind_91 rfl (lv_at hl 1 rfl) ?_
        refine lv_bipush (v := 49) hx hb dX4_dueBehind_92 (by decide) ?_
        refine lv_icmp_ne (tgt := 101) hx hb dX4_dueBehind_94 (by decide) (fun c94 => ?_) (fun c94 => ?_)
        · have h := h.1 c94
          refine lv_iload_n hx hb dX4_dueBehind_101 rfl (lv_at hl 1 rfl) ?_
          refine lv_bipush (v := 50) hx hb dX4_dueBehind_102 (by decide) ?_
          refine lv_icmp_ne (tgt := 111) hx hb dX4_dueBehind_104 (by decide) (fun c104 => ?_) (fun c104 => ?_)
          · have h := h.1 c104
            refine lv_iload_n hx hb dX4_dueBehind_111 rfl (lv_at hl 1 rfl) ?_
            refine lv_bipush (v := 51) hx hb dX4_dueBehind_112 (by decide) ?_
            refine lv_bipush (v := 57) hx hb dX4_dueBehind_114 (by decide) ?_
            refine af_i hW (rn_SN X hW (As := [.int a1, .int 51, .int 57]) (rest := []) (kX11_within h) mbX11_within nw206 tw207 rfl hl.1 (Nat.le_of_ble_eq_true rfl) ⟨(Nat.le_of_ble_eq_true rfl), (Nat.le_of_ble_eq_true rfl)⟩ dX4_dueBehind_116) (fun r116 I116 J116 H locs h hW => ?_)
            refine lv_if_eq (tgt := 126) hx hb dX4_dueBehind_119 (by decide) (fun c119 => ?_) (fun c119 => ?_)
            · have h := h.1 c119
              refine lv_iconst (v := (-1)) hx hb dX4_dueBehind_126 (by decide) ?_
              exact e_i X hW h dX4_dueBehind_127
            · have h := h.2 c119
              refine lv_iconst (v := 5) hx hb dX4_dueBehind_122 (by decide) ?_
              refine lv_goto (tgt := 127) hx hb dX4_dueBehind_123 (by decide) ?_
              exact e_i X hW h dX4_dueBehind_127
          · have h := h.2 c104
            refine lv_iconst (v := 4) hx hb dX4_dueBehind_107 (by decide) ?_
            refine lv_goto (tgt := 127) hx hb dX4_dueBehind_108 (by decide) ?_
            exact e_i X hW h dX4_dueBehind_127
        · have h := h.2 c94
          refine lv_iconst (v := 3) hx hb dX4_dueBehind_97 (by decide) ?_
          refine lv_goto (tgt := 127) hx hb dX4_dueBehind_98 (by decide) ?_
          exact e_i X hW h dX4_dueBehind_127
      · have h := h.2 s1_2
        by_cases s1_3 : a0 = 3
        · have h := h.1 s1_3
          refine sw_in (tgt := 128) (off := 127) hx hb dX4_dueBehind_1 s1_3 (by decide) (by decide) (by decide) (by decide) ?_
          refine lv_iload_n hx hb dX4_dueBehind_128 rfl (lv_at hl 1 rfl) ?_
          refine lv_bipush (v := 48) hx hb dX4_dueBehind_129 (by decide) ?_
          refine lv_bipush (v := 57) hx hb dX4_dueBehind_131 (by decide) ?_
          refine af_i hW (rn_SN X hW (As := [.int a1, .int 48, .int 57]) (rest := []) (kX11_within h) mbX11_within nw206 tw207 rfl hl.1 (Nat.le_of_ble_eq_true rfl) ⟨(Nat.le_of_ble_eq_true rfl), (Nat.le_of_ble_eq_true rfl)⟩ dX4_dueBehind_133) (fun r133 I133 J133 H locs h hW => ?_)
          refine lv_if_eq (tgt := 143) hx hb dX4_dueBehind_136 (by decide) (fun c136 => ?_) (fun c136 => ?_)
          · have h := h.1 c136
            refine lv_iconst (v := (-1)) hx hb dX4_dueBehind_143 (by decide) ?_
            exact e_i X hW h dX4_dueBehind_144
          · have h := h.2 c136
            refine lv_iconst (v := 5) hx hb dX4_dueBehind_139 (by decide) ?_
            refine lv_goto (tgt := 144) hx hb dX4_dueBehind_140 (by decide) ?_
            exact e_i X hW h dX4_dueBehind_144
        · have h := h.2 s1_3
          by_cases s1_4 : a0 = 4
          · have h := h.1 s1_4
            refine sw_in (tgt := 145) (off := 144) hx hb dX4_dueBehind_1 s1_4 (by decide) (by decide) (by decide) (by decide) ?_
            refine lv_iload_n hx hb dX4_dueBehind_145 rfl (lv_at hl 1 rfl) ?_
            refine lv_bipush (v := 48) hx hb dX4_dueBehind_146 (by decide) ?_
            refine lv_icmp_ne (tgt := 155) hx hb dX4_dueBehind_148 (by decide) (fun c148 => ?_) (fun c148 => ?_)
            · have h := h.1 c148
              refine lv_iload_n hx hb dX4_dueBehind_155 rfl (lv_at hl 1 rfl) ?_
              refine lv_bipush (v := 113) hx hb dX4_dueBehind_156 (by decide) ?_
              refine lv_icmp_ne (tgt := 166) hx hb dX4_dueBehind_158 (by decide) (fun c158 => ?_) (fun c158 => ?_)
              · have h := h.1 c158
                refine lv_iconst (v := (-1)) hx hb dX4_dueBehind_166 (by decide) ?_
                exact e_i X hW h dX4_dueBehind_167
              · have h := h.2 c158
                refine lv_bipush (v := 6) hx hb dX4_dueBehind_161 (by decide) ?_
                refine lv_goto (tgt := 167) hx hb dX4_dueBehind_163 (by decide) ?_
                exact e_i X hW h dX4_dueBehind_167
            · have h := h.2 c148
              refine lv_iconst (v := 5) hx hb dX4_dueBehind_151 (by decide) ?_
              refine lv_goto (tgt := 167) hx hb dX4_dueBehind_152 (by decide) ?_
              exact e_i X hW h dX4_dueBehind_167
          · have h := h.2 s1_4
            by_cases s1_5 : a0 = 5
            · have h := h.1 s1_5
              refine sw_in (tgt := 168) (off := 167) hx hb dX4_dueBehind_1 s1_5 (by decide) (by decide) (by decide) (by decide) ?_
              refine lv_iload_n hx hb dX4_dueBehind_168 rfl (lv_at hl 1 rfl) ?_
              refine lv_bipush (v := 113) hx hb dX4_dueBehind_169 (by decide) ?_
              refine lv_icmp_ne (tgt := 179) hx hb dX4_dueBehind_171 (by decide) (fun c171 => ?_) (fun c171 => ?_)
              · have h := h.1 c171
                refine lv_iconst (v := (-1)) hx hb dX4_dueBehind_179 (by decide) ?_
                exact e_i X hW h dX4_dueBehind_180
              · have h := h.2 c171
                refine lv_bipush (v := 6) hx hb dX4_dueBehind_174 (by decide) ?_
                refine lv_goto (tgt := 180) hx hb dX4_dueBehind_176 (by decide) ?_
                exact e_i X hW h dX4_dueBehind_180
            · have h := h.2 s1_5
              by_cases s1_6 : a0 = 6
              · have h := h.1 s1_6
                refine sw_in (tgt := 181) (off := 180) hx hb dX4_dueBehind_1 s1_6 (by decide) (by decide) (by decide) (by decide) ?_
                refine lv_iload_n hx hb dX4_dueBehind_181 rfl (lv_at hl 1 rfl) ?_
                refine lv_bipush (v := 48) hx hb dX4_dueBehind_182 (by decide) ?_
                refine lv_bipush (v := 56) hx hb dX4_dueBehind_184 (by decide) ?_
                refine af_i hW (rn_SN X hW (As := [.int a1, .int 48, .int 56]) (rest := []) (kX11_within h) mbX11_within nw206 tw207 rfl hl.1 (Nat.le_of_ble_eq_true rfl) ⟨(Nat.le_of_ble_eq_true rfl), (Nat.le_of_ble_eq_true rfl)⟩ dX4_dueBehind_186) (fun r186 I186 J186 H locs h hW => ?_)
                refine lv_if_eq (tgt := 197) hx hb dX4_dueBehind_189 (by decide) (fun c189 => ?_) (fun c189 => ?_)
                · have h := h.1 c189
                  refine lv_iconst (v := (-1)) hx hb dX4_dueBehind_197 (by decide) ?_
                  exact e_i X hW h dX4_dueBehind_198
                · have h := h.2 c189
                  refine lv_bipush (v := 7) hx hb dX4_dueBehind_192 (by decide) ?_
                  refine lv_goto (tgt := 198) hx hb dX4_dueBehind_194 (by decide) ?_
                  exact e_i X hW h dX4_dueBehind_198
              · have h := h.2 s1_6
                by_cases s1_7 : a0 = 7
                · have h := h.1 s1_7
                  refine sw_in (tgt := 199) (off := 198) hx hb dX4_dueBehind_1 s1_7 (by decide) (by decide) (by decide) (by decide) ?_
                  refine lv_iload_n hx hb dX4_dueBehind_199 rfl (lv_at hl 1 rfl) ?_
                  refine lv_bipush (v := 116) hx hb dX4_dueBehind_200 (by decide) ?_
                  refine lv_icmp_ne (tgt := 210) hx hb dX4_dueBehind_202 (by decide) (fun c202 => ?_) (fun c202 => ?_)
                  · have h := h.1 c202
                    refine lv_iload_n hx hb dX4_dueBehind_210 rfl (lv_at hl 1 rfl) ?_
                    refine af_i hW (rn_S X hW (As := [.int a1]) (rest := []) (kX4_isCount h) mbX4_isCount tw209 tw210 rfl hl.1 (Nat.le_of_ble_eq_true rfl) ⟨(Nat.le_of_ble_eq_true rfl), (Nat.le_of_ble_eq_true rfl)⟩ dX4_dueBehind_211) (fun r211 I211 J211 H locs h hW => ?_)
                    refine lv_if_eq (tgt := 222) hx hb dX4_dueBehind_214 (by decide) (fun c214 => ?_) (fun c214 => ?_)
                    · have h := h.1 c214
                      refine lv_iconst (v := (-1)) hx hb dX4_dueBehind_222 (by decide) ?_
                      exact e_i X hW h dX4_dueBehind_223
                    · have h := h.2 c214
                      refine lv_bipush (v := 9) hx hb dX4_dueBehind_217 (by decide) ?_
                      refine lv_goto (tgt := 223) hx hb dX4_dueBehind_219 (by decide) ?_
                      exact e_i X hW h dX4_dueBehind_223
                  · have h := h.2 c202
                    refine lv_bipush (v := 8) hx hb dX4_dueBehind_205 (by decide) ?_
                    refine lv_goto (tgt := 223) hx hb dX4_dueBehind_207 (by decide) ?_
                    exact e_i X hW h dX4_dueBehind_223
                · have h := h.2 s1_7
                  by_cases s1_8 : a0 = 8
                  · have h := h.1 s1_8
                    refine sw_in (tgt := 224) (off := 223) hx hb dX4_dueBehind_1 s1_8 (by decide) (by decide) (by decide) (by decide) ?_
                    refine lv_iload_n hx hb dX4_dueBehind_224 rfl (lv_at hl 1 rfl) ?_
                    refine af_i hW (rn_S X hW (As := [.int a1]) (rest := []) (kX4_isCount h) mbX4_isCount tw209 tw210 rfl hl.1 (Nat.le_of_ble_eq_true rfl) ⟨(Nat.le_of_ble_eq_true rfl), (Nat.le_of_ble_eq_true rfl)⟩ dX4_dueBehind_225) (fun r225 I225 J225 H locs h hW => ?_)
                    refine lv_if_eq (tgt := 236) hx hb dX4_dueBehind_228 (by decide) (fun c228 => ?_) (fun c228 => ?_)
                    · have h := h.1 c228
                      refine lv_iconst (v := (-1)) hx hb dX4_dueBehind_236 (by decide) ?_
                      exact e_i X hW h dX4_dueBehind_237
                    · have h := h.2 c228
                      refine lv_bipush (v := 9) hx hb dX4_dueBehind_231 (by decide) ?_
                      refine lv_goto (tgt := 237) hx hb dX4_dueBehind_233 (by decide) ?_
                      exact e_i X hW h dX4_dueBehind_237
                  · have h := h.2 s1_8
                    have z1 : Int32.toInt a0 < 0 ∨ 8 < Int32.toInt a0 := by
                      have := ne_ti s1_0 (a := 0) (by decide)
                      have := ne_ti s1_1 (a := 1) (by decide)
                      have := ne_ti s1_2 (a := 2) (by decide)
                      have := ne_ti s1_3 (a := 3) (by decide)
                      have := ne_ti s1_4 (a := 4) (by decide)
                      have := ne_ti s1_5 (a := 5) (by decide)
                      have := ne_ti s1_6 (a := 6) (by decide)
                      have := ne_ti s1_7 (a := 7) (by decide)
                      have := ne_ti s1_8 (a := 8) (by decide)
                      omega
                    refine lv_tableOut (tgt := 238) hx hb dX4_dueBehind_1 z1 (by decide) ?_
                    refine lv_iconst (v := (-1)) hx hb dX4_dueBehind_238 (by decide) ?_
                    exact e_i X hW h dX4_dueBehind_239
def wX4_firstFault_b4 (g : GS) (Q : Int32 → MI → MJ → Prop) : Nat → Int32 → Int32 → MI → MJ → Prop
  | 0, _, _, _, _ => False
  | n + 1, v1, v2, I, J => (((I 1 0 1) ≤ v2 → Q (I 1 0 1) I J) ∧ (¬ (I 1 0 1) ≤ v2 → vp_in v2 20 ∧ (wX4_dueBehind g v1 (I 2 0 (Int32.toNatClampNeg v2)) I J (fun r19 I19 J19 => ((¬ r19 = ((-1)) → wX4_firstFault_b4 g Q n r19 (v2 + 1) I19 J19) ∧ (r19 = ((-1)) → Q v2 I19 J19))))))
set_option maxHeartbeats 4000000 in
set_option maxRecDepth 100000 in
theorem bX4_firstFault_4 {p : Program} {l : Launch} {e : Env} {s : State} {m : MethodId} {args : Array Value} {below : List Frame} {meth : Method} {c : Code} {E : WE} {Q : Int32 → MI → MJ → Prop} (X : Cx E cX4_firstFault 3 RX4 ((Option.some FieldType.int)) p s m args c meth) (n : Nat) : ∀ (v1 : Int32) (v2 : Int32) (I : MI) (J : MJ) (H : Heap) (locs : List Loc) (ls : Array Slot), wX4_firstFault_b4 (wg E) Q n v1 v2 I J → Wd E I J s H locs → lv_has ls 3 [(0, .ref (wa E 1 0)), (1, .int v1), (2, .int v2)] → W p l e (rmO 2 43) s m args below meth c H locs 0 0 (MQ below (QI E Q) args s 0 0 (AA E)) (F0 m 4 ls []) := by
  have hx := X.1.1
  have hb := X.1.2.1
  induction n with
  | zero => intro v1 v2 I J H locs ls h hW hl; exact h.elim
  | succ n ih =>
    intro v1 v2 I J H locs ls h hW hl
    refine lv_iload_n hx hb dX4_firstFault_4 rfl (lv_at hl 2 rfl) ?_
    refine lv_aload_n hx hb dX4_firstFault_5 rfl (lv_at hl 0 rfl) ?_
    refine r_get X hW 1 (okS hW sc1_0) rfl rfl inX4 (Nat.le_of_ble_eq_true rfl) tw33 rfl dX4_firstFault_6 ?_
    refine lv_icmp_ge (tgt := 36) hx hb dX4_firstFault_9 (by decide) (fun c9 => ?_) (fun c9 => ?_)
    · have h := h.1 c9
      refine lv_aload_n hx hb dX4_firstFault_36 rfl (lv_at hl 0 rfl) ?_
      refine r_get X hW 1 (okS hW sc1_0) rfl rfl inX4 (Nat.le_of_ble_eq_true rfl) tw33 rfl dX4_firstFault_37 ?_
      exact e_i X hW h dX4_firstFault_40
    · have h := h.2 c9
      refine lv_iload_n hx hb dX4_firstFault_12 rfl (lv_at hl 1 rfl) ?_
      refine lv_aload_n hx hb dX4_firstFault_13 rfl (lv_at hl 0 rfl) ?_
      refine r_get X hW 0 (okS hW sc1_0) rfl rfl inX4 (Nat.le_of_ble_eq_true rfl) tw32 rfl dX4_firstFault_14 ?_
      refine lv_iload_n hx hb dX4_firstFault_17 rfl (lv_at hl 2 rfl) ?_
      refine r_iald X hW (okS hW sc2_0) rfl h.1 dX4_firstFault_18 ?_
      have h := h.2
      refine af_i hW (rn_S X hW (As := [.int v1, .int (I 2 0 (Int32.toNatClampNeg v2))]) (rest := []) (kX4_dueBehind h) mbX4_dueBehind tw203 tw204 rfl hl.1 (Nat.le_of_ble_eq_true rfl) ⟨(Nat.le_of_ble_eq_true rfl), (Nat.le_of_ble_eq_true rfl)⟩ dX4_firstFault_19) (fun r19 I19 J19 H locs h hW => ?_)
      refine lv_istore_n (lv' := [(1, .int r19), (0, .ref (wa E 1 0)), (2, .int v2)]) hx hb dX4_firstFault_22 rfl hl (by decide) rfl (fun ls hl => ?_)
      refine lv_iload_n hx hb dX4_firstFault_23 rfl (lv_at hl 0 rfl) ?_
      refine lv_iconst (v := (-1)) hx hb dX4_firstFault_24 (by decide) ?_
      refine lv_icmp_ne (tgt := 30) hx hb dX4_firstFault_25 (by decide) (fun c25 => ?_) (fun c25 => ?_)
      · have h := h.1 c25
        refine lv_iinc (v := v2 + 1) (lv' := [(2, .int (v2 + 1)), (1, .int r19), (0, .ref (wa E 1 0))]) hx hb dX4_firstFault_30 hl (k := 2) rfl rfl (by decide) rfl (fun ls hl => ?_)
        refine lv_goto (tgt := 4) hx hb dX4_firstFault_33 (by decide) ?_
        exact ih r19 (v2 + 1) _ _ _ _ _  h hW (lv_sub hl [2, 1, 0] rfl)
      · have h := h.2 c25
        refine lv_iload_n hx hb dX4_firstFault_28 rfl (lv_at hl 2 rfl) ?_
        exact e_i X hW h dX4_firstFault_29
def wX4_firstFault (g : GS) (I : MI) (J : MJ) (Q : Int32 → MI → MJ → Prop) : Prop :=
  ∃ n4, wX4_firstFault_b4 g Q n4 0 0 I J
theorem mbX4_firstFault : MB yX4_firstFault cX4_firstFault 3 ((Option.some FieldType.int)) 0 := ⟨tw202, tw2, ⟨by decide, by decide⟩, by decide +kernel, by decide +kernel⟩
set_option maxHeartbeats 4000000 in
set_option maxRecDepth 100000 in
theorem kX4_firstFault {l : Launch} {E : WE} {I : MI} {J : MJ} {Q : Int32 → MI → MJ → Prop} (h : wX4_firstFault (wg E) I J Q) : Met l yX4_firstFault (wsM yX4_firstFault cX4_firstFault 3 ((Option.some FieldType.int))) (rmO 2 43) (va_Pc [.ref (wa E 1 0)] (Wp E I J)) (QI E Q) 0 0 (AA E) := by
  refine m_entry mbX4_firstFault (Nat.le_of_ble_eq_true rfl) ?_
  intro p e s m args below meth c X ls hW hl
  have X : Cx E cX4_firstFault 3 RX4 ((Option.some FieldType.int)) p s m args c meth := X
  have hx := X.1.1
  have hb := X.1.2.1
  have hl : lv_has ls 3 [(0, .ref (wa E 1 0))] := hl
  refine lv_iconst (v := 0) hx hb dX4_firstFault_0 (by decide) ?_
  refine lv_istore_n (lv' := [(1, .int 0), (0, .ref (wa E 1 0))]) hx hb dX4_firstFault_1 rfl hl (by decide) rfl (fun ls hl => ?_)
  refine lv_iconst (v := 0) hx hb dX4_firstFault_2 (by decide) ?_
  refine lv_istore_n (lv' := [(2, .int 0), (1, .int 0), (0, .ref (wa E 1 0))]) hx hb dX4_firstFault_3 rfl hl (by decide) rfl (fun ls hl => ?_)
  obtain ⟨n4, h⟩ := h
  exact bX4_firstFault_4 X n4 0 0 _ _ _ _ _  h hW (lv_sub hl [2, 1, 0] rfl)
def wX4_isRule (g : GS) (I : MI) (J : MJ) (Q : Int32 → MI → MJ → Prop) : Prop :=
  (((I 1 0 1) ≤ 0 → Q 0 I J) ∧ (¬ (I 1 0 1) ≤ 0 → vp_in ((I 1 0 1) - 1) 20 ∧ (wX4_isCount g (I 2 0 (Int32.toNatClampNeg ((I 1 0 1) - 1))) I J (fun r18 I18 J18 => ((r18 = 0 → Q 0 I18 J18) ∧ (¬ r18 = 0 → wX4_firstFault g I18 J18 (fun r25 I25 J25 => ((¬ r25 = (I25 1 0 1) → Q 0 I25 J25) ∧ (r25 = (I25 1 0 1) → Q 1 I25 J25)))))))))
theorem mbX4_isRule : MB yX4_isRule cX4_isRule 1 ((Option.some FieldType.boolean)) 0 := ⟨tw219, tw2, ⟨by decide, by decide⟩, by decide +kernel, by decide +kernel⟩
set_option maxHeartbeats 4000000 in
set_option maxRecDepth 100000 in
theorem kX4_isRule {l : Launch} {E : WE} {I : MI} {J : MJ} {Q : Int32 → MI → MJ → Prop} (h : wX4_isRule (wg E) I J Q) : Met l yX4_isRule (wsM yX4_isRule cX4_isRule 1 ((Option.some FieldType.boolean))) (rmO 3 65) (va_Pc [.ref (wa E 1 0)] (Wp E I J)) (QI E Q) 0 0 (AA E) := by
  refine m_entry mbX4_isRule (Nat.le_of_ble_eq_true rfl) ?_
  intro p e s m args below meth c X ls hW hl
  have X : Cx E cX4_isRule 1 RX4 ((Option.some FieldType.boolean)) p s m args c meth := X
  have hx := X.1.1
  have hb := X.1.2.1
  have hl : lv_has ls 1 [(0, .ref (wa E 1 0))] := hl
  refine lv_aload_n hx hb dX4_isRule_0 rfl (lv_at hl 0 rfl) ?_
  refine r_get X hW 1 (okS hW sc1_0) rfl rfl inX4 (Nat.le_of_ble_eq_true rfl) tw33 rfl dX4_isRule_1 ?_
  refine lv_if_le (tgt := 39) hx hb dX4_isRule_4 (by decide) (fun c4 => ?_) (fun c4 => ?_)
  · have h := h.1 c4
    refine lv_iconst (v := 0) hx hb dX4_isRule_39 (by decide) ?_
    exact e_z X hW rfl h dX4_isRule_40
  · have h := h.2 c4
    refine lv_aload_n hx hb dX4_isRule_7 rfl (lv_at hl 0 rfl) ?_
    refine r_get X hW 0 (okS hW sc1_0) rfl rfl inX4 (Nat.le_of_ble_eq_true rfl) tw32 rfl dX4_isRule_8 ?_
    refine lv_aload_n hx hb dX4_isRule_11 rfl (lv_at hl 0 rfl) ?_
    refine r_get X hW 1 (okS hW sc1_0) rfl rfl inX4 (Nat.le_of_ble_eq_true rfl) tw33 rfl dX4_isRule_12 ?_
    refine lv_iconst (v := 1) hx hb dX4_isRule_15 (by decide) ?_
    refine lv_isub hx hb dX4_isRule_16 ?_
    refine r_iald X hW (okS hW sc2_0) rfl h.1 dX4_isRule_17 ?_
    have h := h.2
    refine af_i hW (rn_S X hW (As := [.int (I 2 0 (Int32.toNatClampNeg ((I 1 0 1) - 1)))]) (rest := []) (kX4_isCount h) mbX4_isCount tw209 tw210 rfl hl.1 (Nat.le_of_ble_eq_true rfl) ⟨(Nat.le_of_ble_eq_true rfl), (Nat.le_of_ble_eq_true rfl)⟩ dX4_isRule_18) (fun r18 I18 J18 H locs h hW => ?_)
    refine lv_if_eq (tgt := 39) hx hb dX4_isRule_21 (by decide) (fun c21 => ?_) (fun c21 => ?_)
    · have h := h.1 c21
      refine lv_iconst (v := 0) hx hb dX4_isRule_39 (by decide) ?_
      exact e_z X hW rfl h dX4_isRule_40
    · have h := h.2 c21
      refine lv_aload_n hx hb dX4_isRule_24 rfl (lv_at hl 0 rfl) ?_
      refine af_i hW (rn_V X hW (As := []) (rest := []) (okS hW sc1_0) rfl rfl (kX4_firstFault h) mbX4_firstFault tw220 tw200 tw201 rfl hl.1 (Nat.le_of_ble_eq_true rfl) ⟨(Nat.le_of_ble_eq_true rfl), (Nat.le_of_ble_eq_true rfl)⟩ dX4_isRule_25) (fun r25 I25 J25 H locs h hW => ?_)
      refine lv_aload_n hx hb dX4_isRule_28 rfl (lv_at hl 0 rfl) ?_
      refine r_get X hW 1 (okS hW sc1_0) rfl rfl inX4 (Nat.le_of_ble_eq_true rfl) tw33 rfl dX4_isRule_29 ?_
      refine lv_icmp_ne (tgt := 39) hx hb dX4_isRule_32 (by decide) (fun c32 => ?_) (fun c32 => ?_)
      · have h := h.1 c32
        refine lv_iconst (v := 0) hx hb dX4_isRule_39 (by decide) ?_
        exact e_z X hW rfl h dX4_isRule_40
      · have h := h.2 c32
        refine lv_iconst (v := 1) hx hb dX4_isRule_35 (by decide) ?_
        refine lv_goto (tgt := 40) hx hb dX4_isRule_36 (by decide) ?_
        exact e_z X hW rfl h dX4_isRule_40
def wX11_mix (g : GS) (a0 : Int64) (a2 : Int64) (I : MI) (J : MJ) (Q : Int64 → MI → MJ → Prop) : Prop :=
  Q ((31 * a0) + a2) I J
theorem mbX11_mix : MB yX11_mix cX11_mix 4 ((Option.some FieldType.long)) 2 := ⟨tw806, tw1, ⟨by decide, by decide⟩, by decide +kernel, by decide +kernel⟩
set_option maxHeartbeats 4000000 in
set_option maxRecDepth 100000 in
theorem kX11_mix {l : Launch} {E : WE} {a0 : Int64} {a2 : Int64} {I : MI} {J : MJ} {Q : Int64 → MI → MJ → Prop} (h : wX11_mix (wg E) a0 a2 I J Q) : Met l yX11_mix (wsM yX11_mix cX11_mix 4 ((Option.some FieldType.long))) (rmO 0 0) (va_Pc [.long a0, .long a2] (Wp E I J)) (QL E Q) 0 0 (AA E) := by
  refine m_entry mbX11_mix (Nat.le_of_ble_eq_true rfl) ?_
  intro p e s m args below meth c X ls hW hl
  have X : Cx E cX11_mix 4 RX11 ((Option.some FieldType.long)) p s m args c meth := X
  have hx := X.1.1
  have hb := X.1.2.1
  have hl : lv_has ls 4 [(0, .long a0), (2, .long a2)] := hl
  refine lv_ldc2 hx hb X.1.2.2.2.1 (X.1.2.2.2.2 _ tw807) dX11_mix_0 ?_
  refine lv_lload_n hx hb dX11_mix_3 rfl (lv_at hl 0 rfl) ?_
  refine lv_lmul hx hb dX11_mix_4 ?_
  refine lv_lload_n hx hb dX11_mix_5 rfl (lv_at hl 1 rfl) ?_
  refine lv_ladd hx hb dX11_mix_6 ?_
  exact e_l X hW h dX11_mix_7
def wX4_digestLetters_b5 (g : GS) (Q : Int64 → MI → MJ → Prop) : Nat → Int64 → Int32 → MI → MJ → Prop
  | 0, _, _, _, _ => False
  | n + 1, v3, v5, I, J => (((I 1 0 1) ≤ v5 → Q v3 I J) ∧ (¬ (I 1 0 1) ≤ v5 → vp_in v5 20 ∧ (wX11_mix g v3 (Int32.toInt64 (I 2 0 (Int32.toNatClampNeg v5))) I J (fun r23 I23 J23 => wX4_digestLetters_b5 g Q n r23 (v5 + 1) I23 J23))))
set_option maxHeartbeats 4000000 in
set_option maxRecDepth 100000 in
theorem bX4_digestLetters_5 {p : Program} {l : Launch} {e : Env} {s : State} {m : MethodId} {args : Array Value} {below : List Frame} {meth : Method} {c : Code} {E : WE} {Q : Int64 → MI → MJ → Prop} (X : Cx E cX4_digestLetters 6 RX4 ((Option.some FieldType.long)) p s m args c meth) (n : Nat) : ∀ (v3 : Int64) (v5 : Int32) (I : MI) (J : MJ) (H : Heap) (locs : List Loc) (ls : Array Slot), wX4_digestLetters_b5 (wg E) Q n v3 v5 I J → Wd E I J s H locs → lv_has ls 6 [(0, .ref (wa E 1 0)), (3, .long v3), (5, .int v5)] → W p l e (rmO 1 23) s m args below meth c H locs 0 0 (MQ below (QL E Q) args s 0 0 (AA E)) (F0 m 5 ls []) := by
  have hx := X.1.1
  have hb := X.1.2.1
  induction n with
  | zero => intro v3 v5 I J H locs ls h hW hl; exact h.elim
  | succ n ih =>
    intro v3 v5 I J H locs ls h hW hl
    refine lv_iload hx hb dX4_digestLetters_5 (lv_at hl 2 rfl) ?_
    refine lv_aload_n hx hb dX4_digestLetters_7 rfl (lv_at hl 0 rfl) ?_
    refine r_get X hW 1 (okS hW sc1_0) rfl rfl inX4 (Nat.le_of_ble_eq_true rfl) tw33 rfl dX4_digestLetters_8 ?_
    refine lv_icmp_ge (tgt := 33) hx hb dX4_digestLetters_11 (by decide) (fun c11 => ?_) (fun c11 => ?_)
    · have h := h.1 c11
      refine lv_lload_n hx hb dX4_digestLetters_33 rfl (lv_at hl 1 rfl) ?_
      exact e_l X hW h dX4_digestLetters_34
    · have h := h.2 c11
      refine lv_lload_n hx hb dX4_digestLetters_14 rfl (lv_at hl 1 rfl) ?_
      refine lv_aload_n hx hb dX4_digestLetters_15 rfl (lv_at hl 0 rfl) ?_
      refine r_get X hW 0 (okS hW sc1_0) rfl rfl inX4 (Nat.le_of_ble_eq_true rfl) tw32 rfl dX4_digestLetters_16 ?_
      refine lv_iload hx hb dX4_digestLetters_19 (lv_at hl 2 rfl) ?_
      refine r_iald X hW (okS hW sc2_0) rfl h.1 dX4_digestLetters_21 ?_
      have h := h.2
      refine lv_i2l hx hb dX4_digestLetters_22 rfl ?_
      refine af_l hW (rn_SN X hW (As := [.long v3, .long (Int32.toInt64 (I 2 0 (Int32.toNatClampNeg v5)))]) (rest := []) (kX11_mix h) mbX11_mix nw826 tw805 rfl hl.1 (Nat.le_of_ble_eq_true rfl) ⟨(Nat.le_of_ble_eq_true rfl), (Nat.le_of_ble_eq_true rfl)⟩ dX4_digestLetters_23) (fun r23 I23 J23 H locs h hW => ?_)
      refine lv_lstore_n (lv' := [(3, .long r23), (0, .ref (wa E 1 0)), (5, .int v5)]) hx hb dX4_digestLetters_26 rfl hl (by decide) rfl (fun ls hl => ?_)
      refine lv_iinc (v := v5 + 1) (lv' := [(5, .int (v5 + 1)), (3, .long r23), (0, .ref (wa E 1 0))]) hx hb dX4_digestLetters_27 hl (k := 2) rfl rfl (by decide) rfl (fun ls hl => ?_)
      refine lv_goto (tgt := 5) hx hb dX4_digestLetters_30 (by decide) ?_
      exact ih r23 (v5 + 1) _ _ _ _ _  h hW (lv_sub hl [2, 1, 0] rfl)
def wX4_digestLetters (g : GS) (a1 : Int64) (I : MI) (J : MJ) (Q : Int64 → MI → MJ → Prop) : Prop :=
  ∃ n5, wX4_digestLetters_b5 g Q n5 a1 0 I J
theorem mbX4_digestLetters : MB yX4_digestLetters cX4_digestLetters 6 ((Option.some FieldType.long)) 1 := ⟨tw825, tw2, ⟨by decide, by decide⟩, by decide +kernel, by decide +kernel⟩
set_option maxHeartbeats 4000000 in
set_option maxRecDepth 100000 in
theorem kX4_digestLetters {l : Launch} {E : WE} {a1 : Int64} {I : MI} {J : MJ} {Q : Int64 → MI → MJ → Prop} (h : wX4_digestLetters (wg E) a1 I J Q) : Met l yX4_digestLetters (wsM yX4_digestLetters cX4_digestLetters 6 ((Option.some FieldType.long))) (rmO 1 23) (va_Pc [.ref (wa E 1 0), .long a1] (Wp E I J)) (QL E Q) 0 0 (AA E) := by
  refine m_entry mbX4_digestLetters (Nat.le_of_ble_eq_true rfl) ?_
  intro p e s m args below meth c X ls hW hl
  have X : Cx E cX4_digestLetters 6 RX4 ((Option.some FieldType.long)) p s m args c meth := X
  have hx := X.1.1
  have hb := X.1.2.1
  have hl : lv_has ls 6 [(0, .ref (wa E 1 0)), (1, .long a1)] := hl
  refine lv_lload_n hx hb dX4_digestLetters_0 rfl (lv_at hl 1 rfl) ?_
  refine lv_lstore_n (lv' := [(3, .long a1), (0, .ref (wa E 1 0)), (1, .long a1)]) hx hb dX4_digestLetters_1 rfl hl (by decide) rfl (fun ls hl => ?_)
  refine lv_iconst (v := 0) hx hb dX4_digestLetters_2 (by decide) ?_
  refine lv_istore (lv' := [(5, .int 0), (3, .long a1), (0, .ref (wa E 1 0)), (1, .long a1)]) hx hb dX4_digestLetters_3 hl (by decide) rfl (fun ls hl => ?_)
  obtain ⟨n5, h⟩ := h
  exact bX4_digestLetters_5 X n5 a1 0 _ _ _ _ _  h hW (lv_sub hl [2, 1, 0] rfl)
def wX4_codeAt (g : GS) (a1 : Int32) (I : MI) (J : MJ) (Q : Int32 → MI → MJ → Prop) : Prop :=
  ((a1 < 0 → Q 0 I J) ∧ (¬ a1 < 0 → (((I 1 0 1) ≤ a1 → Q 0 I J) ∧ (¬ (I 1 0 1) ≤ a1 → vp_in a1 20 ∧ (Q (I 2 0 (Int32.toNatClampNeg a1)) I J)))))
theorem mbX4_codeAt : MB yX4_codeAt cX4_codeAt 2 ((Option.some FieldType.int)) 1 := ⟨tw228, tw2, ⟨by decide, by decide⟩, by decide +kernel, by decide +kernel⟩
set_option maxHeartbeats 4000000 in
set_option maxRecDepth 100000 in
theorem kX4_codeAt {l : Launch} {E : WE} {a1 : Int32} {I : MI} {J : MJ} {Q : Int32 → MI → MJ → Prop} (h : wX4_codeAt (wg E) a1 I J Q) : Met l yX4_codeAt (wsM yX4_codeAt cX4_codeAt 2 ((Option.some FieldType.int))) (rmO 0 0) (va_Pc [.ref (wa E 1 0), .int a1] (Wp E I J)) (QI E Q) 0 0 (AA E) := by
  refine m_entry mbX4_codeAt (Nat.le_of_ble_eq_true rfl) ?_
  intro p e s m args below meth c X ls hW hl
  have X : Cx E cX4_codeAt 2 RX4 ((Option.some FieldType.int)) p s m args c meth := X
  have hx := X.1.1
  have hb := X.1.2.1
  have hl : lv_has ls 2 [(0, .ref (wa E 1 0)), (1, .int a1)] := hl
  refine lv_iload_n hx hb dX4_codeAt_0 rfl (lv_at hl 1 rfl) ?_
  refine lv_if_lt (tgt := 21) hx hb dX4_codeAt_1 (by decide) (fun c1 => ?_) (fun c1 => ?_)
  · have h := h.1 c1
    refine lv_iconst (v := 0) hx hb dX4_codeAt_21 (by decide) ?_
    exact e_i X hW h dX4_codeAt_22
  · have h := h.2 c1
    refine lv_iload_n hx hb dX4_codeAt_4 rfl (lv_at hl 1 rfl) ?_
    refine lv_aload_n hx hb dX4_codeAt_5 rfl (lv_at hl 0 rfl) ?_
    refine r_get X hW 1 (okS hW sc1_0) rfl rfl inX4 (Nat.le_of_ble_eq_true rfl) tw33 rfl dX4_codeAt_6 ?_
    refine lv_icmp_ge (tgt := 21) hx hb dX4_codeAt_9 (by decide) (fun c9 => ?_) (fun c9 => ?_)
    · have h := h.1 c9
      refine lv_iconst (v := 0) hx hb dX4_codeAt_21 (by decide) ?_
      exact e_i X hW h dX4_codeAt_22
    · have h := h.2 c9
      refine lv_aload_n hx hb dX4_codeAt_12 rfl (lv_at hl 0 rfl) ?_
      refine r_get X hW 0 (okS hW sc1_0) rfl rfl inX4 (Nat.le_of_ble_eq_true rfl) tw32 rfl dX4_codeAt_13 ?_
      refine lv_iload_n hx hb dX4_codeAt_16 rfl (lv_at hl 1 rfl) ?_
      refine r_iald X hW (okS hW sc2_0) rfl h.1 dX4_codeAt_17 ?_
      have h := h.2
      refine lv_goto (tgt := 22) hx hb dX4_codeAt_18 (by decide) ?_
      exact e_i X hW h dX4_codeAt_22
def wX5_kind (g : GS) (q : Nat) (I : MI) (J : MJ) (Q : Int32 → MI → MJ → Prop) : Prop :=
  Q 0 I J
theorem mbX5_kind : MB yX5_kind cX5_kind 1 ((Option.some FieldType.int)) 0 := ⟨tw391, tw9, ⟨by decide, by decide⟩, by decide +kernel, by decide +kernel⟩
set_option maxHeartbeats 4000000 in
set_option maxRecDepth 100000 in
theorem kX5_kind {l : Launch} {E : WE} {q : Nat} {I : MI} {J : MJ} {Q : Int32 → MI → MJ → Prop} (hp_q : q < (wg E).2.1) (h : wX5_kind (wg E) q I J Q) : Met l yX5_kind (wsM yX5_kind cX5_kind 1 ((Option.some FieldType.int))) (rmO 0 0) (va_Pc [.ref (wa E 40 q)] (Wp E I J)) (QI E Q) 0 0 (AA E) := by
  refine m_entry mbX5_kind (Nat.le_of_ble_eq_true rfl) ?_
  intro p e s m args below meth c X ls hW hl
  have X : Cx E cX5_kind 1 RX5 ((Option.some FieldType.int)) p s m args c meth := X
  have hx := X.1.1
  have hb := X.1.2.1
  have hl : lv_has ls 1 [(0, .ref (wa E 40 q))] := hl
  refine lv_iconst (v := 0) hx hb dX5_kind_0 (by decide) ?_
  exact e_i X hW h dX5_kind_1
def wX5_n (g : GS) (q : Nat) (I : MI) (J : MJ) (Q : Int32 → MI → MJ → Prop) : Prop :=
  Q 0 I J
theorem mbX5_n : MB yX5_n cX5_n 1 ((Option.some FieldType.int)) 0 := ⟨tw404, tw9, ⟨by decide, by decide⟩, by decide +kernel, by decide +kernel⟩
set_option maxHeartbeats 4000000 in
set_option maxRecDepth 100000 in
theorem kX5_n {l : Launch} {E : WE} {q : Nat} {I : MI} {J : MJ} {Q : Int32 → MI → MJ → Prop} (hp_q : q < (wg E).2.1) (h : wX5_n (wg E) q I J Q) : Met l yX5_n (wsM yX5_n cX5_n 1 ((Option.some FieldType.int))) (rmO 0 0) (va_Pc [.ref (wa E 40 q)] (Wp E I J)) (QI E Q) 0 0 (AA E) := by
  refine m_entry mbX5_n (Nat.le_of_ble_eq_true rfl) ?_
  intro p e s m args below meth c X ls hW hl
  have X : Cx E cX5_n 1 RX5 ((Option.some FieldType.int)) p s m args c meth := X
  have hx := X.1.1
  have hb := X.1.2.1
  have hl : lv_has ls 1 [(0, .ref (wa E 40 q))] := hl
  refine lv_iconst (v := 0) hx hb dX5_n_0 (by decide) ?_
  exact e_i X hW h dX5_n_1
def wX5_blackOfStranger (g : GS) (q : Nat) (a1 : Int32) (a2 : Int32) (a3 : Int32) (I : MI) (J : MJ) (Q : Int32 → MI → MJ → Prop) : Prop :=
  Q a1 I J
theorem mbX5_blackOfStranger : MB yX5_blackOfStranger cX5_blackOfStranger 4 ((Option.some FieldType.int)) 3 := ⟨tw522, tw9, ⟨by decide, by decide⟩, by decide +kernel, by decide +kernel⟩
set_option maxHeartbeats 4000000 in
set_option maxRecDepth 100000 in
theorem kX5_blackOfStranger {l : Launch} {E : WE} {q : Nat} {a1 : Int32} {a2 : Int32} {a3 : Int32} {I : MI} {J : MJ} {Q : Int32 → MI → MJ → Prop} (hp_q : q < (wg E).2.1) (h : wX5_blackOfStranger (wg E) q a1 a2 a3 I J Q) : Met l yX5_blackOfStranger (wsM yX5_blackOfStranger cX5_blackOfStranger 4 ((Option.some FieldType.int))) (rmO 0 0) (va_Pc [.ref (wa E 40 q), .int a1, .int a2, .int a3] (Wp E I J)) (QI E Q) 0 0 (AA E) := by
  refine m_entry mbX5_blackOfStranger (Nat.le_of_ble_eq_true rfl) ?_
  intro p e s m args below meth c X ls hW hl
  have X : Cx E cX5_blackOfStranger 4 RX5 ((Option.some FieldType.int)) p s m args c meth := X
  have hx := X.1.1
  have hb := X.1.2.1
  have hl : lv_has ls 4 [(0, .ref (wa E 40 q)), (1, .int a1), (2, .int a2), (3, .int a3)] := hl
  refine lv_iload_n hx hb dX5_blackOfStranger_0 rfl (lv_at hl 1 rfl) ?_
  exact e_i X hW h dX5_blackOfStranger_1
def wX10_blackOfStranger (g : GS) (q : Nat) (a1 : Int32) (a2 : Int32) (a3 : Int32) (I : MI) (J : MJ) (Q : Int32 → MI → MJ → Prop) : Prop :=
  ((¬ a2 = (I 40 q 6) → Q a1 I J) ∧ (a2 = (I 40 q 6) → Q 10 I J))
theorem mbX10_blackOfStranger : MB yX10_blackOfStranger cX10_blackOfStranger 4 ((Option.some FieldType.int)) 3 := ⟨tw521, tw12, ⟨by decide, by decide⟩, by decide +kernel, by decide +kernel⟩
set_option maxHeartbeats 4000000 in
set_option maxRecDepth 100000 in
theorem kX10_blackOfStranger {l : Launch} {E : WE} {q : Nat} {a1 : Int32} {a2 : Int32} {a3 : Int32} {I : MI} {J : MJ} {Q : Int32 → MI → MJ → Prop} (hp_q : q < (wg E).2.1) (hk_q : (wg E).1 q = 10 ∨ (wg E).1 q = 8) (h : wX10_blackOfStranger (wg E) q a1 a2 a3 I J Q) : Met l yX10_blackOfStranger (wsM yX10_blackOfStranger cX10_blackOfStranger 4 ((Option.some FieldType.int))) (rmO 0 0) (va_Pc [.ref (wa E 40 q), .int a1, .int a2, .int a3] (Wp E I J)) (QI E Q) 0 0 (AA E) := by
  refine m_entry mbX10_blackOfStranger (Nat.le_of_ble_eq_true rfl) ?_
  intro p e s m args below meth c X ls hW hl
  have X : Cx E cX10_blackOfStranger 4 RX10 ((Option.some FieldType.int)) p s m args c meth := X
  have hx := X.1.1
  have hb := X.1.2.1
  have hl : lv_has ls 4 [(0, .ref (wa E 40 q)), (1, .int a1), (2, .int a2), (3, .int a3)] := hl
  refine lv_iload_n hx hb dX10_blackOfStranger_0 rfl (lv_at hl 2 rfl) ?_
  refine lv_aload_n hx hb dX10_blackOfStranger_1 rfl (lv_at hl 0 rfl) ?_
  refine r_getOther X hW hp_q hk_q tw331 dX10_blackOfStranger_2 ?_
  refine lv_icmp_ne (tgt := 13) hx hb dX10_blackOfStranger_5 (by decide) (fun c5 => ?_) (fun c5 => ?_)
  · have h := h.1 c5
    refine lv_iload_n hx hb dX10_blackOfStranger_13 rfl (lv_at hl 1 rfl) ?_
    exact e_i X hW h dX10_blackOfStranger_14
  · have h := h.2 c5
    refine lv_bipush (v := 10) hx hb dX10_blackOfStranger_8 (by decide) ?_
    refine lv_goto (tgt := 14) hx hb dX10_blackOfStranger_10 (by decide) ?_
    exact e_i X hW h dX10_blackOfStranger_14
def wX5_mindsOf (g : GS) (q : Nat) (a1 : Int32) (I : MI) (J : MJ) (Q : Int32 → MI → MJ → Prop) : Prop :=
  ((a1 < 0 → Q 0 I J) ∧ (¬ a1 < 0 → ((6 ≤ a1 → Q 0 I J) ∧ (¬ 6 ≤ a1 → vp_in a1 6 ∧ (Q (I 41 q (Int32.toNatClampNeg a1)) I J)))))
theorem mbX5_mindsOf : MB yX5_mindsOf cX5_mindsOf 2 ((Option.some FieldType.int)) 1 := ⟨tw429, tw9, ⟨by decide, by decide⟩, by decide +kernel, by decide +kernel⟩
set_option maxHeartbeats 4000000 in
set_option maxRecDepth 100000 in
theorem kX5_mindsOf {l : Launch} {E : WE} {q : Nat} {a1 : Int32} {I : MI} {J : MJ} {Q : Int32 → MI → MJ → Prop} (hp_q : q < (wg E).2.1) (h : wX5_mindsOf (wg E) q a1 I J Q) : Met l yX5_mindsOf (wsM yX5_mindsOf cX5_mindsOf 2 ((Option.some FieldType.int))) (rmO 0 0) (va_Pc [.ref (wa E 40 q), .int a1] (Wp E I J)) (QI E Q) 0 0 (AA E) := by
  refine m_entry mbX5_mindsOf (Nat.le_of_ble_eq_true rfl) ?_
  intro p e s m args below meth c X ls hW hl
  have X : Cx E cX5_mindsOf 2 RX5 ((Option.some FieldType.int)) p s m args c meth := X
  have hx := X.1.1
  have hb := X.1.2.1
  have hl : lv_has ls 2 [(0, .ref (wa E 40 q)), (1, .int a1)] := hl
  refine lv_iload_n hx hb dX5_mindsOf_0 rfl (lv_at hl 1 rfl) ?_
  refine lv_if_lt (tgt := 19) hx hb dX5_mindsOf_1 (by decide) (fun c1 => ?_) (fun c1 => ?_)
  · have h := h.1 c1
    refine lv_iconst (v := 0) hx hb dX5_mindsOf_19 (by decide) ?_
    exact e_i X hW h dX5_mindsOf_20
  · have h := h.2 c1
    refine lv_iload_n hx hb dX5_mindsOf_4 rfl (lv_at hl 1 rfl) ?_
    refine lv_bipush (v := 6) hx hb dX5_mindsOf_5 (by decide) ?_
    refine lv_icmp_ge (tgt := 19) hx hb dX5_mindsOf_7 (by decide) (fun c7 => ?_) (fun c7 => ?_)
    · have h := h.1 c7
      refine lv_iconst (v := 0) hx hb dX5_mindsOf_19 (by decide) ?_
      exact e_i X hW h dX5_mindsOf_20
    · have h := h.2 c7
      refine lv_aload_n hx hb dX5_mindsOf_10 rfl (lv_at hl 0 rfl) ?_
      refine r_getP1 X hW hp_q tw290 dX5_mindsOf_11 ?_
      refine lv_iload_n hx hb dX5_mindsOf_14 rfl (lv_at hl 1 rfl) ?_
      refine r_iald X hW (okP hW hp_q).2.1 rfl h.1 dX5_mindsOf_15 ?_
      have h := h.2
      refine lv_goto (tgt := 20) hx hb dX5_mindsOf_16 (by decide) ?_
      exact e_i X hW h dX5_mindsOf_20
def wX10_n (g : GS) (q : Nat) (I : MI) (J : MJ) (Q : Int32 → MI → MJ → Prop) : Prop :=
  Q (I 40 q 6) I J
theorem mbX10_n : MB yX10_n cX10_n 1 ((Option.some FieldType.int)) 0 := ⟨tw402, tw12, ⟨by decide, by decide⟩, by decide +kernel, by decide +kernel⟩
set_option maxHeartbeats 4000000 in
set_option maxRecDepth 100000 in
theorem kX10_n {l : Launch} {E : WE} {q : Nat} {I : MI} {J : MJ} {Q : Int32 → MI → MJ → Prop} (hp_q : q < (wg E).2.1) (hk_q : (wg E).1 q = 10 ∨ (wg E).1 q = 8) (h : wX10_n (wg E) q I J Q) : Met l yX10_n (wsM yX10_n cX10_n 1 ((Option.some FieldType.int))) (rmO 0 0) (va_Pc [.ref (wa E 40 q)] (Wp E I J)) (QI E Q) 0 0 (AA E) := by
  refine m_entry mbX10_n (Nat.le_of_ble_eq_true rfl) ?_
  intro p e s m args below meth c X ls hW hl
  have X : Cx E cX10_n 1 RX10 ((Option.some FieldType.int)) p s m args c meth := X
  have hx := X.1.1
  have hb := X.1.2.1
  have hl : lv_has ls 1 [(0, .ref (wa E 40 q))] := hl
  refine lv_aload_n hx hb dX10_n_0 rfl (lv_at hl 0 rfl) ?_
  refine r_getOther X hW hp_q hk_q tw331 dX10_n_1 ?_
  exact e_i X hW h dX10_n_4
def wX8_blackOfStranger (g : GS) (q : Nat) (a1 : Int32) (a2 : Int32) (a3 : Int32) (I : MI) (J : MJ) (Q : Int32 → MI → MJ → Prop) : Prop :=
  wX10_n g q I J (fun r2 I2 J2 => ((¬ a2 = r2 → Q a1 I2 J2) ∧ (a2 = r2 → Q 0 I2 J2)))
theorem mbX8_blackOfStranger : MB yX8_blackOfStranger cX8_blackOfStranger 4 ((Option.some FieldType.int)) 3 := ⟨tw514, tw13, ⟨by decide, by decide⟩, by decide +kernel, by decide +kernel⟩
set_option maxHeartbeats 4000000 in
set_option maxRecDepth 100000 in
theorem kX8_blackOfStranger {l : Launch} {E : WE} {q : Nat} {a1 : Int32} {a2 : Int32} {a3 : Int32} {I : MI} {J : MJ} {Q : Int32 → MI → MJ → Prop} (hp_q : q < (wg E).2.1) (hk_q : (wg E).1 q = 8) (h : wX8_blackOfStranger (wg E) q a1 a2 a3 I J Q) : Met l yX8_blackOfStranger (wsM yX8_blackOfStranger cX8_blackOfStranger 4 ((Option.some FieldType.int))) (rmO 1 20) (va_Pc [.ref (wa E 40 q), .int a1, .int a2, .int a3] (Wp E I J)) (QI E Q) 0 0 (AA E) := by
  refine m_entry mbX8_blackOfStranger (Nat.le_of_ble_eq_true rfl) ?_
  intro p e s m args below meth c X ls hW hl
  have X : Cx E cX8_blackOfStranger 4 RX8 ((Option.some FieldType.int)) p s m args c meth := X
  have hx := X.1.1
  have hb := X.1.2.1
  have hl : lv_has ls 4 [(0, .ref (wa E 40 q)), (1, .int a1), (2, .int a2), (3, .int a3)] := hl
  refine lv_iload_n hx hb dX8_blackOfStranger_0 rfl (lv_at hl 2 rfl) ?_
  refine lv_aload_n hx hb dX8_blackOfStranger_1 rfl (lv_at hl 0 rfl) ?_
  refine af_i hW (rn_O X hW (As := []) (rest := [.int a2]) (x := ⟨RX8, "n", "()I"⟩) (owner := RX10) (okP hW hp_q).1 (co8 E _ _ hk_q) rfl (kX10_n hp_q (Or.inr hk_q) h) mbX10_n tw515 tw516 tw401 tw401 tw518 tw402 ⟨by decide, by decide, by decide +kernel⟩ rfl hl.1 (Nat.le_of_ble_eq_true rfl) ⟨(Nat.le_of_ble_eq_true rfl), (Nat.le_of_ble_eq_true rfl)⟩ dX8_blackOfStranger_2) (fun r2 I2 J2 H locs h hW => ?_)
  refine lv_icmp_ne (tgt := 12) hx hb dX8_blackOfStranger_5 (by decide) (fun c5 => ?_) (fun c5 => ?_)
  · have h := h.1 c5
    refine lv_iload_n hx hb dX8_blackOfStranger_12 rfl (lv_at hl 1 rfl) ?_
    exact e_i X hW h dX8_blackOfStranger_13
  · have h := h.2 c5
    refine lv_iconst (v := 0) hx hb dX8_blackOfStranger_8 (by decide) ?_
    refine lv_goto (tgt := 13) hx hb dX8_blackOfStranger_9 (by decide) ?_
    exact e_i X hW h dX8_blackOfStranger_13
def wv_blackOfStranger (g : GS) (q : Nat) (a1 : Int32) (a2 : Int32) (a3 : Int32) (I : MI) (J : MJ) (Q : Int32 → MI → MJ → Prop) : Prop :=
  (g.1 q = 2 → wX2_blackOfStranger g q a1 a2 a3 I J Q) ∧ (g.1 q = 3 → wX3_blackOfStranger g q a1 a2 a3 I J Q) ∧ (g.1 q = 8 → wX8_blackOfStranger g q a1 a2 a3 I J Q) ∧ (g.1 q = 10 → wX10_blackOfStranger g q a1 a2 a3 I J Q) ∧ ((¬ g.1 q = 2 ∧ ¬ g.1 q = 3 ∧ ¬ g.1 q = 8 ∧ ¬ g.1 q = 10) → wX5_blackOfStranger g q a1 a2 a3 I J Q)
set_option maxHeartbeats 4000000 in
set_option maxRecDepth 100000 in
theorem v_blackOfStranger {p : Program} {l : Launch} {e : Env} {R : Room} {s : State} {m : MethodId} {args : Array Value} {below : List Frame} {meth : Method} {c : Code} {H : Heap} {locs : List Loc} {E : WE} {I : MI} {J : MJ} {cc : ByteArray} {nL : Nat} {own : String} {rt : Option FieldType} {pc : Nat} {ls : Array Slot} {rest : List Value} {q index : Nat} {a1 : Int32} {a2 : Int32} {a3 : Int32} {Q : Int32 → MI → MJ → Prop} (X : Cx E cc nL own rt p s m args c meth) (hW : Wd E I J s H locs) (hp : q < (wg E).2.1) (h : wv_blackOfStranger (wg E) q a1 a2 a3 I J Q) (hlk : Cond.methodLink own index yX5_blackOfStranger ∈ lwt) (hsz : ls.size = nL) (hcat : (rest.map fun v => v.category).sum ≤ 8) (hR : 1 + 1 ≤ R.frames ∧ 8 + (4 + 11) + 20 ≤ R.locals) (hdg : decode cc pc = .ok (.invokevirtual index, 3)) :
    va_Run p l e R s m args below meth c H locs 0 0 0 0 (F0 m pc ls (.int a3 :: .int a2 :: .int a1 :: .ref (wa E 40 q) :: rest)) rest (QI E Q (.ref (wa E 40 q) :: [.int a1, .int a2, .int a3]).toArray) (AA E) := by
  obtain ⟨h2, h3, h8, h10, h5⟩ := h
  rcases kd_cases ((wg E).1 q) with hk | hk | hk | hk | hk
  · exact rn_O X hW (As := [.int a1, .int a2, .int a3]) (x := yX5_blackOfStranger) (owner := RX5) (okP hW hp).1 (co2 E _ _ hk) rfl (kX2_blackOfStranger hp (h2 hk)) mbX2_blackOfStranger hlk tw505 tw503 tw507 tw506 tw522 ⟨by decide, by decide, by decide +kernel⟩ rfl hsz hcat ⟨by have := hR.1; omega, by have := hR.2; omega⟩ hdg
  · exact rn_O X hW (As := [.int a1, .int a2, .int a3]) (x := yX5_blackOfStranger) (owner := RX5) (okP hW hp).1 (co3 E _ _ hk) rfl (kX3_blackOfStranger hp hk (h3 hk)) mbX3_blackOfStranger hlk tw505 tw503 tw510 tw509 tw522 ⟨by decide, by decide, by decide +kernel⟩ rfl hsz hcat ⟨by have := hR.1; omega, by have := hR.2; omega⟩ hdg
  · exact rn_O X hW (As := [.int a1, .int a2, .int a3]) (x := yX5_blackOfStranger) (owner := RX5) (okP hW hp).1 (co8 E _ _ hk) rfl (kX8_blackOfStranger hp hk (h8 hk)) mbX8_blackOfStranger hlk tw505 tw503 tw513 tw512 tw522 ⟨by decide, by decide, by decide +kernel⟩ rfl hsz hcat ⟨by have := hR.1; omega, by have := hR.2; omega⟩ hdg
  · exact rn_O X hW (As := [.int a1, .int a2, .int a3]) (x := yX5_blackOfStranger) (owner := RX5) (okP hW hp).1 (co10 E _ _ hk) rfl (kX10_blackOfStranger hp (Or.inl hk) (h10 hk)) mbX10_blackOfStranger hlk tw505 tw503 tw520 tw519 tw522 ⟨by decide, by decide, by decide +kernel⟩ rfl hsz hcat ⟨by have := hR.1; omega, by have := hR.2; omega⟩ hdg
  · exact rn_V X hW (As := [.int a1, .int a2, .int a3]) (okP hW hp).1 (co5 E _ _ hk) rfl (kX5_blackOfStranger hp (h5 hk)) mbX5_blackOfStranger hlk tw503 tw504 rfl hsz hcat ⟨by have := hR.1; omega, by have := hR.2; omega⟩ hdg

def wX5_blackFor (g : GS) (q : Nat) (a1 : Int32) (a2 : Int32) (a3 : Int32) (I : MI) (J : MJ) (Q : Int32 → MI → MJ → Prop) : Prop :=
  ((¬ a2 = (I 40 q 0) → wX5_mindsOf g q a1 I J (fun r15 I15 J15 => wv_blackOfStranger g q r15 a2 a3 I15 J15 (fun r20 I20 J20 => Q r20 I20 J20))) ∧ (a2 = (I 40 q 0) → Q 0 I J))
theorem mbX5_blackFor : MB yX5_blackFor cX5_blackFor 4 ((Option.some FieldType.int)) 3 := ⟨tw501, tw9, ⟨by decide, by decide⟩, by decide +kernel, by decide +kernel⟩
set_option maxHeartbeats 4000000 in
set_option maxRecDepth 100000 in
theorem kX5_blackFor {l : Launch} {E : WE} {q : Nat} {a1 : Int32} {a2 : Int32} {a3 : Int32} {I : MI} {J : MJ} {Q : Int32 → MI → MJ → Prop} (hp_q : q < (wg E).2.1) (h : wX5_blackFor (wg E) q a1 a2 a3 I J Q) : Met l yX5_blackFor (wsM yX5_blackFor cX5_blackFor 4 ((Option.some FieldType.int))) (rmO 2 43) (va_Pc [.ref (wa E 40 q), .int a1, .int a2, .int a3] (Wp E I J)) (QI E Q) 0 0 (AA E) := by
  refine m_entry mbX5_blackFor (Nat.le_of_ble_eq_true rfl) ?_
  intro p e s m args below meth c X ls hW hl
  have X : Cx E cX5_blackFor 4 RX5 ((Option.some FieldType.int)) p s m args c meth := X
  have hx := X.1.1
  have hb := X.1.2.1
  have hl : lv_has ls 4 [(0, .ref (wa E 40 q)), (1, .int a1), (2, .int a2), (3, .int a3)] := hl
  refine lv_iload_n hx hb dX5_blackFor_0 rfl (lv_at hl 2 rfl) ?_
  refine lv_aload_n hx hb dX5_blackFor_1 rfl (lv_at hl 0 rfl) ?_
  refine r_getP0 X hW hp_q tw288 dX5_blackFor_2 ?_
  refine lv_icmp_ne (tgt := 12) hx hb dX5_blackFor_5 (by decide) (fun c5 => ?_) (fun c5 => ?_)
  · have h := h.1 c5
    refine lv_aload_n hx hb dX5_blackFor_12 rfl (lv_at hl 0 rfl) ?_
    refine lv_aload_n hx hb dX5_blackFor_13 rfl (lv_at hl 0 rfl) ?_
    refine lv_iload_n hx hb dX5_blackFor_14 rfl (lv_at hl 1 rfl) ?_
    refine af_i hW (rn_P X hW (As := [.int a1]) (rest := [.ref (wa E 40 q)]) hp_q (kX5_mindsOf hp_q h) mbX5_mindsOf tw464 tw422 tw425 tw426 tw427 tw428 tw423 rfl hl.1 (Nat.le_of_ble_eq_true rfl) ⟨(Nat.le_of_ble_eq_true rfl), (Nat.le_of_ble_eq_true rfl)⟩ dX5_blackFor_15) (fun r15 I15 J15 H locs h hW => ?_)
    refine lv_iload_n hx hb dX5_blackFor_18 rfl (lv_at hl 2 rfl) ?_
    refine lv_iload_n hx hb dX5_blackFor_19 rfl (lv_at hl 3 rfl) ?_
    refine af_i hW (v_blackOfStranger X hW (rest := []) hp_q h tw502 hl.1 (Nat.le_of_ble_eq_true rfl) ⟨(Nat.le_of_ble_eq_true rfl), (Nat.le_of_ble_eq_true rfl)⟩ dX5_blackFor_20) (fun r20 I20 J20 H locs h hW => ?_)
    exact e_i X hW h dX5_blackFor_23
  · have h := h.2 c5
    refine lv_iconst (v := 0) hx hb dX5_blackFor_8 (by decide) ?_
    refine lv_goto (tgt := 23) hx hb dX5_blackFor_9 (by decide) ?_
    exact e_i X hW h dX5_blackFor_23
def wX5_mindsMuch (g : GS) (q : Nat) (a1 : Int32) (I : MI) (J : MJ) (Q : Int32 → MI → MJ → Prop) : Prop :=
  wX5_mindsOf g q a1 I J (fun r2 I2 J2 => ((r2 < 5 → Q 0 I2 J2) ∧ (¬ r2 < 5 → Q 1 I2 J2)))
theorem mbX5_mindsMuch : MB yX5_mindsMuch cX5_mindsMuch 2 ((Option.some FieldType.boolean)) 1 := ⟨tw463, tw9, ⟨by decide, by decide⟩, by decide +kernel, by decide +kernel⟩
set_option maxHeartbeats 4000000 in
set_option maxRecDepth 100000 in
theorem kX5_mindsMuch {l : Launch} {E : WE} {q : Nat} {a1 : Int32} {I : MI} {J : MJ} {Q : Int32 → MI → MJ → Prop} (hp_q : q < (wg E).2.1) (h : wX5_mindsMuch (wg E) q a1 I J Q) : Met l yX5_mindsMuch (wsM yX5_mindsMuch cX5_mindsMuch 2 ((Option.some FieldType.boolean))) (rmO 1 21) (va_Pc [.ref (wa E 40 q), .int a1] (Wp E I J)) (QI E Q) 0 0 (AA E) := by
  refine m_entry mbX5_mindsMuch (Nat.le_of_ble_eq_true rfl) ?_
  intro p e s m args below meth c X ls hW hl
  have X : Cx E cX5_mindsMuch 2 RX5 ((Option.some FieldType.boolean)) p s m args c meth := X
  have hx := X.1.1
  have hb := X.1.2.1
  have hl : lv_has ls 2 [(0, .ref (wa E 40 q)), (1, .int a1)] := hl
  refine lv_aload_n hx hb dX5_mindsMuch_0 rfl (lv_at hl 0 rfl) ?_
  refine lv_iload_n hx hb dX5_mindsMuch_1 rfl (lv_at hl 1 rfl) ?_
  refine af_i hW (rn_P X hW (As := [.int a1]) (rest := []) hp_q (kX5_mindsOf hp_q h) mbX5_mindsOf tw464 tw422 tw425 tw426 tw427 tw428 tw423 rfl hl.1 (Nat.le_of_ble_eq_true rfl) ⟨(Nat.le_of_ble_eq_true rfl), (Nat.le_of_ble_eq_true rfl)⟩ dX5_mindsMuch_2) (fun r2 I2 J2 H locs h hW => ?_)
  refine lv_iconst (v := 5) hx hb dX5_mindsMuch_5 (by decide) ?_
  refine lv_icmp_lt (tgt := 13) hx hb dX5_mindsMuch_6 (by decide) (fun c6 => ?_) (fun c6 => ?_)
  · have h := h.1 c6
    refine lv_iconst (v := 0) hx hb dX5_mindsMuch_13 (by decide) ?_
    exact e_z X hW rfl h dX5_mindsMuch_14
  · have h := h.2 c6
    refine lv_iconst (v := 1) hx hb dX5_mindsMuch_9 (by decide) ?_
    refine lv_goto (tgt := 14) hx hb dX5_mindsMuch_10 (by decide) ?_
    exact e_z X hW rfl h dX5_mindsMuch_14
def wX5_mindFrom (g : GS) (q : Nat) (a1 : Int32) (a2 : Int32) (I : MI) (J : MJ) (Q : MI → MJ → Prop) : Prop :=
  ((a1 < 0 → Q I J) ∧ (¬ a1 < 0 → ((6 ≤ a1 → Q I J) ∧ (¬ 6 ≤ a1 → vp_in a1 6 ∧ (Q (u3 I 41 q (upd (I 41 q) (Int32.toNatClampNeg a1) a2)) J)))))
theorem mbX5_mindFrom : MB yX5_mindFrom cX5_mindFrom 3 ((Option.none : Option FieldType)) 2 := ⟨tw438, tw9, ⟨by decide, by decide⟩, by decide +kernel, by decide +kernel⟩
set_option maxHeartbeats 4000000 in
set_option maxRecDepth 100000 in
theorem kX5_mindFrom {l : Launch} {E : WE} {q : Nat} {a1 : Int32} {a2 : Int32} {I : MI} {J : MJ} {Q : MI → MJ → Prop} (hp_q : q < (wg E).2.1) (h : wX5_mindFrom (wg E) q a1 a2 I J Q) : Met l yX5_mindFrom (wsM yX5_mindFrom cX5_mindFrom 3 ((Option.none : Option FieldType))) (rmO 0 0) (va_Pc [.ref (wa E 40 q), .int a1, .int a2] (Wp E I J)) (QV E Q) 0 0 (AA E) := by
  refine m_entry mbX5_mindFrom (Nat.le_of_ble_eq_true rfl) ?_
  intro p e s m args below meth c X ls hW hl
  have X : Cx E cX5_mindFrom 3 RX5 ((Option.none : Option FieldType)) p s m args c meth := X
  have hx := X.1.1
  have hb := X.1.2.1
  have hl : lv_has ls 3 [(0, .ref (wa E 40 q)), (1, .int a1), (2, .int a2)] := hl
  refine lv_iload_n hx hb dX5_mindFrom_0 rfl (lv_at hl 1 rfl) ?_
  refine lv_if_lt (tgt := 17) hx hb dX5_mindFrom_1 (by decide) (fun c1 => ?_) (fun c1 => ?_)
  · have h := h.1 c1
    exact e_v X hW h dX5_mindFrom_17
  · have h := h.2 c1
    refine lv_iload_n hx hb dX5_mindFrom_4 rfl (lv_at hl 1 rfl) ?_
    refine lv_bipush (v := 6) hx hb dX5_mindFrom_5 (by decide) ?_
    refine lv_icmp_ge (tgt := 17) hx hb dX5_mindFrom_7 (by decide) (fun c7 => ?_) (fun c7 => ?_)
    · have h := h.1 c7
      exact e_v X hW h dX5_mindFrom_17
    · have h := h.2 c7
      refine lv_aload_n hx hb dX5_mindFrom_10 rfl (lv_at hl 0 rfl) ?_
      refine r_getP1 X hW hp_q tw290 dX5_mindFrom_11 ?_
      refine lv_iload_n hx hb dX5_mindFrom_14 rfl (lv_at hl 1 rfl) ?_
      refine lv_iload_n hx hb dX5_mindFrom_15 rfl (lv_at hl 2 rfl) ?_
      refine r_iast X hW (okP hW hp_q).2.1 (fun _ => rfl) h.1 dX5_mindFrom_16 (fun H locs hW => ?_)
      have h := h.2
      exact e_v X hW h dX5_mindFrom_17
def wX5_keep (g : GS) (q : Nat) (a1 : Int32) (I : MI) (J : MJ) (Q : MI → MJ → Prop) : Prop :=
  ∀ I15 : MI, I15 = u3 (u3 I 40 q (upd (I 40 q) 4 (I 40 q 3))) 40 q (upd ((u3 I 40 q (upd (I 40 q) 4 (I 40 q 3))) 40 q) 5 (if 6 < a1 then 6 else a1)) → (¬ ((0 : Int32)) < 0 ∧ ¬ ((0 : Int32)) < 0 ∧ ¬ (I15 40 q 5) < 0 ∧ Int32.toNatClampNeg ((0 : Int32)) + Int32.toNatClampNeg (I15 40 q 5) ≤ 6 ∧ Int32.toNatClampNeg ((0 : Int32)) + Int32.toNatClampNeg (I15 40 q 5) ≤ 6) ∧ (Q (u3 I15 42 q (va_cpy (I15 41 q) (I15 42 q) (Int32.toNatClampNeg 0) (Int32.toNatClampNeg 0) (Int32.toNatClampNeg (I15 40 q 5)))) J)
theorem mbX5_keep : MB yX5_keep cX5_keep 2 ((Option.none : Option FieldType)) 1 := ⟨tw773, tw9, ⟨by decide, by decide⟩, by decide +kernel, by decide +kernel⟩
set_option maxHeartbeats 4000000 in
set_option maxRecDepth 100000 in
theorem kX5_keep {l : Launch} {E : WE} {q : Nat} {a1 : Int32} {I : MI} {J : MJ} {Q : MI → MJ → Prop} (hp_q : q < (wg E).2.1) (h : wX5_keep (wg E) q a1 I J Q) : Met l yX5_keep (wsM yX5_keep cX5_keep 2 ((Option.none : Option FieldType))) (rmO 1 40) (va_Pc [.ref (wa E 40 q), .int a1] (Wp E I J)) (QV E Q) 0 0 (AA E) := by
  refine m_entry mbX5_keep (Nat.le_of_ble_eq_true rfl) ?_
  intro p e s m args below meth c X ls hW hl
  have X : Cx E cX5_keep 2 RX5 ((Option.none : Option FieldType)) p s m args c meth := X
  have hx := X.1.1
  have hb := X.1.2.1
  have hl : lv_has ls 2 [(0, .ref (wa E 40 q)), (1, .int a1)] := hl
  refine lv_aload_n hx hb dX5_keep_0 rfl (lv_at hl 0 rfl) ?_
  refine lv_aload_n hx hb dX5_keep_1 rfl (lv_at hl 0 rfl) ?_
  refine r_getP3 X hW hp_q tw292 dX5_keep_2 ?_
  refine r_putP4 X hW hp_q tw294 dX5_keep_5 (fun H locs hW => ?_)
  refine lv_aload_n hx hb dX5_keep_8 rfl (lv_at hl 0 rfl) ?_
  refine lv_iload_n hx hb dX5_keep_9 rfl (lv_at hl 1 rfl) ?_
  refine lv_bipush (v := 6) hx hb dX5_keep_10 (by decide) ?_
  refine va_mmin hx hb (X.1.2.2.1.trans hl.1.symm) X.1.2.2.2.1 (X.1.2.2.2.2 _ tw774) (X.1.2.2.2.2 _ tw775) (X.1.2.2.2.2 _ tw16) (X.1.2.2.2.2 _ tw776) (Nat.le_of_ble_eq_true rfl) (Nat.le_of_ble_eq_true rfl) (Nat.zero_le _) (Nat.zero_le _) dX5_keep_12 ?_
  refine r_putP5 X hW hp_q tw295 dX5_keep_15 (fun H locs hW => ?_)
  obtain ⟨I15, eI15⟩ : ∃ z : MI, z = u3 (u3 I 40 q (upd (I 40 q) 4 (I 40 q 3))) 40 q (upd ((u3 I 40 q (upd (I 40 q) 4 (I 40 q 3))) 40 q) 5 (if 6 < a1 then 6 else a1)) := ⟨_, rfl⟩
  rw [← eI15] at hW
  have h := h I15 eI15
  refine lv_aload_n hx hb dX5_keep_18 rfl (lv_at hl 0 rfl) ?_
  refine r_getP1 X hW hp_q tw290 dX5_keep_19 ?_
  refine lv_iconst (v := 0) hx hb dX5_keep_22 (by decide) ?_
  refine lv_aload_n hx hb dX5_keep_23 rfl (lv_at hl 0 rfl) ?_
  refine r_getP2 X hW hp_q tw291 dX5_keep_24 ?_
  refine lv_iconst (v := 0) hx hb dX5_keep_27 (by decide) ?_
  refine lv_aload_n hx hb dX5_keep_28 rfl (lv_at hl 0 rfl) ?_
  refine r_getP5 X hW hp_q tw295 dX5_keep_29 ?_
  refine r_copy X hW hl.1 tw777 (okP hW hp_q).2.1 (okP hW hp_q).2.2 rfl (fun _ => rfl) h.1 (Nat.le_of_ble_eq_true rfl) (Nat.le_of_ble_eq_true rfl) dX5_keep_32 (fun H locs hW => ?_)
  have h := h.2
  exact e_v X hW h dX5_keep_35
def wX5_takeBack (g : GS) (q : Nat) (I : MI) (J : MJ) (Q : MI → MJ → Prop) : Prop :=
  (((I 40 q 4) = ((-1)) → Q I J) ∧ (¬ (I 40 q 4) = ((-1)) → (¬ ((0 : Int32)) < 0 ∧ ¬ ((0 : Int32)) < 0 ∧ ¬ ((u3 I 40 q (upd (I 40 q) 3 (I 40 q 4))) 40 q 5) < 0 ∧ Int32.toNatClampNeg ((0 : Int32)) + Int32.toNatClampNeg ((u3 I 40 q (upd (I 40 q) 3 (I 40 q 4))) 40 q 5) ≤ 6 ∧ Int32.toNatClampNeg ((0 : Int32)) + Int32.toNatClampNeg ((u3 I 40 q (upd (I 40 q) 3 (I 40 q 4))) 40 q 5) ≤ 6) ∧ (Q (u3 (u3 I 40 q (upd (I 40 q) 3 (I 40 q 4))) 41 q (va_cpy ((u3 I 40 q (upd (I 40 q) 3 (I 40 q 4))) 42 q) ((u3 I 40 q (upd (I 40 q) 3 (I 40 q 4))) 41 q) (Int32.toNatClampNeg 0) (Int32.toNatClampNeg 0) (Int32.toNatClampNeg ((u3 I 40 q (upd (I 40 q) 3 (I 40 q 4))) 40 q 5)))) J)))
theorem mbX5_takeBack : MB yX5_takeBack cX5_takeBack 1 ((Option.none : Option FieldType)) 0 := ⟨tw790, tw9, ⟨by decide, by decide⟩, by decide +kernel, by decide +kernel⟩
set_option maxHeartbeats 4000000 in
set_option maxRecDepth 100000 in
theorem kX5_takeBack {l : Launch} {E : WE} {q : Nat} {I : MI} {J : MJ} {Q : MI → MJ → Prop} (hp_q : q < (wg E).2.1) (h : wX5_takeBack (wg E) q I J Q) : Met l yX5_takeBack (wsM yX5_takeBack cX5_takeBack 1 ((Option.none : Option FieldType))) (rmO 1 40) (va_Pc [.ref (wa E 40 q)] (Wp E I J)) (QV E Q) 0 0 (AA E) := by
  refine m_entry mbX5_takeBack (Nat.le_of_ble_eq_true rfl) ?_
  intro p e s m args below meth c X ls hW hl
  have X : Cx E cX5_takeBack 1 RX5 ((Option.none : Option FieldType)) p s m args c meth := X
  have hx := X.1.1
  have hb := X.1.2.1
  have hl : lv_has ls 1 [(0, .ref (wa E 40 q))] := hl
  refine lv_aload_n hx hb dX5_takeBack_0 rfl (lv_at hl 0 rfl) ?_
  refine r_getP4 X hW hp_q tw294 dX5_takeBack_1 ?_
  refine lv_iconst (v := (-1)) hx hb dX5_takeBack_4 (by decide) ?_
  refine lv_icmp_eq (tgt := 33) hx hb dX5_takeBack_5 (by decide) (fun c5 => ?_) (fun c5 => ?_)
  · have h := h.1 c5
    exact e_v X hW h dX5_takeBack_33
  · have h := h.2 c5
    refine lv_aload_n hx hb dX5_takeBack_8 rfl (lv_at hl 0 rfl) ?_
    refine lv_aload_n hx hb dX5_takeBack_9 rfl (lv_at hl 0 rfl) ?_
    refine r_getP4 X hW hp_q tw294 dX5_takeBack_10 ?_
    refine r_putP3 X hW hp_q tw292 dX5_takeBack_13 (fun H locs hW => ?_)
    refine lv_aload_n hx hb dX5_takeBack_16 rfl (lv_at hl 0 rfl) ?_
    refine r_getP2 X hW hp_q tw291 dX5_takeBack_17 ?_
    refine lv_iconst (v := 0) hx hb dX5_takeBack_20 (by decide) ?_
    refine lv_aload_n hx hb dX5_takeBack_21 rfl (lv_at hl 0 rfl) ?_
    refine r_getP1 X hW hp_q tw290 dX5_takeBack_22 ?_
    refine lv_iconst (v := 0) hx hb dX5_takeBack_25 (by decide) ?_
    refine lv_aload_n hx hb dX5_takeBack_26 rfl (lv_at hl 0 rfl) ?_
    refine r_getP5 X hW hp_q tw295 dX5_takeBack_27 ?_
    refine r_copy X hW hl.1 tw777 (okP hW hp_q).2.2 (okP hW hp_q).2.1 rfl (fun _ => rfl) h.1 (Nat.le_of_ble_eq_true rfl) (Nat.le_of_ble_eq_true rfl) dX5_takeBack_30 (fun H locs hW => ?_)
    have h := h.2
    exact e_v X hW h dX5_takeBack_33
def wX6_told (g : GS) (q : Nat) (a1 : Int32) (I : MI) (J : MJ) (Q : Int32 → MI → MJ → Prop) : Prop :=
  ((a1 = 0 → Q (I 43 q 0) I J) ∧ (¬ a1 = 0 → ((a1 = 1 → Q (I 43 q 1) I J) ∧ (¬ a1 = 1 → ((a1 = 2 → Q (I 43 q 2) I J) ∧ (¬ a1 = 2 → ((a1 = 3 → (((I 43 q 3) = 0 → Q 0 I J) ∧ (¬ (I 43 q 3) = 0 → Q 1 I J))) ∧ (¬ a1 = 3 → (((I 43 q 4) = 0 → Q 0 I J) ∧ (¬ (I 43 q 4) = 0 → Q 1 I J))))))))))
theorem mbX6_told : MB yX6_told cX6_told 2 ((Option.some FieldType.int)) 1 := ⟨tw266, tw8, ⟨by decide, by decide⟩, by decide +kernel, by decide +kernel⟩
set_option maxHeartbeats 4000000 in
set_option maxRecDepth 100000 in
theorem kX6_told {l : Launch} {E : WE} {q : Nat} {a1 : Int32} {I : MI} {J : MJ} {Q : Int32 → MI → MJ → Prop} (hp_q : q < (wg E).2.2) (h : wX6_told (wg E) q a1 I J Q) : Met l yX6_told (wsM yX6_told cX6_told 2 ((Option.some FieldType.int))) (rmO 0 0) (va_Pc [.ref (wa E 43 q), .int a1] (Wp E I J)) (QI E Q) 0 0 (AA E) := by
  refine m_entry mbX6_told (Nat.le_of_ble_eq_true rfl) ?_
  intro p e s m args below meth c X ls hW hl
  have X : Cx E cX6_told 2 RX6 ((Option.some FieldType.int)) p s m args c meth := X
  have hx := X.1.1
  have hb := X.1.2.1
  have hl : lv_has ls 2 [(0, .ref (wa E 43 q)), (1, .int a1)] := hl
  refine lv_iload_n hx hb dX6_told_0 rfl (lv_at hl 1 rfl) ?_
  by_cases s1_0 : a1 = 0
  · have h := h.1 s1_0
    refine sw_in (tgt := 32) (off := 31) hx hb dX6_told_1 s1_0 (by decide) (by decide) (by decide) (by decide) ?_
    refine lv_aload_n hx hb dX6_told_32 rfl (lv_at hl 0 rfl) ?_
    refine r_get X hW 0 (okR hW hp_q) rfl rfl inX6 (Nat.le_of_ble_eq_true rfl) tw235 rfl dX6_told_33 ?_
    exact e_i X hW h dX6_told_36
  · have h := h.2 s1_0
    by_cases s1_1 : a1 = 1
    · have h := h.1 s1_1
      refine sw_in (tgt := 37) (off := 36) hx hb dX6_told_1 s1_1 (by decide) (by decide) (by decide) (by decide) ?_
      refine lv_aload_n hx hb dX6_told_37 rfl (lv_at hl 0 rfl) ?_
      refine r_get X hW 1 (okR hW hp_q) rfl rfl inX6 (Nat.le_of_ble_eq_true rfl) tw236 rfl dX6_told_38 ?_
      exact e_i X hW h dX6_told_41
    · have h := h.2 s1_1
      by_cases s1_2 : a1 = 2
      · have h := h.1 s1_2
        refine sw_in (tgt := 42) (off := 41) hx hb dX6_told_1 s1_2 (by decide) (by decide) (by decide) (by decide) ?_
        refine lv_aload_n hx hb dX6_told_42 rfl (lv_at hl 0 rfl) ?_
        refine r_get X hW 2 (okR hW hp_q) rfl rfl inX6 (Nat.le_of_ble_eq_true rfl) tw237 rfl dX6_told_43 ?_
        exact e_i X hW h dX6_told_46
      · have h := h.2 s1_2
        by_cases s1_3 : a1 = 3
        · have h := h.1 s1_3
          refine sw_in (tgt := 47) (off := 46) hx hb dX6_told_1 s1_3 (by decide) (by decide) (by decide) (by decide) ?_
          refine lv_aload_n hx hb dX6_told_47 rfl (lv_at hl 0 rfl) ?_
          refine r_get X hW 3 (okR hW hp_q) rfl rfl inX6 (Nat.le_of_ble_eq_true rfl) tw238 rfl dX6_told_48 ?_
          refine lv_if_eq (tgt := 58) hx hb dX6_told_51 (by decide) (fun c51 => ?_) (fun c51 => ?_)
          · have h := h.1 c51
            refine lv_iconst (v := 0) hx hb dX6_told_58 (by decide) ?_
            exact e_i X hW h dX6_told_59
          · have h := h.2 c51
            refine lv_iconst (v := 1) hx hb dX6_told_54 (by decide) ?_
            refine lv_goto (tgt := 59) hx hb dX6_told_55 (by decide) ?_
            exact e_i X hW h dX6_told_59
        · have h := h.2 s1_3
          have z1 : Int32.toInt a1 < 0 ∨ 3 < Int32.toInt a1 := by
            have := ne_ti s1_0 (a := 0) (by decide)
            have := ne_ti s1_1 (a := 1) (by decide)
            have := ne_ti s1_2 (a := 2) (by decide)
            have := ne_ti s1_3 (a := 3) (by decide)
            omega
          refine lv_tableOut (tgt := 60) hx hb dX6_told_1 z1 (by decide) ?_
          refine lv_aload_n hx hb dX6_told_60 rfl (lv_at hl 0 rfl) ?_
          refine r_get X hW 4 (okR hW hp_q) rfl rfl inX6 (Nat.le_of_ble_eq_true rfl) tw241 rfl dX6_told_61 ?_
          refine lv_if_eq (tgt := 71) hx hb dX6_told_64 (by decide) (fun c64 => ?_) (fun c64 => ?_)
          · have h := h.1 c64
            refine lv_iconst (v := 0) hx hb dX6_told_71 (by decide) ?_
            exact e_i X hW h dX6_told_72
          · have h := h.2 c64
            refine lv_iconst (v := 1) hx hb dX6_told_67 (by decide) ?_
            refine lv_goto (tgt := 72) hx hb dX6_told_68 (by decide) ?_
            exact e_i X hW h dX6_told_72
def wX6_letsIn (g : GS) (q : Nat) (a1 : Int32) (a2 : Int32) (I : MI) (J : MJ) (Q : Int32 → MI → MJ → Prop) : Prop :=
  wX6_hasQuorum g q a2 I J (fun r2 I2 J2 => ((r2 = 0 → Q 0 I2 J2) ∧ (¬ r2 = 0 → wX6_shutsOut g q a1 a2 I2 J2 (fun r11 I11 J11 => ((¬ r11 = 0 → Q 0 I11 J11) ∧ (r11 = 0 → Q 1 I11 J11))))))
theorem mbX6_letsIn : MB yX6_letsIn cX6_letsIn 3 ((Option.some FieldType.boolean)) 2 := ⟨tw611, tw8, ⟨by decide, by decide⟩, by decide +kernel, by decide +kernel⟩
set_option maxHeartbeats 4000000 in
set_option maxRecDepth 100000 in
theorem kX6_letsIn {l : Launch} {E : WE} {q : Nat} {a1 : Int32} {a2 : Int32} {I : MI} {J : MJ} {Q : Int32 → MI → MJ → Prop} (hp_q : q < (wg E).2.2) (h : wX6_letsIn (wg E) q a1 a2 I J Q) : Met l yX6_letsIn (wsM yX6_letsIn cX6_letsIn 3 ((Option.some FieldType.boolean))) (rmO 1 22) (va_Pc [.ref (wa E 43 q), .int a1, .int a2] (Wp E I J)) (QI E Q) 0 0 (AA E) := by
  refine m_entry mbX6_letsIn (Nat.le_of_ble_eq_true rfl) ?_
  intro p e s m args below meth c X ls hW hl
  have X : Cx E cX6_letsIn 3 RX6 ((Option.some FieldType.boolean)) p s m args c meth := X
  have hx := X.1.1
  have hb := X.1.2.1
  have hl : lv_has ls 3 [(0, .ref (wa E 43 q)), (1, .int a1), (2, .int a2)] := hl
  refine lv_aload_n hx hb dX6_letsIn_0 rfl (lv_at hl 0 rfl) ?_
  refine lv_iload_n hx hb dX6_letsIn_1 rfl (lv_at hl 2 rfl) ?_
  refine af_i hW (rn_V X hW (As := [.int a2]) (rest := []) (okR hW hp_q) rfl rfl (kX6_hasQuorum hp_q h) mbX6_hasQuorum tw612 tw569 tw570 rfl hl.1 (Nat.le_of_ble_eq_true rfl) ⟨(Nat.le_of_ble_eq_true rfl), (Nat.le_of_ble_eq_true rfl)⟩ dX6_letsIn_2) (fun r2 I2 J2 H locs h hW => ?_)
  refine lv_if_eq (tgt := 21) hx hb dX6_letsIn_5 (by decide) (fun c5 => ?_) (fun c5 => ?_)
  · have h := h.1 c5
    refine lv_iconst (v := 0) hx hb dX6_letsIn_21 (by decide) ?_
    exact e_z X hW rfl h dX6_letsIn_22
  · have h := h.2 c5
    refine lv_aload_n hx hb dX6_letsIn_8 rfl (lv_at hl 0 rfl) ?_
    refine lv_iload_n hx hb dX6_letsIn_9 rfl (lv_at hl 1 rfl) ?_
    refine lv_iload_n hx hb dX6_letsIn_10 rfl (lv_at hl 2 rfl) ?_
    refine af_i hW (rn_V X hW (As := [.int a1, .int a2]) (rest := []) (okR hW hp_q) rfl rfl (kX6_shutsOut hp_q h) mbX6_shutsOut tw613 tw573 tw574 rfl hl.1 (Nat.le_of_ble_eq_true rfl) ⟨(Nat.le_of_ble_eq_true rfl), (Nat.le_of_ble_eq_true rfl)⟩ dX6_letsIn_11) (fun r11 I11 J11 H locs h hW => ?_)
    refine lv_if_ne (tgt := 21) hx hb dX6_letsIn_14 (by decide) (fun c14 => ?_) (fun c14 => ?_)
    · have h := h.1 c14
      refine lv_iconst (v := 0) hx hb dX6_letsIn_21 (by decide) ?_
      exact e_z X hW rfl h dX6_letsIn_22
    · have h := h.2 c14
      refine lv_iconst (v := 1) hx hb dX6_letsIn_17 (by decide) ?_
      refine lv_goto (tgt := 22) hx hb dX6_letsIn_18 (by decide) ?_
      exact e_z X hW rfl h dX6_letsIn_22
def wX7_begin (g : GS) (I : MI) (J : MJ) (Q : MI → MJ → Prop) : Prop :=
  vp_in 0 9 ∧ (∀ J16 : MJ, J16 = u3 (u3 J 6 0 (vp_updL (J 6 0) 2 1)) 7 0 (vp_updL ((u3 J 6 0 (vp_updL (J 6 0) 2 1)) 7 0) (Int32.toNatClampNeg 0) 1) → Q (u3 I 6 0 (upd (I 6 0) 1 0)) J16)
theorem mbX7_begin : MB yX7_begin cX7_begin 1 ((Option.none : Option FieldType)) 0 := ⟨tw537, tw3, ⟨by decide, by decide⟩, by decide +kernel, by decide +kernel⟩
set_option maxHeartbeats 4000000 in
set_option maxRecDepth 100000 in
theorem kX7_begin {l : Launch} {E : WE} {I : MI} {J : MJ} {Q : MI → MJ → Prop} (h : wX7_begin (wg E) I J Q) : Met l yX7_begin (wsM yX7_begin cX7_begin 1 ((Option.none : Option FieldType))) (rmO 0 0) (va_Pc [.ref (wa E 6 0)] (Wp E I J)) (QV E Q) 0 0 (AA E) := by
  refine m_entry mbX7_begin (Nat.le_of_ble_eq_true rfl) ?_
  intro p e s m args below meth c X ls hW hl
  have X : Cx E cX7_begin 1 RX7 ((Option.none : Option FieldType)) p s m args c meth := X
  have hx := X.1.1
  have hb := X.1.2.1
  have hl : lv_has ls 1 [(0, .ref (wa E 6 0))] := hl
  refine lv_aload_n hx hb dX7_begin_0 rfl (lv_at hl 0 rfl) ?_
  refine lv_iconst (v := 0) hx hb dX7_begin_1 (by decide) ?_
  refine r_putI X hW 1 (okS hW sc6_0) rfl rfl inX7 tyX7 tyX7_ok nmX7 (Nat.le_of_ble_eq_true rfl) tw52 rfl rfl rfl rfl (Nat.le_of_ble_eq_true rfl) rfl dX7_begin_2 (fun H locs hW => ?_)
  refine lv_aload_n hx hb dX7_begin_5 rfl (lv_at hl 0 rfl) ?_
  refine lv_lconst (v := 1) hx hb dX7_begin_6 (by decide) ?_
  refine r_putL X hW 2 (okS hW sc6_0) rfl rfl inX7 tyX7 tyX7_ok nmX7 (Nat.le_of_ble_eq_true rfl) tw53 rfl rfl rfl rfl (Nat.le_of_ble_eq_true rfl) rfl dX7_begin_7 (fun H locs hW => ?_)
  refine lv_aload_n hx hb dX7_begin_10 rfl (lv_at hl 0 rfl) ?_
  refine r_get X hW 0 (okS hW sc6_0) rfl rfl inX7 (Nat.le_of_ble_eq_true rfl) tw51 rfl dX7_begin_11 ?_
  refine lv_iconst (v := 0) hx hb dX7_begin_14 (by decide) ?_
  refine lv_lconst (v := 1) hx hb dX7_begin_15 (by decide) ?_
  refine r_last X hW (okS hW sc7_0) (fun _ => rfl) h.1 dX7_begin_16 (fun H locs hW => ?_)
  have h := h.2
  obtain ⟨J16, eJ16⟩ : ∃ z : MJ, z = u3 (u3 J 6 0 (vp_updL (J 6 0) 2 1)) 7 0 (vp_updL ((u3 J 6 0 (vp_updL (J 6 0) 2 1)) 7 0) (Int32.toNatClampNeg 0) 1) := ⟨_, rfl⟩
  rw [← eJ16] at hW
  have h := h J16 eJ16
  exact e_v X hW h dX7_begin_17
def wX7_put_b40 (g : GS) (Q : MI → MJ → Prop) : Nat → Int32 → Int32 → Int32 → MI → MJ → Prop
  | 0, _, _, _, _, _ => False
  | n + 1, v1, v2, v3, I, J => ((v3 < 1 → vp_in 0 9 ∧ (vp_in 0 9 ∧ (∀ J98 : MJ, J98 = u3 (u3 J 7 0 (vp_updL (J 7 0) (Int32.toNatClampNeg 0) ((J 7 0 (Int32.toNatClampNeg 0)) * (Int32.toInt64 v2)))) 6 0 (vp_updL ((u3 J 7 0 (vp_updL (J 7 0) (Int32.toNatClampNeg 0) ((J 7 0 (Int32.toNatClampNeg 0)) * (Int32.toInt64 v2)))) 6 0) 2 (((u3 J 7 0 (vp_updL (J 7 0) (Int32.toNatClampNeg 0) ((J 7 0 (Int32.toNatClampNeg 0)) * (Int32.toInt64 v2)))) 6 0 2) * 10)) → Q I J98))) ∧ (¬ v3 < 1 → vp_in v3 9 ∧ (vp_in (v3 - 1) 9 ∧ (vp_in v3 9 ∧ (∀ J71 : MJ, J71 = u3 J 7 0 (vp_updL (J 7 0) (Int32.toNatClampNeg v3) (((J 7 0 (Int32.toNatClampNeg v3)) * (Int32.toInt64 v2)) + ((J 7 0 (Int32.toNatClampNeg (v3 - 1))) * (Int32.toInt64 v1)))) → wX7_put_b40 g Q n v1 v2 (v3 + (-1)) I J71)))))
set_option maxHeartbeats 4000000 in
set_option maxRecDepth 100000 in
theorem bX7_put_40 {p : Program} {l : Launch} {e : Env} {s : State} {m : MethodId} {args : Array Value} {below : List Frame} {meth : Method} {c : Code} {E : WE} {Q : MI → MJ → Prop} (X : Cx E cX7_put 4 RX7 ((Option.none : Option FieldType)) p s m args c meth) (n : Nat) : ∀ (v1 : Int32) (v2 : Int32) (v3 : Int32) (I : MI) (J : MJ) (H : Heap) (locs : List Loc) (ls : Array Slot), wX7_put_b40 (wg E) Q n v1 v2 v3 I J → Wd E I J s H locs → lv_has ls 4 [(0, .ref (wa E 6 0)), (1, .int v1), (2, .int v2), (3, .int v3)] → W p l e (rmO 0 0) s m args below meth c H locs 0 0 (MQ below (QV E Q) args s 0 0 (AA E)) (F0 m 40 ls []) := by
  have hx := X.1.1
  have hb := X.1.2.1
  induction n with
  | zero => intro v1 v2 v3 I J H locs ls h hW hl; exact h.elim
  | succ n ih =>
    intro v1 v2 v3 I J H locs ls h hW hl
    refine lv_iload_n hx hb dX7_put_40 rfl (lv_at hl 3 rfl) ?_
    refine lv_iconst (v := 1) hx hb dX7_put_41 (by decide) ?_
    refine lv_icmp_lt (tgt := 78) hx hb dX7_put_42 (by decide) (fun c42 => ?_) (fun c42 => ?_)
    · have h := h.1 c42
      refine lv_aload_n hx hb dX7_put_78 rfl (lv_at hl 0 rfl) ?_
      refine r_get X hW 0 (okS hW sc6_0) rfl rfl inX7 (Nat.le_of_ble_eq_true rfl) tw51 rfl dX7_put_79 ?_
      refine lv_iconst (v := 0) hx hb dX7_put_82 (by decide) ?_
      refine lv_dup2_11 hx hb dX7_put_83 rfl rfl ?_
      refine r_lald X hW (okS hW sc7_0) rfl h.1 dX7_put_84 ?_
      have h := h.2
      refine lv_iload_n hx hb dX7_put_85 rfl (lv_at hl 2 rfl) ?_
      refine lv_i2l hx hb dX7_put_86 rfl ?_
      refine lv_lmul hx hb dX7_put_87 ?_
      refine r_last X hW (okS hW sc7_0) (fun _ => rfl) h.1 dX7_put_88 (fun H locs hW => ?_)
      have h := h.2
      refine lv_aload_n hx hb dX7_put_89 rfl (lv_at hl 0 rfl) ?_
      refine lv_dup hx hb dX7_put_90 rfl ?_
      refine r_get X hW 2 (okS hW sc6_0) rfl rfl inX7 (Nat.le_of_ble_eq_true rfl) tw53 rfl dX7_put_91 ?_
      refine lv_ldc2 hx hb X.1.2.2.2.1 (X.1.2.2.2.2 _ tw542) dX7_put_94 ?_
      refine lv_lmul hx hb dX7_put_97 ?_
      refine r_putL X hW 2 (okS hW sc6_0) rfl rfl inX7 tyX7 tyX7_ok nmX7 (Nat.le_of_ble_eq_true rfl) tw53 rfl rfl rfl rfl (Nat.le_of_ble_eq_true rfl) rfl dX7_put_98 (fun H locs hW => ?_)
      obtain ⟨J98, eJ98⟩ : ∃ z : MJ, z = u3 (u3 J 7 0 (vp_updL (J 7 0) (Int32.toNatClampNeg 0) ((J 7 0 (Int32.toNatClampNeg 0)) * (Int32.toInt64 v2)))) 6 0 (vp_updL ((u3 J 7 0 (vp_updL (J 7 0) (Int32.toNatClampNeg 0) ((J 7 0 (Int32.toNatClampNeg 0)) * (Int32.toInt64 v2)))) 6 0) 2 (((u3 J 7 0 (vp_updL (J 7 0) (Int32.toNatClampNeg 0) ((J 7 0 (Int32.toNatClampNeg 0)) * (Int32.toInt64 v2)))) 6 0 2) * 10)) := ⟨_, rfl⟩
      rw [← eJ98] at hW
      have h := h J98 eJ98
      exact e_v X hW h dX7_put_101
    · have h := h.2 c42
      refine lv_aload_n hx hb dX7_put_45 rfl (lv_at hl 0 rfl) ?_
      refine r_get X hW 0 (okS hW sc6_0) rfl rfl inX7 (Nat.le_of_ble_eq_true rfl) tw51 rfl dX7_put_46 ?_
      refine lv_iload_n hx hb dX7_put_49 rfl (lv_at hl 3 rfl) ?_
      refine lv_aload_n hx hb dX7_put_50 rfl (lv_at hl 0 rfl) ?_
      refine r_get X hW 0 (okS hW sc6_0) rfl rfl inX7 (Nat.le_of_ble_eq_true rfl) tw51 rfl dX7_put_51 ?_
      refine lv_iload_n hx hb dX7_put_54 rfl (lv_at hl 3 rfl) ?_
      refine r_lald X hW (okS hW sc7_0) rfl h.1 dX7_put_55 ?_
      have h := h.2
      refine lv_iload_n hx hb dX7_put_56 rfl (lv_at hl 2 rfl) ?_
      refine lv_i2l hx hb dX7_put_57 rfl ?_
      refine lv_lmul hx hb dX7_put_58 ?_
      refine lv_aload_n hx hb dX7_put_59 rfl (lv_at hl 0 rfl) ?_
      refine r_get X hW 0 (okS hW sc6_0) rfl rfl inX7 (Nat.le_of_ble_eq_true rfl) tw51 rfl dX7_put_60 ?_
      refine lv_iload_n hx hb dX7_put_63 rfl (lv_at hl 3 rfl) ?_
      refine lv_iconst (v := 1) hx hb dX7_put_64 (by decide) ?_
      refine lv_isub hx hb dX7_put_65 ?_
      refine r_lald X hW (okS hW sc7_0) rfl h.1 dX7_put_66 ?_
      have h := h.2
      refine lv_iload_n hx hb dX7_put_67 rfl (lv_at hl 1 rfl) ?_
      refine lv_i2l hx hb dX7_put_68 rfl ?_
      refine lv_lmul hx hb dX7_put_69 ?_
      refine lv_ladd hx hb dX7_put_70 ?_
      refine r_last X hW (okS hW sc7_0) (fun _ => rfl) h.1 dX7_put_71 (fun H locs hW => ?_)
      have h := h.2
      obtain ⟨J71, eJ71⟩ : ∃ z : MJ, z = u3 J 7 0 (vp_updL (J 7 0) (Int32.toNatClampNeg v3) (((J 7 0 (Int32.toNatClampNeg v3)) * (Int32.toInt64 v2)) + ((J 7 0 (Int32.toNatClampNeg (v3 - 1))) * (Int32.toInt64 v1)))) := ⟨_, rfl⟩
      rw [← eJ71] at hW
      have h := h J71 eJ71
      refine lv_iinc (v := v3 + (-1)) (lv' := [(3, .int (v3 + (-1))), (0, .ref (wa E 6 0)), (1, .int v1), (2, .int v2)]) hx hb dX7_put_72 hl (k := 3) rfl rfl (by decide) rfl (fun ls hl => ?_)
      refine lv_goto (tgt := 40) hx hb dX7_put_75 (by decide) ?_
      exact ih v1 v2 (v3 + (-1)) _ _ _ _ _  h hW (lv_sub hl [1, 2, 3, 0] rfl)
def wX7_put (g : GS) (a1 : Int32) (I : MI) (J : MJ) (Q : MI → MJ → Prop) : Prop :=
  (((I 6 0 1) < 8 → vp_in ((u3 I 6 0 (upd (I 6 0) 1 ((I 6 0 1) + 1))) 6 0 1) 9 ∧ (∃ n40, wX7_put_b40 g Q n40 a1 (10 - a1) ((u3 I 6 0 (upd (I 6 0) 1 ((I 6 0 1) + 1))) 6 0 1) (u3 I 6 0 (upd (I 6 0) 1 ((I 6 0 1) + 1))) (u3 J 7 0 (vp_updL (J 7 0) (Int32.toNatClampNeg ((u3 I 6 0 (upd (I 6 0) 1 ((I 6 0 1) + 1))) 6 0 1)) 0)))) ∧ (¬ (I 6 0 1) < 8 → Q I J))
theorem mbX7_put : MB yX7_put cX7_put 4 ((Option.none : Option FieldType)) 1 := ⟨tw541, tw3, ⟨by decide, by decide⟩, by decide +kernel, by decide +kernel⟩
set_option maxHeartbeats 4000000 in
set_option maxRecDepth 100000 in
theorem kX7_put {l : Launch} {E : WE} {a1 : Int32} {I : MI} {J : MJ} {Q : MI → MJ → Prop} (h : wX7_put (wg E) a1 I J Q) : Met l yX7_put (wsM yX7_put cX7_put 4 ((Option.none : Option FieldType))) (rmO 0 0) (va_Pc [.ref (wa E 6 0), .int a1] (Wp E I J)) (QV E Q) 0 0 (AA E) := by
  refine m_entry mbX7_put (Nat.le_of_ble_eq_true rfl) ?_
  intro p e s m args below meth c X ls hW hl
  have X : Cx E cX7_put 4 RX7 ((Option.none : Option FieldType)) p s m args c meth := X
  have hx := X.1.1
  have hb := X.1.2.1
  have hl : lv_has ls 4 [(0, .ref (wa E 6 0)), (1, .int a1)] := hl
  refine lv_aload_n hx hb dX7_put_0 rfl (lv_at hl 0 rfl) ?_
  refine r_get X hW 1 (okS hW sc6_0) rfl rfl inX7 (Nat.le_of_ble_eq_true rfl) tw52 rfl dX7_put_1 ?_
  refine lv_bipush (v := 8) hx hb dX7_put_4 (by decide) ?_
  refine lv_icmp_lt (tgt := 10) hx hb dX7_put_6 (by decide) (fun c6 => ?_) (fun c6 => ?_)
  · have h := h.1 c6
    refine lv_aload_n hx hb dX7_put_10 rfl (lv_at hl 0 rfl) ?_
    refine lv_dup hx hb dX7_put_11 rfl ?_
    refine r_get X hW 1 (okS hW sc6_0) rfl rfl inX7 (Nat.le_of_ble_eq_true rfl) tw52 rfl dX7_put_12 ?_
    refine lv_iconst (v := 1) hx hb dX7_put_15 (by decide) ?_
    refine lv_iadd hx hb dX7_put_16 ?_
    refine r_putI X hW 1 (okS hW sc6_0) rfl rfl inX7 tyX7 tyX7_ok nmX7 (Nat.le_of_ble_eq_true rfl) tw52 rfl rfl rfl rfl (Nat.le_of_ble_eq_true rfl) rfl dX7_put_17 (fun H locs hW => ?_)
    refine lv_aload_n hx hb dX7_put_20 rfl (lv_at hl 0 rfl) ?_
    refine r_get X hW 0 (okS hW sc6_0) rfl rfl inX7 (Nat.le_of_ble_eq_true rfl) tw51 rfl dX7_put_21 ?_
    refine lv_aload_n hx hb dX7_put_24 rfl (lv_at hl 0 rfl) ?_
    refine r_get X hW 1 (okS hW sc6_0) rfl rfl inX7 (Nat.le_of_ble_eq_true rfl) tw52 rfl dX7_put_25 ?_
    refine lv_lconst (v := 0) hx hb dX7_put_28 (by decide) ?_
    refine r_last X hW (okS hW sc7_0) (fun _ => rfl) h.1 dX7_put_29 (fun H locs hW => ?_)
    have h := h.2
    refine lv_bipush (v := 10) hx hb dX7_put_30 (by decide) ?_
    refine lv_iload_n hx hb dX7_put_32 rfl (lv_at hl 1 rfl) ?_
    refine lv_isub hx hb dX7_put_33 ?_
    refine lv_istore_n (lv' := [(2, .int (10 - a1)), (0, .ref (wa E 6 0)), (1, .int a1)]) hx hb dX7_put_34 rfl hl (by decide) rfl (fun ls hl => ?_)
    refine lv_aload_n hx hb dX7_put_35 rfl (lv_at hl 1 rfl) ?_
    refine r_get X hW 1 (okS hW sc6_0) rfl rfl inX7 (Nat.le_of_ble_eq_true rfl) tw52 rfl dX7_put_36 ?_
    refine lv_istore_n (lv' := [(3, .int ((u3 I 6 0 (upd (I 6 0) 1 ((I 6 0 1) + 1))) 6 0 1)), (2, .int (10 - a1)), (0, .ref (wa E 6 0)), (1, .int a1)]) hx hb dX7_put_39 rfl hl (by decide) rfl (fun ls hl => ?_)
    obtain ⟨n40, h⟩ := h
    exact bX7_put_40 X n40 a1 (10 - a1) ((u3 I 6 0 (upd (I 6 0) 1 ((I 6 0 1) + 1))) 6 0 1) _ _ _ _ _  h hW (lv_sub hl [2, 3, 1, 0] rfl)
  · have h := h.2 c6
    exact e_v X hW h dX7_put_9
