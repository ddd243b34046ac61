set_option maxHeartbeats 4000000 in
set_option maxRecDepth 100000 in
theorem law0 {p : Program} {l : Launch} {e : Env} {s : State} {m : MethodId} {below : List Frame} {meth : Method} {c : Code} {b L : Nat} {xs : Nat → Int32} {E : WE} {I : MI} {J : MJ} {H : Heap} {locs : List Loc} {ls : Array Slot} {cells slots : Nat} {Q : State → Prop} {x3 : Int32} {Inv : GS → MI → MJ → Prop} (hop : op0 Inv) (X : Cx E code 4 RL ret p s m #[Value.ref b] c meth) (hNN : wN E = s.heap.size) (hXs : va_X b L xs s s.heap) (hbl : b < s.heap.size) (hv : vp_in (x3 + 1) L ∧ vp_in (x3 + 2) L ∧ vp_in (x3 + 3) L ∧ vp_in (x3 + 4) L ∧ vp_in (x3 + 5) L ∧ vp_in (x3 + 6) L ∧ vp_in (x3 + 7) L) (hex : exC E) (hI : Inv (wg E) I J) (hW : Wd E I J s H locs) (hl : lv_has ls 4 [(3, .int x3), (0, .ref b), (1, .ref (wa E 0 0)), (2, .ref (wa E 17 0))]) (hc : cells + 3 ≤ 662955) (hs : slots + 19 ≤ 7113384)
    (K : ∀ (E' : WE) (I' : MI) (J' : MJ) (H' : Heap) (locs' : List Loc), bsE E E' → exC E' → awE E E' → Inv (wg E') I' J' → Wd E' I' J' s H' locs' → W p l e room_1 s m #[Value.ref b] below meth c H' locs' (cells + 3) (slots + 19) Q (F0 m 1497 ls [])) : W p l e room_1 s m #[Value.ref b] below meth c H locs cells slots Q (F0 m 180 ls []) := by
  have hx := X.1.1
  have hb := X.1.2.1
  have hbA : ¬ AA E b := by show ¬ wN E ≤ b; omega
  have h := hop (wg E) I J (((Int32.toInt64 (xs (Int32.toNatClampNeg (x3 + 1)))) <<< (Int32.toInt64 32 &&& 63)) ||| ((Int32.toInt64 (xs (Int32.toNatClampNeg (x3 + 2)))) &&& 4294967295)) hI
  refine lv_aload_n hx hb dL_law_180 rfl (lv_at hl 2 rfl) ?_
  refine lv_aload_n hx hb dL_law_181 rfl (lv_at hl 1 rfl) ?_
  refine lv_iload_n hx hb dL_law_182 rfl (lv_at hl 0 rfl) ?_
  refine lv_iconst (v := 1) hx hb dL_law_183 (by decide) ?_
  refine lv_iadd hx hb dL_law_184 ?_
  refine va_sld hx hb hXs hbl (A := AA E) hbA hW.2.2.1 hv.1 dL_law_185 ?_
  refine lv_i2l hx hb dL_law_186 rfl ?_
  refine lv_bipush (v := 32) hx hb dL_law_187 (by decide) ?_
  refine lv_lshl hx hb dL_law_189 rfl ?_
  refine lv_aload_n hx hb dL_law_190 rfl (lv_at hl 1 rfl) ?_
  refine lv_iload_n hx hb dL_law_191 rfl (lv_at hl 0 rfl) ?_
  refine lv_iconst (v := 2) hx hb dL_law_192 (by decide) ?_
  refine lv_iadd hx hb dL_law_193 ?_
  refine va_sld hx hb hXs hbl (A := AA E) hbA hW.2.2.1 hv.2.1 dL_law_194 ?_
  refine lv_i2l hx hb dL_law_195 rfl ?_
  refine lv_ldc2 hx hb X.1.2.2.2.1 (X.1.2.2.2.2 _ tw1257) dL_law_196 ?_
  refine lv_land hx hb dL_law_199 ?_
  refine lv_lor hx hb dL_law_200 ?_
  refine af_ig hW (rn_Vg X hW (As := [.long (((Int32.toInt64 (xs (Int32.toNatClampNeg (x3 + 1)))) <<< (Int32.toInt64 32 &&& 63)) ||| ((Int32.toInt64 (xs (Int32.toNatClampNeg (x3 + 2)))) &&& 4294967295))]) (rest := []) (okS hW sc0_0) rfl rfl (kX11_letters h) mbX11_letters tw172 tw173 tw174 rfl hl.1 (Nat.le_of_ble_eq_true rfl) ⟨(Nat.le_of_ble_eq_true rfl), (Nat.le_of_ble_eq_true rfl)⟩ ⟨by show cells + 0 ≤ 662955; omega, by show slots + 0 ≤ 7113384; omega⟩ dL_law_201) (fun r1 I1 J1 H locs h hW => ?_)
  refine lv_aload_n hx hb dL_law_204 rfl (lv_at hl 3 rfl) ?_
  refine lv_aload_n hx hb dL_law_205 rfl (lv_at hl 1 rfl) ?_
  refine lv_iload_n hx hb dL_law_206 rfl (lv_at hl 0 rfl) ?_
  refine lv_iconst (v := 1) hx hb dL_law_207 (by decide) ?_
  refine lv_iadd hx hb dL_law_208 ?_
  refine va_sld hx hb hXs hbl (A := AA E) hbA hW.2.2.1 hv.1 dL_law_209 ?_
  refine lv_i2l hx hb dL_law_210 rfl ?_
  refine lv_bipush (v := 32) hx hb dL_law_211 (by decide) ?_
  refine lv_lshl hx hb dL_law_213 rfl ?_
  refine lv_aload_n hx hb dL_law_214 rfl (lv_at hl 1 rfl) ?_
  refine lv_iload_n hx hb dL_law_215 rfl (lv_at hl 0 rfl) ?_
  refine lv_iconst (v := 2) hx hb dL_law_216 (by decide) ?_
  refine lv_iadd hx hb dL_law_217 ?_
  refine va_sld hx hb hXs hbl (A := AA E) hbA hW.2.2.1 hv.2.1 dL_law_218 ?_
  refine lv_i2l hx hb dL_law_219 rfl ?_
  refine lv_ldc2 hx hb X.1.2.2.2.1 (X.1.2.2.2.2 _ tw1257) dL_law_220 ?_
  refine lv_land hx hb dL_law_223 ?_
  refine lv_lor hx hb dL_law_224 ?_
  refine af_ig hW (rn_Vg X hW (As := [.long (((Int32.toInt64 (xs (Int32.toNatClampNeg (x3 + 1)))) <<< (Int32.toInt64 32 &&& 63)) ||| ((Int32.toInt64 (xs (Int32.toNatClampNeg (x3 + 2)))) &&& 4294967295))]) (rest := [.int r1]) (okS hW sc17_0) rfl rfl (kX12_letters h) mbX12_letters tw948 tw949 tw950 rfl hl.1 (Nat.le_of_ble_eq_true rfl) ⟨(Nat.le_of_ble_eq_true rfl), (Nat.le_of_ble_eq_true rfl)⟩ ⟨by show cells + 0 ≤ 662955; omega, by show slots + 0 ≤ 7113384; omega⟩ dL_law_225) (fun r2 I2 J2 H locs h hW => ?_)
  refine lv_icmp_eq (tgt := 1497) hx hb dL_law_228 (by decide) (fun _ => ?_) (fun c9 => absurd h.1 c9)
  refine W.widen (k := cells + 3) (n := slots + 19) (by omega) (by omega) ?_
  exact K E _ _ H locs ⟨rfl, rfl, rfl⟩ hex ⟨rfl, rfl⟩ h.2 hW

set_option maxHeartbeats 4000000 in
set_option maxRecDepth 100000 in
theorem law1 {p : Program} {l : Launch} {e : Env} {s : State} {m : MethodId} {below : List Frame} {meth : Method} {c : Code} {b L : Nat} {xs : Nat → Int32} {E : WE} {I : MI} {J : MJ} {H : Heap} {locs : List Loc} {ls : Array Slot} {cells slots : Nat} {Q : State → Prop} {x3 : Int32} {Inv : GS → MI → MJ → Prop} (hop : op1 Inv) (X : Cx E code 4 RL ret p s m #[Value.ref b] c meth) (hNN : wN E = s.heap.size) (hXs : va_X b L xs s s.heap) (hbl : b < s.heap.size) (hv : vp_in (x3 + 1) L ∧ vp_in (x3 + 2) L ∧ vp_in (x3 + 3) L ∧ vp_in (x3 + 4) L ∧ vp_in (x3 + 5) L ∧ vp_in (x3 + 6) L ∧ vp_in (x3 + 7) L) (hex : exC E) (hI : Inv (wg E) I J) (hW : Wd E I J s H locs) (hl : lv_has ls 4 [(3, .int x3), (0, .ref b), (1, .ref (wa E 0 0)), (2, .ref (wa E 17 0))]) (hc : cells + 3 ≤ 662955) (hs : slots + 19 ≤ 7113384)
    (K : ∀ (E' : WE) (I' : MI) (J' : MJ) (H' : Heap) (locs' : List Loc), bsE E E' → exC E' → awE E E' → Inv (wg E') I' J' → Wd E' I' J' s H' locs' → W p l e room_1 s m #[Value.ref b] below meth c H' locs' (cells + 3) (slots + 19) Q (F0 m 1497 ls [])) : W p l e room_1 s m #[Value.ref b] below meth c H locs cells slots Q (F0 m 233 ls []) := by
  have hx := X.1.1
  have hb := X.1.2.1
  have hbA : ¬ AA E b := by show ¬ wN E ≤ b; omega
  have h := hop (wg E) I J  hI
  refine lv_aload_n hx hb dL_law_233 rfl (lv_at hl 2 rfl) ?_
  refine af_ig hW (rn_Vg X hW (As := []) (rest := []) (okS hW sc0_0) rfl rfl (kX11_blank h) mbX11_blank tw187 tw188 tw189 rfl hl.1 (Nat.le_of_ble_eq_true rfl) ⟨(Nat.le_of_ble_eq_true rfl), (Nat.le_of_ble_eq_true rfl)⟩ ⟨by show cells + 0 ≤ 662955; omega, by show slots + 0 ≤ 7113384; omega⟩ dL_law_234) (fun r1 I1 J1 H locs h hW => ?_)
  refine lv_aload_n hx hb dL_law_237 rfl (lv_at hl 3 rfl) ?_
  refine af_ig hW (rn_Vg X hW (As := []) (rest := [.int r1]) (okS hW sc17_0) rfl rfl (kX12_blank h) mbX12_blank tw953 tw954 tw955 rfl hl.1 (Nat.le_of_ble_eq_true rfl) ⟨(Nat.le_of_ble_eq_true rfl), (Nat.le_of_ble_eq_true rfl)⟩ ⟨by show cells + 0 ≤ 662955; omega, by show slots + 0 ≤ 7113384; omega⟩ dL_law_238) (fun r2 I2 J2 H locs h hW => ?_)
  refine lv_icmp_eq (tgt := 1497) hx hb dL_law_241 (by decide) (fun _ => ?_) (fun c9 => absurd h.1 c9)
  refine W.widen (k := cells + 3) (n := slots + 19) (by omega) (by omega) ?_
  exact K E _ _ H locs ⟨rfl, rfl, rfl⟩ hex ⟨rfl, rfl⟩ h.2 hW

set_option maxHeartbeats 4000000 in
set_option maxRecDepth 100000 in
theorem law2 {p : Program} {l : Launch} {e : Env} {s : State} {m : MethodId} {below : List Frame} {meth : Method} {c : Code} {b L : Nat} {xs : Nat → Int32} {E : WE} {I : MI} {J : MJ} {H : Heap} {locs : List Loc} {ls : Array Slot} {cells slots : Nat} {Q : State → Prop} {x3 : Int32} {Inv : GS → MI → MJ → Prop} (hop : op2 Inv) (X : Cx E code 4 RL ret p s m #[Value.ref b] c meth) (hNN : wN E = s.heap.size) (hXs : va_X b L xs s s.heap) (hbl : b < s.heap.size) (hv : vp_in (x3 + 1) L ∧ vp_in (x3 + 2) L ∧ vp_in (x3 + 3) L ∧ vp_in (x3 + 4) L ∧ vp_in (x3 + 5) L ∧ vp_in (x3 + 6) L ∧ vp_in (x3 + 7) L) (hex : exC E) (hI : Inv (wg E) I J) (hW : Wd E I J s H locs) (hl : lv_has ls 4 [(3, .int x3), (0, .ref b), (1, .ref (wa E 0 0)), (2, .ref (wa E 17 0))]) (hc : cells + 3 ≤ 662955) (hs : slots + 19 ≤ 7113384)
    (K : ∀ (E' : WE) (I' : MI) (J' : MJ) (H' : Heap) (locs' : List Loc), bsE E E' → exC E' → awE E E' → Inv (wg E') I' J' → Wd E' I' J' s H' locs' → W p l e room_1 s m #[Value.ref b] below meth c H' locs' (cells + 3) (slots + 19) Q (F0 m 1497 ls [])) : W p l e room_1 s m #[Value.ref b] below meth c H locs cells slots Q (F0 m 246 ls []) := by
  have hx := X.1.1
  have hb := X.1.2.1
  have hbA : ¬ AA E b := by show ¬ wN E ≤ b; omega
  have h := hop (wg E) I J  hI
  refine lv_aload_n hx hb dL_law_246 rfl (lv_at hl 2 rfl) ?_
  refine af_ig hW (rn_Vg X hW (As := []) (rest := []) (okS hW sc0_0) rfl rfl (kX11_fault h) mbX11_fault tw195 tw196 tw197 rfl hl.1 (Nat.le_of_ble_eq_true rfl) ⟨(Nat.le_of_ble_eq_true rfl), (Nat.le_of_ble_eq_true rfl)⟩ ⟨by show cells + 0 ≤ 662955; omega, by show slots + 0 ≤ 7113384; omega⟩ dL_law_247) (fun r1 I1 J1 H locs h hW => ?_)
  refine lv_aload_n hx hb dL_law_250 rfl (lv_at hl 3 rfl) ?_
  refine af_ig hW (rn_Vg X hW (As := []) (rest := [.int r1]) (okS hW sc17_0) rfl rfl (kX12_fault h) mbX12_fault tw957 tw958 tw959 rfl hl.1 (Nat.le_of_ble_eq_true rfl) ⟨(Nat.le_of_ble_eq_true rfl), (Nat.le_of_ble_eq_true rfl)⟩ ⟨by show cells + 0 ≤ 662955; omega, by show slots + 0 ≤ 7113384; omega⟩ dL_law_251) (fun r2 I2 J2 H locs h hW => ?_)
  refine lv_icmp_eq (tgt := 1497) hx hb dL_law_254 (by decide) (fun _ => ?_) (fun c9 => absurd h.1 c9)
  refine W.widen (k := cells + 3) (n := slots + 19) (by omega) (by omega) ?_
  exact K E _ _ H locs ⟨rfl, rfl, rfl⟩ hex ⟨rfl, rfl⟩ h.2 hW

set_option maxHeartbeats 4000000 in
set_option maxRecDepth 100000 in
theorem law3 {p : Program} {l : Launch} {e : Env} {s : State} {m : MethodId} {below : List Frame} {meth : Method} {c : Code} {b L : Nat} {xs : Nat → Int32} {E : WE} {I : MI} {J : MJ} {H : Heap} {locs : List Loc} {ls : Array Slot} {cells slots : Nat} {Q : State → Prop} {x3 : Int32} {Inv : GS → MI → MJ → Prop} (hop : op3 Inv) (X : Cx E code 4 RL ret p s m #[Value.ref b] c meth) (hNN : wN E = s.heap.size) (hXs : va_X b L xs s s.heap) (hbl : b < s.heap.size) (hv : vp_in (x3 + 1) L ∧ vp_in (x3 + 2) L ∧ vp_in (x3 + 3) L ∧ vp_in (x3 + 4) L ∧ vp_in (x3 + 5) L ∧ vp_in (x3 + 6) L ∧ vp_in (x3 + 7) L) (hex : exC E) (hI : Inv (wg E) I J) (hW : Wd E I J s H locs) (hl : lv_has ls 4 [(3, .int x3), (0, .ref b), (1, .ref (wa E 0 0)), (2, .ref (wa E 17 0))]) (hc : cells + 3 ≤ 662955) (hs : slots + 19 ≤ 7113384)
    (K : ∀ (E' : WE) (I' : MI) (J' : MJ) (H' : Heap) (locs' : List Loc), bsE E E' → exC E' → awE E E' → Inv (wg E') I' J' → Wd E' I' J' s H' locs' → W p l e room_1 s m #[Value.ref b] below meth c H' locs' (cells + 3) (slots + 19) Q (F0 m 1497 ls [])) : W p l e room_1 s m #[Value.ref b] below meth c H locs cells slots Q (F0 m 259 ls []) := by
  have hx := X.1.1
  have hb := X.1.2.1
  have hbA : ¬ AA E b := by show ¬ wN E ≤ b; omega
  have h := hop (wg E) I J  hI
  refine lv_aload_n hx hb dL_law_259 rfl (lv_at hl 2 rfl) ?_
  refine af_g hW (rn_Vg X hW (As := []) (rest := []) (okS hW sc0_0) rfl rfl (kX11_rule hex h) mbX11_rule tw212 tw213 tw214 rfl hl.1 (Nat.le_of_ble_eq_true rfl) ⟨(Nat.le_of_ble_eq_true rfl), (Nat.le_of_ble_eq_true rfl)⟩ ⟨by show cells + 1 ≤ 662955; omega, by show slots + 5 ≤ 7113384; omega⟩ dL_law_260) (fun r1 E1 I1 J1 H locs h hbs hex1 haw hW1 => ?_)
  have X1 := X.to hbs
  have hl1 : lv_has ls 4 [(3, .int x3), (0, .ref b), (1, .ref (wa E1 0 0)), (2, .ref (wa E1 17 0))] := by rw [haw.1, haw.2]; exact hl
  have hbA1 : ¬ AA E1 b := by show ¬ wN E1 ≤ b; rw [show wN E1 = wN E from hbs.2.2]; omega
  refine lv_aload_n hx hb dL_law_263 rfl (lv_at hl1 3 rfl) ?_
  refine af_ig hW1 (rn_Vg X1 hW1 (As := []) (rest := [.int r1]) (okS hW1 sc17_0) rfl rfl (kX12_rule h) mbX12_rule tw979 tw980 tw981 rfl hl1.1 (Nat.le_of_ble_eq_true rfl) ⟨(Nat.le_of_ble_eq_true rfl), (Nat.le_of_ble_eq_true rfl)⟩ ⟨by show cells + 1 + 0 ≤ 662955; omega, by show slots + 5 + 0 ≤ 7113384; omega⟩ dL_law_264) (fun r2 I2 J2 H locs h hW1 => ?_)
  refine lv_icmp_eq (tgt := 1497) hx hb dL_law_267 (by decide) (fun _ => ?_) (fun c9 => absurd h.1 c9)
  refine W.widen (k := cells + 3) (n := slots + 19) (by omega) (by omega) ?_
  exact K E1 _ _ H locs hbs hex1 haw h.2 hW1

set_option maxHeartbeats 4000000 in
set_option maxRecDepth 100000 in
theorem law4 {p : Program} {l : Launch} {e : Env} {s : State} {m : MethodId} {below : List Frame} {meth : Method} {c : Code} {b L : Nat} {xs : Nat → Int32} {E : WE} {I : MI} {J : MJ} {H : Heap} {locs : List Loc} {ls : Array Slot} {cells slots : Nat} {Q : State → Prop} {x3 : Int32} {Inv : GS → MI → MJ → Prop} (hop : op4 Inv) (X : Cx E code 4 RL ret p s m #[Value.ref b] c meth) (hNN : wN E = s.heap.size) (hXs : va_X b L xs s s.heap) (hbl : b < s.heap.size) (hv : vp_in (x3 + 1) L ∧ vp_in (x3 + 2) L ∧ vp_in (x3 + 3) L ∧ vp_in (x3 + 4) L ∧ vp_in (x3 + 5) L ∧ vp_in (x3 + 6) L ∧ vp_in (x3 + 7) L) (hex : exC E) (hI : Inv (wg E) I J) (hW : Wd E I J s H locs) (hl : lv_has ls 4 [(3, .int x3), (0, .ref b), (1, .ref (wa E 0 0)), (2, .ref (wa E 17 0))]) (hc : cells + 3 ≤ 662955) (hs : slots + 19 ≤ 7113384)
    (K : ∀ (E' : WE) (I' : MI) (J' : MJ) (H' : Heap) (locs' : List Loc), bsE E E' → exC E' → awE E E' → Inv (wg E') I' J' → Wd E' I' J' s H' locs' → W p l e room_1 s m #[Value.ref b] below meth c H' locs' (cells + 3) (slots + 19) Q (F0 m 1497 ls [])) : W p l e room_1 s m #[Value.ref b] below meth c H locs cells slots Q (F0 m 272 ls []) := by
  have hx := X.1.1
  have hb := X.1.2.1
  have hbA : ¬ AA E b := by show ¬ wN E ≤ b; omega
  have h := hop (wg E) I J (xs (Int32.toNatClampNeg (x3 + 1))) (xs (Int32.toNatClampNeg (x3 + 2))) hI
  refine lv_aload_n hx hb dL_law_272 rfl (lv_at hl 2 rfl) ?_
  refine lv_aload_n hx hb dL_law_273 rfl (lv_at hl 1 rfl) ?_
  refine lv_iload_n hx hb dL_law_274 rfl (lv_at hl 0 rfl) ?_
  refine lv_iconst (v := 1) hx hb dL_law_275 (by decide) ?_
  refine lv_iadd hx hb dL_law_276 ?_
  refine va_sld hx hb hXs hbl (A := AA E) hbA hW.2.2.1 hv.1 dL_law_277 ?_
  refine lv_aload_n hx hb dL_law_278 rfl (lv_at hl 1 rfl) ?_
  refine lv_iload_n hx hb dL_law_279 rfl (lv_at hl 0 rfl) ?_
  refine lv_iconst (v := 2) hx hb dL_law_280 (by decide) ?_
  refine lv_iadd hx hb dL_law_281 ?_
  refine va_sld hx hb hXs hbl (A := AA E) hbA hW.2.2.1 hv.2.1 dL_law_282 ?_
  refine af_ig hW (rn_Vg X hW (As := [.int (xs (Int32.toNatClampNeg (x3 + 1))), .int (xs (Int32.toNatClampNeg (x3 + 2)))]) (rest := []) (okS hW sc0_0) rfl rfl (kX11_ruleTold h) mbX11_ruleTold tw254 tw255 tw256 rfl hl.1 (Nat.le_of_ble_eq_true rfl) ⟨(Nat.le_of_ble_eq_true rfl), (Nat.le_of_ble_eq_true rfl)⟩ ⟨by show cells + 0 ≤ 662955; omega, by show slots + 0 ≤ 7113384; omega⟩ dL_law_283) (fun r1 I1 J1 H locs h hW => ?_)
  refine lv_aload_n hx hb dL_law_286 rfl (lv_at hl 3 rfl) ?_
  refine lv_aload_n hx hb dL_law_287 rfl (lv_at hl 1 rfl) ?_
  refine lv_iload_n hx hb dL_law_288 rfl (lv_at hl 0 rfl) ?_
  refine lv_iconst (v := 1) hx hb dL_law_289 (by decide) ?_
  refine lv_iadd hx hb dL_law_290 ?_
  refine va_sld hx hb hXs hbl (A := AA E) hbA hW.2.2.1 hv.1 dL_law_291 ?_
  refine lv_aload_n hx hb dL_law_292 rfl (lv_at hl 1 rfl) ?_
  refine lv_iload_n hx hb dL_law_293 rfl (lv_at hl 0 rfl) ?_
  refine lv_iconst (v := 2) hx hb dL_law_294 (by decide) ?_
  refine lv_iadd hx hb dL_law_295 ?_
  refine va_sld hx hb hXs hbl (A := AA E) hbA hW.2.2.1 hv.2.1 dL_law_296 ?_
  refine af_ig hW (rn_Vg X hW (As := [.int (xs (Int32.toNatClampNeg (x3 + 1))), .int (xs (Int32.toNatClampNeg (x3 + 2)))]) (rest := [.int r1]) (okS hW sc17_0) rfl rfl (kX12_ruleTold h) mbX12_ruleTold tw983 tw984 tw985 rfl hl.1 (Nat.le_of_ble_eq_true rfl) ⟨(Nat.le_of_ble_eq_true rfl), (Nat.le_of_ble_eq_true rfl)⟩ ⟨by show cells + 0 ≤ 662955; omega, by show slots + 0 ≤ 7113384; omega⟩ dL_law_297) (fun r2 I2 J2 H locs h hW => ?_)
  refine lv_icmp_eq (tgt := 1497) hx hb dL_law_300 (by decide) (fun _ => ?_) (fun c9 => absurd h.1 c9)
  refine W.widen (k := cells + 3) (n := slots + 19) (by omega) (by omega) ?_
  exact K E _ _ H locs ⟨rfl, rfl, rfl⟩ hex ⟨rfl, rfl⟩ h.2 hW

set_option maxHeartbeats 4000000 in
set_option maxRecDepth 100000 in
theorem law5 {p : Program} {l : Launch} {e : Env} {s : State} {m : MethodId} {below : List Frame} {meth : Method} {c : Code} {b L : Nat} {xs : Nat → Int32} {E : WE} {I : MI} {J : MJ} {H : Heap} {locs : List Loc} {ls : Array Slot} {cells slots : Nat} {Q : State → Prop} {x3 : Int32} {Inv : GS → MI → MJ → Prop} (hop : op5 Inv) (X : Cx E code 4 RL ret p s m #[Value.ref b] c meth) (hNN : wN E = s.heap.size) (hXs : va_X b L xs s s.heap) (hbl : b < s.heap.size) (hv : vp_in (x3 + 1) L ∧ vp_in (x3 + 2) L ∧ vp_in (x3 + 3) L ∧ vp_in (x3 + 4) L ∧ vp_in (x3 + 5) L ∧ vp_in (x3 + 6) L ∧ vp_in (x3 + 7) L) (hex : exC E) (hI : Inv (wg E) I J) (hW : Wd E I J s H locs) (hl : lv_has ls 4 [(3, .int x3), (0, .ref b), (1, .ref (wa E 0 0)), (2, .ref (wa E 17 0))]) (hc : cells + 3 ≤ 662955) (hs : slots + 19 ≤ 7113384)
    (K : ∀ (E' : WE) (I' : MI) (J' : MJ) (H' : Heap) (locs' : List Loc), bsE E E' → exC E' → awE E E' → Inv (wg E') I' J' → Wd E' I' J' s H' locs' → W p l e room_1 s m #[Value.ref b] below meth c H' locs' (cells + 3) (slots + 19) Q (F0 m 1497 ls [])) : W p l e room_1 s m #[Value.ref b] below meth c H locs cells slots Q (F0 m 305 ls []) := by
  have hx := X.1.1
  have hb := X.1.2.1
  have hbA : ¬ AA E b := by show ¬ wN E ≤ b; omega
  have h := hop (wg E) I J (xs (Int32.toNatClampNeg (x3 + 1))) (xs (Int32.toNatClampNeg (x3 + 2))) (xs (Int32.toNatClampNeg (x3 + 3))) hI
  refine lv_aload_n hx hb dL_law_305 rfl (lv_at hl 2 rfl) ?_
  refine lv_aload_n hx hb dL_law_306 rfl (lv_at hl 1 rfl) ?_
  refine lv_iload_n hx hb dL_law_307 rfl (lv_at hl 0 rfl) ?_
  refine lv_iconst (v := 1) hx hb dL_law_308 (by decide) ?_
  refine lv_iadd hx hb dL_law_309 ?_
  refine va_sld hx hb hXs hbl (A := AA E) hbA hW.2.2.1 hv.1 dL_law_310 ?_
  refine lv_aload_n hx hb dL_law_311 rfl (lv_at hl 1 rfl) ?_
  refine lv_iload_n hx hb dL_law_312 rfl (lv_at hl 0 rfl) ?_
  refine lv_iconst (v := 2) hx hb dL_law_313 (by decide) ?_
  refine lv_iadd hx hb dL_law_314 ?_
  refine va_sld hx hb hXs hbl (A := AA E) hbA hW.2.2.1 hv.2.1 dL_law_315 ?_
  refine lv_aload_n hx hb dL_law_316 rfl (lv_at hl 1 rfl) ?_
  refine lv_iload_n hx hb dL_law_317 rfl (lv_at hl 0 rfl) ?_
  refine lv_iconst (v := 3) hx hb dL_law_318 (by decide) ?_
  refine lv_iadd hx hb dL_law_319 ?_
  refine va_sld hx hb hXs hbl (A := AA E) hbA hW.2.2.1 hv.2.2.1 dL_law_320 ?_
  refine af_g hW (rn_Vg X hW (As := [.int (xs (Int32.toNatClampNeg (x3 + 1))), .int (xs (Int32.toNatClampNeg (x3 + 2))), .int (xs (Int32.toNatClampNeg (x3 + 3)))]) (rest := []) (okS hW sc0_0) rfl rfl (kX11_member hex h) mbX11_member tw267 tw268 tw269 rfl hl.1 (Nat.le_of_ble_eq_true rfl) ⟨(Nat.le_of_ble_eq_true rfl), (Nat.le_of_ble_eq_true rfl)⟩ ⟨by show cells + 3 ≤ 662955; omega, by show slots + 19 ≤ 7113384; omega⟩ dL_law_321) (fun r1 E1 I1 J1 H locs h hbs hex1 haw hW1 => ?_)
  have X1 := X.to hbs
  have hl1 : lv_has ls 4 [(3, .int x3), (0, .ref b), (1, .ref (wa E1 0 0)), (2, .ref (wa E1 17 0))] := by rw [haw.1, haw.2]; exact hl
  have hbA1 : ¬ AA E1 b := by show ¬ wN E1 ≤ b; rw [show wN E1 = wN E from hbs.2.2]; omega
  refine lv_aload_n hx hb dL_law_324 rfl (lv_at hl1 3 rfl) ?_
  refine lv_aload_n hx hb dL_law_325 rfl (lv_at hl1 1 rfl) ?_
  refine lv_iload_n hx hb dL_law_326 rfl (lv_at hl1 0 rfl) ?_
  refine lv_iconst (v := 1) hx hb dL_law_327 (by decide) ?_
  refine lv_iadd hx hb dL_law_328 ?_
  refine va_sld hx hb hXs hbl (A := AA E1) hbA1 hW1.2.2.1 hv.1 dL_law_329 ?_
  refine lv_aload_n hx hb dL_law_330 rfl (lv_at hl1 1 rfl) ?_
  refine lv_iload_n hx hb dL_law_331 rfl (lv_at hl1 0 rfl) ?_
  refine lv_iconst (v := 2) hx hb dL_law_332 (by decide) ?_
  refine lv_iadd hx hb dL_law_333 ?_
  refine va_sld hx hb hXs hbl (A := AA E1) hbA1 hW1.2.2.1 hv.2.1 dL_law_334 ?_
  refine lv_aload_n hx hb dL_law_335 rfl (lv_at hl1 1 rfl) ?_
  refine lv_iload_n hx hb dL_law_336 rfl (lv_at hl1 0 rfl) ?_
  refine lv_iconst (v := 3) hx hb dL_law_337 (by decide) ?_
  refine lv_iadd hx hb dL_law_338 ?_
  refine va_sld hx hb hXs hbl (A := AA E1) hbA1 hW1.2.2.1 hv.2.2.1 dL_law_339 ?_
  refine af_ig hW1 (rn_Vg X1 hW1 (As := [.int (xs (Int32.toNatClampNeg (x3 + 1))), .int (xs (Int32.toNatClampNeg (x3 + 2))), .int (xs (Int32.toNatClampNeg (x3 + 3)))]) (rest := [.int r1]) (okS hW1 sc17_0) rfl rfl (kX12_member h) mbX12_member tw995 tw996 tw997 rfl hl1.1 (Nat.le_of_ble_eq_true rfl) ⟨(Nat.le_of_ble_eq_true rfl), (Nat.le_of_ble_eq_true rfl)⟩ ⟨by show cells + 3 + 0 ≤ 662955; omega, by show slots + 19 + 0 ≤ 7113384; omega⟩ dL_law_340) (fun r2 I2 J2 H locs h hW1 => ?_)
  refine lv_icmp_eq (tgt := 1497) hx hb dL_law_343 (by decide) (fun _ => ?_) (fun c9 => absurd h.1 c9)
  refine W.widen (k := cells + 3) (n := slots + 19) (by omega) (by omega) ?_
  exact K E1 _ _ H locs hbs hex1 haw h.2 hW1

set_option maxHeartbeats 4000000 in
set_option maxRecDepth 100000 in
theorem law6 {p : Program} {l : Launch} {e : Env} {s : State} {m : MethodId} {below : List Frame} {meth : Method} {c : Code} {b L : Nat} {xs : Nat → Int32} {E : WE} {I : MI} {J : MJ} {H : Heap} {locs : List Loc} {ls : Array Slot} {cells slots : Nat} {Q : State → Prop} {x3 : Int32} {Inv : GS → MI → MJ → Prop} (hop : op6 Inv) (X : Cx E code 4 RL ret p s m #[Value.ref b] c meth) (hNN : wN E = s.heap.size) (hXs : va_X b L xs s s.heap) (hbl : b < s.heap.size) (hv : vp_in (x3 + 1) L ∧ vp_in (x3 + 2) L ∧ vp_in (x3 + 3) L ∧ vp_in (x3 + 4) L ∧ vp_in (x3 + 5) L ∧ vp_in (x3 + 6) L ∧ vp_in (x3 + 7) L) (hex : exC E) (hI : Inv (wg E) I J) (hW : Wd E I J s H locs) (hl : lv_has ls 4 [(3, .int x3), (0, .ref b), (1, .ref (wa E 0 0)), (2, .ref (wa E 17 0))]) (hc : cells + 3 ≤ 662955) (hs : slots + 19 ≤ 7113384)
    (K : ∀ (E' : WE) (I' : MI) (J' : MJ) (H' : Heap) (locs' : List Loc), bsE E E' → exC E' → awE E E' → Inv (wg E') I' J' → Wd E' I' J' s H' locs' → W p l e room_1 s m #[Value.ref b] below meth c H' locs' (cells + 3) (slots + 19) Q (F0 m 1497 ls [])) : W p l e room_1 s m #[Value.ref b] below meth c H locs cells slots Q (F0 m 348 ls []) := by
  have hx := X.1.1
  have hb := X.1.2.1
  have hbA : ¬ AA E b := by show ¬ wN E ≤ b; omega
  have h := hop (wg E) I J (xs (Int32.toNatClampNeg (x3 + 1))) (xs (Int32.toNatClampNeg (x3 + 2))) hI
  refine lv_aload_n hx hb dL_law_348 rfl (lv_at hl 2 rfl) ?_
  refine lv_aload_n hx hb dL_law_349 rfl (lv_at hl 1 rfl) ?_
  refine lv_iload_n hx hb dL_law_350 rfl (lv_at hl 0 rfl) ?_
  refine lv_iconst (v := 1) hx hb dL_law_351 (by decide) ?_
  refine lv_iadd hx hb dL_law_352 ?_
  refine va_sld hx hb hXs hbl (A := AA E) hbA hW.2.2.1 hv.1 dL_law_353 ?_
  refine lv_aload_n hx hb dL_law_354 rfl (lv_at hl 1 rfl) ?_
  refine lv_iload_n hx hb dL_law_355 rfl (lv_at hl 0 rfl) ?_
  refine lv_iconst (v := 2) hx hb dL_law_356 (by decide) ?_
  refine lv_iadd hx hb dL_law_357 ?_
  refine va_sld hx hb hXs hbl (A := AA E) hbA hW.2.2.1 hv.2.1 dL_law_358 ?_
  refine af_ig hW (rn_Vg X hW (As := [.int (xs (Int32.toNatClampNeg (x3 + 1))), .int (xs (Int32.toNatClampNeg (x3 + 2)))]) (rest := []) (okS hW sc0_0) rfl rfl (kX11_as h) mbX11_as tw364 tw365 tw366 rfl hl.1 (Nat.le_of_ble_eq_true rfl) ⟨(Nat.le_of_ble_eq_true rfl), (Nat.le_of_ble_eq_true rfl)⟩ ⟨by show cells + 0 ≤ 662955; omega, by show slots + 0 ≤ 7113384; omega⟩ dL_law_359) (fun r1 I1 J1 H locs h hW => ?_)
  refine lv_aload_n hx hb dL_law_362 rfl (lv_at hl 3 rfl) ?_
  refine lv_aload_n hx hb dL_law_363 rfl (lv_at hl 1 rfl) ?_
  refine lv_iload_n hx hb dL_law_364 rfl (lv_at hl 0 rfl) ?_
  refine lv_iconst (v := 1) hx hb dL_law_365 (by decide) ?_
  refine lv_iadd hx hb dL_law_366 ?_
  refine va_sld hx hb hXs hbl (A := AA E) hbA hW.2.2.1 hv.1 dL_law_367 ?_
  refine lv_aload_n hx hb dL_law_368 rfl (lv_at hl 1 rfl) ?_
  refine lv_iload_n hx hb dL_law_369 rfl (lv_at hl 0 rfl) ?_
  refine lv_iconst (v := 2) hx hb dL_law_370 (by decide) ?_
  refine lv_iadd hx hb dL_law_371 ?_
  refine va_sld hx hb hXs hbl (A := AA E) hbA hW.2.2.1 hv.2.1 dL_law_372 ?_
  refine af_ig hW (rn_Vg X hW (As := [.int (xs (Int32.toNatClampNeg (x3 + 1))), .int (xs (Int32.toNatClampNeg (x3 + 2)))]) (rest := [.int r1]) (okS hW sc17_0) rfl rfl (kX12_as h) mbX12_as tw1003 tw1004 tw1005 rfl hl.1 (Nat.le_of_ble_eq_true rfl) ⟨(Nat.le_of_ble_eq_true rfl), (Nat.le_of_ble_eq_true rfl)⟩ ⟨by show cells + 0 ≤ 662955; omega, by show slots + 0 ≤ 7113384; omega⟩ dL_law_373) (fun r2 I2 J2 H locs h hW => ?_)
  refine lv_icmp_eq (tgt := 1497) hx hb dL_law_376 (by decide) (fun _ => ?_) (fun c9 => absurd h.1 c9)
  refine W.widen (k := cells + 3) (n := slots + 19) (by omega) (by omega) ?_
  exact K E _ _ H locs ⟨rfl, rfl, rfl⟩ hex ⟨rfl, rfl⟩ h.2 hW

set_option maxHeartbeats 4000000 in
set_option maxRecDepth 100000 in
theorem law7 {p : Program} {l : Launch} {e : Env} {s : State} {m : MethodId} {below : List Frame} {meth : Method} {c : Code} {b L : Nat} {xs : Nat → Int32} {E : WE} {I : MI} {J : MJ} {H : Heap} {locs : List Loc} {ls : Array Slot} {cells slots : Nat} {Q : State → Prop} {x3 : Int32} {Inv : GS → MI → MJ → Prop} (hop : op7 Inv) (X : Cx E code 4 RL ret p s m #[Value.ref b] c meth) (hNN : wN E = s.heap.size) (hXs : va_X b L xs s s.heap) (hbl : b < s.heap.size) (hv : vp_in (x3 + 1) L ∧ vp_in (x3 + 2) L ∧ vp_in (x3 + 3) L ∧ vp_in (x3 + 4) L ∧ vp_in (x3 + 5) L ∧ vp_in (x3 + 6) L ∧ vp_in (x3 + 7) L) (hex : exC E) (hI : Inv (wg E) I J) (hW : Wd E I J s H locs) (hl : lv_has ls 4 [(3, .int x3), (0, .ref b), (1, .ref (wa E 0 0)), (2, .ref (wa E 17 0))]) (hc : cells + 3 ≤ 662955) (hs : slots + 19 ≤ 7113384)
    (K : ∀ (E' : WE) (I' : MI) (J' : MJ) (H' : Heap) (locs' : List Loc), bsE E E' → exC E' → awE E E' → Inv (wg E') I' J' → Wd E' I' J' s H' locs' → W p l e room_1 s m #[Value.ref b] below meth c H' locs' (cells + 3) (slots + 19) Q (F0 m 1497 ls [])) : W p l e room_1 s m #[Value.ref b] below meth c H locs cells slots Q (F0 m 381 ls []) := by
  have hx := X.1.1
  have hb := X.1.2.1
  have hbA : ¬ AA E b := by show ¬ wN E ≤ b; omega
  have h := hop (wg E) I J (xs (Int32.toNatClampNeg (x3 + 1))) (xs (Int32.toNatClampNeg (x3 + 2))) hI
  refine lv_aload_n hx hb dL_law_381 rfl (lv_at hl 2 rfl) ?_
  refine lv_aload_n hx hb dL_law_382 rfl (lv_at hl 1 rfl) ?_
  refine lv_iload_n hx hb dL_law_383 rfl (lv_at hl 0 rfl) ?_
  refine lv_iconst (v := 1) hx hb dL_law_384 (by decide) ?_
  refine lv_iadd hx hb dL_law_385 ?_
  refine va_sld hx hb hXs hbl (A := AA E) hbA hW.2.2.1 hv.1 dL_law_386 ?_
  refine lv_aload_n hx hb dL_law_387 rfl (lv_at hl 1 rfl) ?_
  refine lv_iload_n hx hb dL_law_388 rfl (lv_at hl 0 rfl) ?_
  refine lv_iconst (v := 2) hx hb dL_law_389 (by decide) ?_
  refine lv_iadd hx hb dL_law_390 ?_
  refine va_sld hx hb hXs hbl (A := AA E) hbA hW.2.2.1 hv.2.1 dL_law_391 ?_
  refine af_ig hW (rn_Vg X hW (As := [.int (xs (Int32.toNatClampNeg (x3 + 1))), .int (xs (Int32.toNatClampNeg (x3 + 2)))]) (rest := []) (okS hW sc0_0) rfl rfl (kX11_about h) mbX11_about tw371 tw372 tw373 rfl hl.1 (Nat.le_of_ble_eq_true rfl) ⟨(Nat.le_of_ble_eq_true rfl), (Nat.le_of_ble_eq_true rfl)⟩ ⟨by show cells + 0 ≤ 662955; omega, by show slots + 0 ≤ 7113384; omega⟩ dL_law_392) (fun r1 I1 J1 H locs h hW => ?_)
  refine lv_aload_n hx hb dL_law_395 rfl (lv_at hl 3 rfl) ?_
  refine lv_aload_n hx hb dL_law_396 rfl (lv_at hl 1 rfl) ?_
  refine lv_iload_n hx hb dL_law_397 rfl (lv_at hl 0 rfl) ?_
  refine lv_iconst (v := 1) hx hb dL_law_398 (by decide) ?_
  refine lv_iadd hx hb dL_law_399 ?_
  refine va_sld hx hb hXs hbl (A := AA E) hbA hW.2.2.1 hv.1 dL_law_400 ?_
  refine lv_aload_n hx hb dL_law_401 rfl (lv_at hl 1 rfl) ?_
  refine lv_iload_n hx hb dL_law_402 rfl (lv_at hl 0 rfl) ?_
  refine lv_iconst (v := 2) hx hb dL_law_403 (by decide) ?_
  refine lv_iadd hx hb dL_law_404 ?_
  refine va_sld hx hb hXs hbl (A := AA E) hbA hW.2.2.1 hv.2.1 dL_law_405 ?_
  refine af_ig hW (rn_Vg X hW (As := [.int (xs (Int32.toNatClampNeg (x3 + 1))), .int (xs (Int32.toNatClampNeg (x3 + 2)))]) (rest := [.int r1]) (okS hW sc17_0) rfl rfl (kX12_about h) mbX12_about tw1007 tw1008 tw1009 rfl hl.1 (Nat.le_of_ble_eq_true rfl) ⟨(Nat.le_of_ble_eq_true rfl), (Nat.le_of_ble_eq_true rfl)⟩ ⟨by show cells + 0 ≤ 662955; omega, by show slots + 0 ≤ 7113384; omega⟩ dL_law_406) (fun r2 I2 J2 H locs h hW => ?_)
  refine lv_icmp_eq (tgt := 1497) hx hb dL_law_409 (by decide) (fun _ => ?_) (fun c9 => absurd h.1 c9)
  refine W.widen (k := cells + 3) (n := slots + 19) (by omega) (by omega) ?_
  exact K E _ _ H locs ⟨rfl, rfl, rfl⟩ hex ⟨rfl, rfl⟩ h.2 hW

set_option maxHeartbeats 4000000 in
set_option maxRecDepth 100000 in
theorem law8 {p : Program} {l : Launch} {e : Env} {s : State} {m : MethodId} {below : List Frame} {meth : Method} {c : Code} {b L : Nat} {xs : Nat → Int32} {E : WE} {I : MI} {J : MJ} {H : Heap} {locs : List Loc} {ls : Array Slot} {cells slots : Nat} {Q : State → Prop} {x3 : Int32} {Inv : GS → MI → MJ → Prop} (hop : op8 Inv) (X : Cx E code 4 RL ret p s m #[Value.ref b] c meth) (hNN : wN E = s.heap.size) (hXs : va_X b L xs s s.heap) (hbl : b < s.heap.size) (hv : vp_in (x3 + 1) L ∧ vp_in (x3 + 2) L ∧ vp_in (x3 + 3) L ∧ vp_in (x3 + 4) L ∧ vp_in (x3 + 5) L ∧ vp_in (x3 + 6) L ∧ vp_in (x3 + 7) L) (hex : exC E) (hI : Inv (wg E) I J) (hW : Wd E I J s H locs) (hl : lv_has ls 4 [(3, .int x3), (0, .ref b), (1, .ref (wa E 0 0)), (2, .ref (wa E 17 0))]) (hc : cells + 3 ≤ 662955) (hs : slots + 19 ≤ 7113384)
    (K : ∀ (E' : WE) (I' : MI) (J' : MJ) (H' : Heap) (locs' : List Loc), bsE E E' → exC E' → awE E E' → Inv (wg E') I' J' → Wd E' I' J' s H' locs' → W p l e room_1 s m #[Value.ref b] below meth c H' locs' (cells + 3) (slots + 19) Q (F0 m 1497 ls [])) : W p l e room_1 s m #[Value.ref b] below meth c H locs cells slots Q (F0 m 414 ls []) := by
  have hx := X.1.1
  have hb := X.1.2.1
  have hbA : ¬ AA E b := by show ¬ wN E ≤ b; omega
  have h := hop (wg E) I J (xs (Int32.toNatClampNeg (x3 + 1))) (xs (Int32.toNatClampNeg (x3 + 2))) hI
  refine lv_aload_n hx hb dL_law_414 rfl (lv_at hl 2 rfl) ?_
  refine lv_aload_n hx hb dL_law_415 rfl (lv_at hl 1 rfl) ?_
  refine lv_iload_n hx hb dL_law_416 rfl (lv_at hl 0 rfl) ?_
  refine lv_iconst (v := 1) hx hb dL_law_417 (by decide) ?_
  refine lv_iadd hx hb dL_law_418 ?_
  refine va_sld hx hb hXs hbl (A := AA E) hbA hW.2.2.1 hv.1 dL_law_419 ?_
  refine lv_aload_n hx hb dL_law_420 rfl (lv_at hl 1 rfl) ?_
  refine lv_iload_n hx hb dL_law_421 rfl (lv_at hl 0 rfl) ?_
  refine lv_iconst (v := 2) hx hb dL_law_422 (by decide) ?_
  refine lv_iadd hx hb dL_law_423 ?_
  refine va_sld hx hb hXs hbl (A := AA E) hbA hW.2.2.1 hv.2.1 dL_law_424 ?_
  refine af_ig hW (rn_Vg X hW (As := [.int (xs (Int32.toNatClampNeg (x3 + 1))), .int (xs (Int32.toNatClampNeg (x3 + 2)))]) (rest := []) (okS hW sc0_0) rfl rfl (kX11_comes h) mbX11_comes tw405 tw406 tw407 rfl hl.1 (Nat.le_of_ble_eq_true rfl) ⟨(Nat.le_of_ble_eq_true rfl), (Nat.le_of_ble_eq_true rfl)⟩ ⟨by show cells + 0 ≤ 662955; omega, by show slots + 0 ≤ 7113384; omega⟩ dL_law_425) (fun r1 I1 J1 H locs h hW => ?_)
  refine lv_aload_n hx hb dL_law_428 rfl (lv_at hl 3 rfl) ?_
  refine lv_aload_n hx hb dL_law_429 rfl (lv_at hl 1 rfl) ?_
  refine lv_iload_n hx hb dL_law_430 rfl (lv_at hl 0 rfl) ?_
  refine lv_iconst (v := 1) hx hb dL_law_431 (by decide) ?_
  refine lv_iadd hx hb dL_law_432 ?_
  refine va_sld hx hb hXs hbl (A := AA E) hbA hW.2.2.1 hv.1 dL_law_433 ?_
  refine lv_aload_n hx hb dL_law_434 rfl (lv_at hl 1 rfl) ?_
  refine lv_iload_n hx hb dL_law_435 rfl (lv_at hl 0 rfl) ?_
  refine lv_iconst (v := 2) hx hb dL_law_436 (by decide) ?_
  refine lv_iadd hx hb dL_law_437 ?_
  refine va_sld hx hb hXs hbl (A := AA E) hbA hW.2.2.1 hv.2.1 dL_law_438 ?_
  refine af_ig hW (rn_Vg X hW (As := [.int (xs (Int32.toNatClampNeg (x3 + 1))), .int (xs (Int32.toNatClampNeg (x3 + 2)))]) (rest := [.int r1]) (okS hW sc17_0) rfl rfl (kX12_comes h) mbX12_comes tw1015 tw1016 tw1017 rfl hl.1 (Nat.le_of_ble_eq_true rfl) ⟨(Nat.le_of_ble_eq_true rfl), (Nat.le_of_ble_eq_true rfl)⟩ ⟨by show cells + 0 ≤ 662955; omega, by show slots + 0 ≤ 7113384; omega⟩ dL_law_439) (fun r2 I2 J2 H locs h hW => ?_)
  refine lv_icmp_eq (tgt := 1497) hx hb dL_law_442 (by decide) (fun _ => ?_) (fun c9 => absurd h.1 c9)
  refine W.widen (k := cells + 3) (n := slots + 19) (by omega) (by omega) ?_
  exact K E _ _ H locs ⟨rfl, rfl, rfl⟩ hex ⟨rfl, rfl⟩ h.2 hW

set_option maxHeartbeats 4000000 in
set_option maxRecDepth 100000 in
theorem law9 {p : Program} {l : Launch} {e : Env} {s : State} {m : MethodId} {below : List Frame} {meth : Method} {c : Code} {b L : Nat} {xs : Nat → Int32} {E : WE} {I : MI} {J : MJ} {H : Heap} {locs : List Loc} {ls : Array Slot} {cells slots : Nat} {Q : State → Prop} {x3 : Int32} {Inv : GS → MI → MJ → Prop} (hop : op9 Inv) (X : Cx E code 4 RL ret p s m #[Value.ref b] c meth) (hNN : wN E = s.heap.size) (hXs : va_X b L xs s s.heap) (hbl : b < s.heap.size) (hv : vp_in (x3 + 1) L ∧ vp_in (x3 + 2) L ∧ vp_in (x3 + 3) L ∧ vp_in (x3 + 4) L ∧ vp_in (x3 + 5) L ∧ vp_in (x3 + 6) L ∧ vp_in (x3 + 7) L) (hex : exC E) (hI : Inv (wg E) I J) (hW : Wd E I J s H locs) (hl : lv_has ls 4 [(3, .int x3), (0, .ref b), (1, .ref (wa E 0 0)), (2, .ref (wa E 17 0))]) (hc : cells + 3 ≤ 662955) (hs : slots + 19 ≤ 7113384)
    (K : ∀ (E' : WE) (I' : MI) (J' : MJ) (H' : Heap) (locs' : List Loc), bsE E E' → exC E' → awE E E' → Inv (wg E') I' J' → Wd E' I' J' s H' locs' → W p l e room_1 s m #[Value.ref b] below meth c H' locs' (cells + 3) (slots + 19) Q (F0 m 1497 ls [])) : W p l e room_1 s m #[Value.ref b] below meth c H locs cells slots Q (F0 m 447 ls []) := by
  have hx := X.1.1
  have hb := X.1.2.1
  have hbA : ¬ AA E b := by show ¬ wN E ≤ b; omega
  have h := hop (wg E) I J (xs (Int32.toNatClampNeg (x3 + 1))) hI
  refine lv_aload_n hx hb dL_law_447 rfl (lv_at hl 2 rfl) ?_
  refine lv_aload_n hx hb dL_law_448 rfl (lv_at hl 1 rfl) ?_
  refine lv_iload_n hx hb dL_law_449 rfl (lv_at hl 0 rfl) ?_
  refine lv_iconst (v := 1) hx hb dL_law_450 (by decide) ?_
  refine lv_iadd hx hb dL_law_451 ?_
  refine va_sld hx hb hXs hbl (A := AA E) hbA hW.2.2.1 hv.1 dL_law_452 ?_
  refine af_ig hW (rn_Vg X hW (As := [.int (xs (Int32.toNatClampNeg (x3 + 1)))]) (rest := []) (okS hW sc0_0) rfl rfl (kX11_candidate h) mbX11_candidate tw409 tw410 tw411 rfl hl.1 (Nat.le_of_ble_eq_true rfl) ⟨(Nat.le_of_ble_eq_true rfl), (Nat.le_of_ble_eq_true rfl)⟩ ⟨by show cells + 0 ≤ 662955; omega, by show slots + 0 ≤ 7113384; omega⟩ dL_law_453) (fun r1 I1 J1 H locs h hW => ?_)
  refine lv_aload_n hx hb dL_law_456 rfl (lv_at hl 3 rfl) ?_
  refine lv_aload_n hx hb dL_law_457 rfl (lv_at hl 1 rfl) ?_
  refine lv_iload_n hx hb dL_law_458 rfl (lv_at hl 0 rfl) ?_
  refine lv_iconst (v := 1) hx hb dL_law_459 (by decide) ?_
  refine lv_iadd hx hb dL_law_460 ?_
  refine va_sld hx hb hXs hbl (A := AA E) hbA hW.2.2.1 hv.1 dL_law_461 ?_
  refine af_ig hW (rn_Vg X hW (As := [.int (xs (Int32.toNatClampNeg (x3 + 1)))]) (rest := [.int r1]) (okS hW sc17_0) rfl rfl (kX12_candidate h) mbX12_candidate tw1019 tw1020 tw1021 rfl hl.1 (Nat.le_of_ble_eq_true rfl) ⟨(Nat.le_of_ble_eq_true rfl), (Nat.le_of_ble_eq_true rfl)⟩ ⟨by show cells + 0 ≤ 662955; omega, by show slots + 0 ≤ 7113384; omega⟩ dL_law_462) (fun r2 I2 J2 H locs h hW => ?_)
  refine lv_icmp_eq (tgt := 1497) hx hb dL_law_465 (by decide) (fun _ => ?_) (fun c9 => absurd h.1 c9)
  refine W.widen (k := cells + 3) (n := slots + 19) (by omega) (by omega) ?_
  exact K E _ _ H locs ⟨rfl, rfl, rfl⟩ hex ⟨rfl, rfl⟩ h.2 hW

set_option maxHeartbeats 4000000 in
set_option maxRecDepth 100000 in
theorem law10 {p : Program} {l : Launch} {e : Env} {s : State} {m : MethodId} {below : List Frame} {meth : Method} {c : Code} {b L : Nat} {xs : Nat → Int32} {E : WE} {I : MI} {J : MJ} {H : Heap} {locs : List Loc} {ls : Array Slot} {cells slots : Nat} {Q : State → Prop} {x3 : Int32} {Inv : GS → MI → MJ → Prop} (hop : op10 Inv) (X : Cx E code 4 RL ret p s m #[Value.ref b] c meth) (hNN : wN E = s.heap.size) (hXs : va_X b L xs s s.heap) (hbl : b < s.heap.size) (hv : vp_in (x3 + 1) L ∧ vp_in (x3 + 2) L ∧ vp_in (x3 + 3) L ∧ vp_in (x3 + 4) L ∧ vp_in (x3 + 5) L ∧ vp_in (x3 + 6) L ∧ vp_in (x3 + 7) L) (hex : exC E) (hI : Inv (wg E) I J) (hW : Wd E I J s H locs) (hl : lv_has ls 4 [(3, .int x3), (0, .ref b), (1, .ref (wa E 0 0)), (2, .ref (wa E 17 0))]) (hc : cells + 3 ≤ 662955) (hs : slots + 19 ≤ 7113384)
    (K : ∀ (E' : WE) (I' : MI) (J' : MJ) (H' : Heap) (locs' : List Loc), bsE E E' → exC E' → awE E E' → Inv (wg E') I' J' → Wd E' I' J' s H' locs' → W p l e room_1 s m #[Value.ref b] below meth c H' locs' (cells + 3) (slots + 19) Q (F0 m 1497 ls [])) : W p l e room_1 s m #[Value.ref b] below meth c H locs cells slots Q (F0 m 470 ls []) := by
  have hx := X.1.1
  have hb := X.1.2.1
  have hbA : ¬ AA E b := by show ¬ wN E ≤ b; omega
  have h := hop (wg E) I J (xs (Int32.toNatClampNeg (x3 + 1))) (xs (Int32.toNatClampNeg (x3 + 2))) (xs (Int32.toNatClampNeg (x3 + 3))) hI
  refine lv_aload_n hx hb dL_law_470 rfl (lv_at hl 2 rfl) ?_
  refine lv_aload_n hx hb dL_law_471 rfl (lv_at hl 1 rfl) ?_
  refine lv_iload_n hx hb dL_law_472 rfl (lv_at hl 0 rfl) ?_
  refine lv_iconst (v := 1) hx hb dL_law_473 (by decide) ?_
  refine lv_iadd hx hb dL_law_474 ?_
  refine va_sld hx hb hXs hbl (A := AA E) hbA hW.2.2.1 hv.1 dL_law_475 ?_
  refine lv_aload_n hx hb dL_law_476 rfl (lv_at hl 1 rfl) ?_
  refine lv_iload_n hx hb dL_law_477 rfl (lv_at hl 0 rfl) ?_
  refine lv_iconst (v := 2) hx hb dL_law_478 (by decide) ?_
  refine lv_iadd hx hb dL_law_479 ?_
  refine va_sld hx hb hXs hbl (A := AA E) hbA hW.2.2.1 hv.2.1 dL_law_480 ?_
  refine lv_aload_n hx hb dL_law_481 rfl (lv_at hl 1 rfl) ?_
  refine lv_iload_n hx hb dL_law_482 rfl (lv_at hl 0 rfl) ?_
  refine lv_iconst (v := 3) hx hb dL_law_483 (by decide) ?_
  refine lv_iadd hx hb dL_law_484 ?_
  refine va_sld hx hb hXs hbl (A := AA E) hbA hW.2.2.1 hv.2.2.1 dL_law_485 ?_
  refine af_ig hW (rn_Vg X hW (As := [.int (xs (Int32.toNatClampNeg (x3 + 1))), .int (xs (Int32.toNatClampNeg (x3 + 2))), .int (xs (Int32.toNatClampNeg (x3 + 3)))]) (rest := []) (okS hW sc0_0) rfl rfl (kX11_minds h) mbX11_minds tw413 tw414 tw415 rfl hl.1 (Nat.le_of_ble_eq_true rfl) ⟨(Nat.le_of_ble_eq_true rfl), (Nat.le_of_ble_eq_true rfl)⟩ ⟨by show cells + 0 ≤ 662955; omega, by show slots + 0 ≤ 7113384; omega⟩ dL_law_486) (fun r1 I1 J1 H locs h hW => ?_)
  refine lv_aload_n hx hb dL_law_489 rfl (lv_at hl 3 rfl) ?_
  refine lv_aload_n hx hb dL_law_490 rfl (lv_at hl 1 rfl) ?_
  refine lv_iload_n hx hb dL_law_491 rfl (lv_at hl 0 rfl) ?_
  refine lv_iconst (v := 1) hx hb dL_law_492 (by decide) ?_
  refine lv_iadd hx hb dL_law_493 ?_
  refine va_sld hx hb hXs hbl (A := AA E) hbA hW.2.2.1 hv.1 dL_law_494 ?_
  refine lv_aload_n hx hb dL_law_495 rfl (lv_at hl 1 rfl) ?_
  refine lv_iload_n hx hb dL_law_496 rfl (lv_at hl 0 rfl) ?_
  refine lv_iconst (v := 2) hx hb dL_law_497 (by decide) ?_
  refine lv_iadd hx hb dL_law_498 ?_
  refine va_sld hx hb hXs hbl (A := AA E) hbA hW.2.2.1 hv.2.1 dL_law_499 ?_
  refine lv_aload_n hx hb dL_law_500 rfl (lv_at hl 1 rfl) ?_
  refine lv_iload_n hx hb dL_law_501 rfl (lv_at hl 0 rfl) ?_
  refine lv_iconst (v := 3) hx hb dL_law_502 (by decide) ?_
  refine lv_iadd hx hb dL_law_503 ?_
  refine va_sld hx hb hXs hbl (A := AA E) hbA hW.2.2.1 hv.2.2.1 dL_law_504 ?_
  refine af_ig hW (rn_Vg X hW (As := [.int (xs (Int32.toNatClampNeg (x3 + 1))), .int (xs (Int32.toNatClampNeg (x3 + 2))), .int (xs (Int32.toNatClampNeg (x3 + 3)))]) (rest := [.int r1]) (okS hW sc17_0) rfl rfl (kX12_minds h) mbX12_minds tw1023 tw1024 tw1025 rfl hl.1 (Nat.le_of_ble_eq_true rfl) ⟨(Nat.le_of_ble_eq_true rfl), (Nat.le_of_ble_eq_true rfl)⟩ ⟨by show cells + 0 ≤ 662955; omega, by show slots + 0 ≤ 7113384; omega⟩ dL_law_505) (fun r2 I2 J2 H locs h hW => ?_)
  refine lv_icmp_eq (tgt := 1497) hx hb dL_law_508 (by decide) (fun _ => ?_) (fun c9 => absurd h.1 c9)
  refine W.widen (k := cells + 3) (n := slots + 19) (by omega) (by omega) ?_
  exact K E _ _ H locs ⟨rfl, rfl, rfl⟩ hex ⟨rfl, rfl⟩ h.2 hW

set_option maxHeartbeats 4000000 in
set_option maxRecDepth 100000 in
theorem law11 {p : Program} {l : Launch} {e : Env} {s : State} {m : MethodId} {below : List Frame} {meth : Method} {c : Code} {b L : Nat} {xs : Nat → Int32} {E : WE} {I : MI} {J : MJ} {H : Heap} {locs : List Loc} {ls : Array Slot} {cells slots : Nat} {Q : State → Prop} {x3 : Int32} {Inv : GS → MI → MJ → Prop} (hop : op11 Inv) (X : Cx E code 4 RL ret p s m #[Value.ref b] c meth) (hNN : wN E = s.heap.size) (hXs : va_X b L xs s s.heap) (hbl : b < s.heap.size) (hv : vp_in (x3 + 1) L ∧ vp_in (x3 + 2) L ∧ vp_in (x3 + 3) L ∧ vp_in (x3 + 4) L ∧ vp_in (x3 + 5) L ∧ vp_in (x3 + 6) L ∧ vp_in (x3 + 7) L) (hex : exC E) (hI : Inv (wg E) I J) (hW : Wd E I J s H locs) (hl : lv_has ls 4 [(3, .int x3), (0, .ref b), (1, .ref (wa E 0 0)), (2, .ref (wa E 17 0))]) (hc : cells + 3 ≤ 662955) (hs : slots + 19 ≤ 7113384)
    (K : ∀ (E' : WE) (I' : MI) (J' : MJ) (H' : Heap) (locs' : List Loc), bsE E E' → exC E' → awE E E' → Inv (wg E') I' J' → Wd E' I' J' s H' locs' → W p l e room_1 s m #[Value.ref b] below meth c H' locs' (cells + 3) (slots + 19) Q (F0 m 1497 ls [])) : W p l e room_1 s m #[Value.ref b] below meth c H locs cells slots Q (F0 m 513 ls []) := by
  have hx := X.1.1
  have hb := X.1.2.1
  have hbA : ¬ AA E b := by show ¬ wN E ≤ b; omega
  have h := hop (wg E) I J (xs (Int32.toNatClampNeg (x3 + 1))) (xs (Int32.toNatClampNeg (x3 + 2))) hI
  refine lv_aload_n hx hb dL_law_513 rfl (lv_at hl 2 rfl) ?_
  refine lv_aload_n hx hb dL_law_514 rfl (lv_at hl 1 rfl) ?_
  refine lv_iload_n hx hb dL_law_515 rfl (lv_at hl 0 rfl) ?_
  refine lv_iconst (v := 1) hx hb dL_law_516 (by decide) ?_
  refine lv_iadd hx hb dL_law_517 ?_
  refine va_sld hx hb hXs hbl (A := AA E) hbA hW.2.2.1 hv.1 dL_law_518 ?_
  refine lv_aload_n hx hb dL_law_519 rfl (lv_at hl 1 rfl) ?_
  refine lv_iload_n hx hb dL_law_520 rfl (lv_at hl 0 rfl) ?_
  refine lv_iconst (v := 2) hx hb dL_law_521 (by decide) ?_
  refine lv_iadd hx hb dL_law_522 ?_
  refine va_sld hx hb hXs hbl (A := AA E) hbA hW.2.2.1 hv.2.1 dL_law_523 ?_
  refine af_ig hW (rn_Vg X hW (As := [.int (xs (Int32.toNatClampNeg (x3 + 1))), .int (xs (Int32.toNatClampNeg (x3 + 2)))]) (rest := []) (okS hW sc0_0) rfl rfl (kX11_friend h) mbX11_friend tw439 tw440 tw441 rfl hl.1 (Nat.le_of_ble_eq_true rfl) ⟨(Nat.le_of_ble_eq_true rfl), (Nat.le_of_ble_eq_true rfl)⟩ ⟨by show cells + 0 ≤ 662955; omega, by show slots + 0 ≤ 7113384; omega⟩ dL_law_524) (fun r1 I1 J1 H locs h hW => ?_)
  refine lv_aload_n hx hb dL_law_527 rfl (lv_at hl 3 rfl) ?_
  refine lv_aload_n hx hb dL_law_528 rfl (lv_at hl 1 rfl) ?_
  refine lv_iload_n hx hb dL_law_529 rfl (lv_at hl 0 rfl) ?_
  refine lv_iconst (v := 1) hx hb dL_law_530 (by decide) ?_
  refine lv_iadd hx hb dL_law_531 ?_
  refine va_sld hx hb hXs hbl (A := AA E) hbA hW.2.2.1 hv.1 dL_law_532 ?_
  refine lv_aload_n hx hb dL_law_533 rfl (lv_at hl 1 rfl) ?_
  refine lv_iload_n hx hb dL_law_534 rfl (lv_at hl 0 rfl) ?_
  refine lv_iconst (v := 2) hx hb dL_law_535 (by decide) ?_
  refine lv_iadd hx hb dL_law_536 ?_
  refine va_sld hx hb hXs hbl (A := AA E) hbA hW.2.2.1 hv.2.1 dL_law_537 ?_
  refine af_ig hW (rn_Vg X hW (As := [.int (xs (Int32.toNatClampNeg (x3 + 1))), .int (xs (Int32.toNatClampNeg (x3 + 2)))]) (rest := [.int r1]) (okS hW sc17_0) rfl rfl (kX12_friend h) mbX12_friend tw1031 tw1032 tw1033 rfl hl.1 (Nat.le_of_ble_eq_true rfl) ⟨(Nat.le_of_ble_eq_true rfl), (Nat.le_of_ble_eq_true rfl)⟩ ⟨by show cells + 0 ≤ 662955; omega, by show slots + 0 ≤ 7113384; omega⟩ dL_law_538) (fun r2 I2 J2 H locs h hW => ?_)
  refine lv_icmp_eq (tgt := 1497) hx hb dL_law_541 (by decide) (fun _ => ?_) (fun c9 => absurd h.1 c9)
  refine W.widen (k := cells + 3) (n := slots + 19) (by omega) (by omega) ?_
  exact K E _ _ H locs ⟨rfl, rfl, rfl⟩ hex ⟨rfl, rfl⟩ h.2 hW

set_option maxHeartbeats 4000000 in
set_option maxRecDepth 100000 in
theorem law12 {p : Program} {l : Launch} {e : Env} {s : State} {m : MethodId} {below : List Frame} {meth : Method} {c : Code} {b L : Nat} {xs : Nat → Int32} {E : WE} {I : MI} {J : MJ} {H : Heap} {locs : List Loc} {ls : Array Slot} {cells slots : Nat} {Q : State → Prop} {x3 : Int32} {Inv : GS → MI → MJ → Prop} (hop : op12 Inv) (X : Cx E code 4 RL ret p s m #[Value.ref b] c meth) (hNN : wN E = s.heap.size) (hXs : va_X b L xs s s.heap) (hbl : b < s.heap.size) (hv : vp_in (x3 + 1) L ∧ vp_in (x3 + 2) L ∧ vp_in (x3 + 3) L ∧ vp_in (x3 + 4) L ∧ vp_in (x3 + 5) L ∧ vp_in (x3 + 6) L ∧ vp_in (x3 + 7) L) (hex : exC E) (hI : Inv (wg E) I J) (hW : Wd E I J s H locs) (hl : lv_has ls 4 [(3, .int x3), (0, .ref b), (1, .ref (wa E 0 0)), (2, .ref (wa E 17 0))]) (hc : cells + 3 ≤ 662955) (hs : slots + 19 ≤ 7113384)
    (K : ∀ (E' : WE) (I' : MI) (J' : MJ) (H' : Heap) (locs' : List Loc), bsE E E' → exC E' → awE E E' → Inv (wg E') I' J' → Wd E' I' J' s H' locs' → W p l e room_1 s m #[Value.ref b] below meth c H' locs' (cells + 3) (slots + 19) Q (F0 m 1497 ls [])) : W p l e room_1 s m #[Value.ref b] below meth c H locs cells slots Q (F0 m 546 ls []) := by
  have hx := X.1.1
  have hb := X.1.2.1
  have hbA : ¬ AA E b := by show ¬ wN E ≤ b; omega
  have h := hop (wg E) I J (xs (Int32.toNatClampNeg (x3 + 1))) (xs (Int32.toNatClampNeg (x3 + 2))) (xs (Int32.toNatClampNeg (x3 + 3))) (xs (Int32.toNatClampNeg (x3 + 4))) hI
  refine lv_aload_n hx hb dL_law_546 rfl (lv_at hl 2 rfl) ?_
  refine lv_aload_n hx hb dL_law_547 rfl (lv_at hl 1 rfl) ?_
  refine lv_iload_n hx hb dL_law_548 rfl (lv_at hl 0 rfl) ?_
  refine lv_iconst (v := 1) hx hb dL_law_549 (by decide) ?_
  refine lv_iadd hx hb dL_law_550 ?_
  refine va_sld hx hb hXs hbl (A := AA E) hbA hW.2.2.1 hv.1 dL_law_551 ?_
  refine lv_aload_n hx hb dL_law_552 rfl (lv_at hl 1 rfl) ?_
  refine lv_iload_n hx hb dL_law_553 rfl (lv_at hl 0 rfl) ?_
  refine lv_iconst (v := 2) hx hb dL_law_554 (by decide) ?_
  refine lv_iadd hx hb dL_law_555 ?_
  refine va_sld hx hb hXs hbl (A := AA E) hbA hW.2.2.1 hv.2.1 dL_law_556 ?_
  refine lv_aload_n hx hb dL_law_557 rfl (lv_at hl 1 rfl) ?_
  refine lv_iload_n hx hb dL_law_558 rfl (lv_at hl 0 rfl) ?_
  refine lv_iconst (v := 3) hx hb dL_law_559 (by decide) ?_
  refine lv_iadd hx hb dL_law_560 ?_
  refine va_sld hx hb hXs hbl (A := AA E) hbA hW.2.2.1 hv.2.2.1 dL_law_561 ?_
  refine lv_aload_n hx hb dL_law_562 rfl (lv_at hl 1 rfl) ?_
  refine lv_iload_n hx hb dL_law_563 rfl (lv_at hl 0 rfl) ?_
  refine lv_iconst (v := 4) hx hb dL_law_564 (by decide) ?_
  refine lv_iadd hx hb dL_law_565 ?_
  refine va_sld hx hb hXs hbl (A := AA E) hbA hW.2.2.1 hv.2.2.2.1 dL_law_566 ?_
  refine af_ig hW (rn_Vg X hW (As := [.int (xs (Int32.toNatClampNeg (x3 + 1))), .int (xs (Int32.toNatClampNeg (x3 + 2))), .int (xs (Int32.toNatClampNeg (x3 + 3))), .int (xs (Int32.toNatClampNeg (x3 + 4)))]) (rest := []) (okS hW sc0_0) rfl rfl (kX11_black h) mbX11_black tw465 tw466 tw467 rfl hl.1 (Nat.le_of_ble_eq_true rfl) ⟨(Nat.le_of_ble_eq_true rfl), (Nat.le_of_ble_eq_true rfl)⟩ ⟨by show cells + 0 ≤ 662955; omega, by show slots + 0 ≤ 7113384; omega⟩ dL_law_567) (fun r1 I1 J1 H locs h hW => ?_)
  refine lv_aload_n hx hb dL_law_570 rfl (lv_at hl 3 rfl) ?_
  refine lv_aload_n hx hb dL_law_571 rfl (lv_at hl 1 rfl) ?_
  refine lv_iload_n hx hb dL_law_572 rfl (lv_at hl 0 rfl) ?_
  refine lv_iconst (v := 1) hx hb dL_law_573 (by decide) ?_
  refine lv_iadd hx hb dL_law_574 ?_
  refine va_sld hx hb hXs hbl (A := AA E) hbA hW.2.2.1 hv.1 dL_law_575 ?_
  refine lv_aload_n hx hb dL_law_576 rfl (lv_at hl 1 rfl) ?_
  refine lv_iload_n hx hb dL_law_577 rfl (lv_at hl 0 rfl) ?_
  refine lv_iconst (v := 2) hx hb dL_law_578 (by decide) ?_
  refine lv_iadd hx hb dL_law_579 ?_
  refine va_sld hx hb hXs hbl (A := AA E) hbA hW.2.2.1 hv.2.1 dL_law_580 ?_
  refine lv_aload_n hx hb dL_law_581 rfl (lv_at hl 1 rfl) ?_
  refine lv_iload_n hx hb dL_law_582 rfl (lv_at hl 0 rfl) ?_
  refine lv_iconst (v := 3) hx hb dL_law_583 (by decide) ?_
  refine lv_iadd hx hb dL_law_584 ?_
  refine va_sld hx hb hXs hbl (A := AA E) hbA hW.2.2.1 hv.2.2.1 dL_law_585 ?_
  refine lv_aload_n hx hb dL_law_586 rfl (lv_at hl 1 rfl) ?_
  refine lv_iload_n hx hb dL_law_587 rfl (lv_at hl 0 rfl) ?_
  refine lv_iconst (v := 4) hx hb dL_law_588 (by decide) ?_
  refine lv_iadd hx hb dL_law_589 ?_
  refine va_sld hx hb hXs hbl (A := AA E) hbA hW.2.2.1 hv.2.2.2.1 dL_law_590 ?_
  refine af_ig hW (rn_Vg X hW (As := [.int (xs (Int32.toNatClampNeg (x3 + 1))), .int (xs (Int32.toNatClampNeg (x3 + 2))), .int (xs (Int32.toNatClampNeg (x3 + 3))), .int (xs (Int32.toNatClampNeg (x3 + 4)))]) (rest := [.int r1]) (okS hW sc17_0) rfl rfl (kX12_black h) mbX12_black tw1047 tw1048 tw1049 rfl hl.1 (Nat.le_of_ble_eq_true rfl) ⟨(Nat.le_of_ble_eq_true rfl), (Nat.le_of_ble_eq_true rfl)⟩ ⟨by show cells + 0 ≤ 662955; omega, by show slots + 0 ≤ 7113384; omega⟩ dL_law_591) (fun r2 I2 J2 H locs h hW => ?_)
  refine lv_icmp_eq (tgt := 1497) hx hb dL_law_594 (by decide) (fun _ => ?_) (fun c9 => absurd h.1 c9)
  refine W.widen (k := cells + 3) (n := slots + 19) (by omega) (by omega) ?_
  exact K E _ _ H locs ⟨rfl, rfl, rfl⟩ hex ⟨rfl, rfl⟩ h.2 hW

set_option maxHeartbeats 4000000 in
set_option maxRecDepth 100000 in
theorem law13 {p : Program} {l : Launch} {e : Env} {s : State} {m : MethodId} {below : List Frame} {meth : Method} {c : Code} {b L : Nat} {xs : Nat → Int32} {E : WE} {I : MI} {J : MJ} {H : Heap} {locs : List Loc} {ls : Array Slot} {cells slots : Nat} {Q : State → Prop} {x3 : Int32} {Inv : GS → MI → MJ → Prop} (hop : op13 Inv) (X : Cx E code 4 RL ret p s m #[Value.ref b] c meth) (hNN : wN E = s.heap.size) (hXs : va_X b L xs s s.heap) (hbl : b < s.heap.size) (hv : vp_in (x3 + 1) L ∧ vp_in (x3 + 2) L ∧ vp_in (x3 + 3) L ∧ vp_in (x3 + 4) L ∧ vp_in (x3 + 5) L ∧ vp_in (x3 + 6) L ∧ vp_in (x3 + 7) L) (hex : exC E) (hI : Inv (wg E) I J) (hW : Wd E I J s H locs) (hl : lv_has ls 4 [(3, .int x3), (0, .ref b), (1, .ref (wa E 0 0)), (2, .ref (wa E 17 0))]) (hc : cells + 3 ≤ 662955) (hs : slots + 19 ≤ 7113384)
    (K : ∀ (E' : WE) (I' : MI) (J' : MJ) (H' : Heap) (locs' : List Loc), bsE E E' → exC E' → awE E E' → Inv (wg E') I' J' → Wd E' I' J' s H' locs' → W p l e room_1 s m #[Value.ref b] below meth c H' locs' (cells + 3) (slots + 19) Q (F0 m 1497 ls [])) : W p l e room_1 s m #[Value.ref b] below meth c H locs cells slots Q (F0 m 599 ls []) := by
  have hx := X.1.1
  have hb := X.1.2.1
  have hbA : ¬ AA E b := by show ¬ wN E ≤ b; omega
  have h := hop (wg E) I J (xs (Int32.toNatClampNeg (x3 + 1))) (xs (Int32.toNatClampNeg (x3 + 2))) (xs (Int32.toNatClampNeg (x3 + 3))) (xs (Int32.toNatClampNeg (x3 + 4))) (xs (Int32.toNatClampNeg (x3 + 5))) hI
  refine lv_aload_n hx hb dL_law_599 rfl (lv_at hl 2 rfl) ?_
  refine lv_aload_n hx hb dL_law_600 rfl (lv_at hl 1 rfl) ?_
  refine lv_iload_n hx hb dL_law_601 rfl (lv_at hl 0 rfl) ?_
  refine lv_iconst (v := 1) hx hb dL_law_602 (by decide) ?_
  refine lv_iadd hx hb dL_law_603 ?_
  refine va_sld hx hb hXs hbl (A := AA E) hbA hW.2.2.1 hv.1 dL_law_604 ?_
  refine lv_aload_n hx hb dL_law_605 rfl (lv_at hl 1 rfl) ?_
  refine lv_iload_n hx hb dL_law_606 rfl (lv_at hl 0 rfl) ?_
  refine lv_iconst (v := 2) hx hb dL_law_607 (by decide) ?_
  refine lv_iadd hx hb dL_law_608 ?_
  refine va_sld hx hb hXs hbl (A := AA E) hbA hW.2.2.1 hv.2.1 dL_law_609 ?_
  refine lv_aload_n hx hb dL_law_610 rfl (lv_at hl 1 rfl) ?_
  refine lv_iload_n hx hb dL_law_611 rfl (lv_at hl 0 rfl) ?_
  refine lv_iconst (v := 3) hx hb dL_law_612 (by decide) ?_
  refine lv_iadd hx hb dL_law_613 ?_
  refine va_sld hx hb hXs hbl (A := AA E) hbA hW.2.2.1 hv.2.2.1 dL_law_614 ?_
  refine lv_aload_n hx hb dL_law_615 rfl (lv_at hl 1 rfl) ?_
  refine lv_iload_n hx hb dL_law_616 rfl (lv_at hl 0 rfl) ?_
  refine lv_iconst (v := 4) hx hb dL_law_617 (by decide) ?_
  refine lv_iadd hx hb dL_law_618 ?_
  refine va_sld hx hb hXs hbl (A := AA E) hbA hW.2.2.1 hv.2.2.2.1 dL_law_619 ?_
  refine lv_aload_n hx hb dL_law_620 rfl (lv_at hl 1 rfl) ?_
  refine lv_iload_n hx hb dL_law_621 rfl (lv_at hl 0 rfl) ?_
  refine lv_iconst (v := 5) hx hb dL_law_622 (by decide) ?_
  refine lv_iadd hx hb dL_law_623 ?_
  refine va_sld hx hb hXs hbl (A := AA E) hbA hW.2.2.1 hv.2.2.2.2.1 dL_law_624 ?_
  refine af_ig hW (rn_Vg X hW (As := [.int (xs (Int32.toNatClampNeg (x3 + 1))), .int (xs (Int32.toNatClampNeg (x3 + 2))), .int (xs (Int32.toNatClampNeg (x3 + 3))), .int (xs (Int32.toNatClampNeg (x3 + 4))), .int (xs (Int32.toNatClampNeg (x3 + 5)))]) (rest := []) (okS hW sc0_0) rfl rfl (kX11_balls h) mbX11_balls tw523 tw524 tw525 rfl hl.1 (Nat.le_of_ble_eq_true rfl) ⟨(Nat.le_of_ble_eq_true rfl), (Nat.le_of_ble_eq_true rfl)⟩ ⟨by show cells + 0 ≤ 662955; omega, by show slots + 0 ≤ 7113384; omega⟩ dL_law_625) (fun r1 I1 J1 H locs h hW => ?_)
  refine lv_aload_n hx hb dL_law_628 rfl (lv_at hl 3 rfl) ?_
  refine lv_aload_n hx hb dL_law_629 rfl (lv_at hl 1 rfl) ?_
  refine lv_iload_n hx hb dL_law_630 rfl (lv_at hl 0 rfl) ?_
  refine lv_iconst (v := 1) hx hb dL_law_631 (by decide) ?_
  refine lv_iadd hx hb dL_law_632 ?_
  refine va_sld hx hb hXs hbl (A := AA E) hbA hW.2.2.1 hv.1 dL_law_633 ?_
  refine lv_aload_n hx hb dL_law_634 rfl (lv_at hl 1 rfl) ?_
  refine lv_iload_n hx hb dL_law_635 rfl (lv_at hl 0 rfl) ?_
  refine lv_iconst (v := 2) hx hb dL_law_636 (by decide) ?_
  refine lv_iadd hx hb dL_law_637 ?_
  refine va_sld hx hb hXs hbl (A := AA E) hbA hW.2.2.1 hv.2.1 dL_law_638 ?_
  refine lv_aload_n hx hb dL_law_639 rfl (lv_at hl 1 rfl) ?_
  refine lv_iload_n hx hb dL_law_640 rfl (lv_at hl 0 rfl) ?_
  refine lv_iconst (v := 3) hx hb dL_law_641 (by decide) ?_
  refine lv_iadd hx hb dL_law_642 ?_
  refine va_sld hx hb hXs hbl (A := AA E) hbA hW.2.2.1 hv.2.2.1 dL_law_643 ?_
  refine lv_aload_n hx hb dL_law_644 rfl (lv_at hl 1 rfl) ?_
  refine lv_iload_n hx hb dL_law_645 rfl (lv_at hl 0 rfl) ?_
  refine lv_iconst (v := 4) hx hb dL_law_646 (by decide) ?_
  refine lv_iadd hx hb dL_law_647 ?_
  refine va_sld hx hb hXs hbl (A := AA E) hbA hW.2.2.1 hv.2.2.2.1 dL_law_648 ?_
  refine lv_aload_n hx hb dL_law_649 rfl (lv_at hl 1 rfl) ?_
  refine lv_iload_n hx hb dL_law_650 rfl (lv_at hl 0 rfl) ?_
  refine lv_iconst (v := 5) hx hb dL_law_651 (by decide) ?_
  refine lv_iadd hx hb dL_law_652 ?_
  refine va_sld hx hb hXs hbl (A := AA E) hbA hW.2.2.1 hv.2.2.2.2.1 dL_law_653 ?_
  refine af_ig hW (rn_Vg X hW (As := [.int (xs (Int32.toNatClampNeg (x3 + 1))), .int (xs (Int32.toNatClampNeg (x3 + 2))), .int (xs (Int32.toNatClampNeg (x3 + 3))), .int (xs (Int32.toNatClampNeg (x3 + 4))), .int (xs (Int32.toNatClampNeg (x3 + 5)))]) (rest := [.int r1]) (okS hW sc17_0) rfl rfl (kX12_balls h) mbX12_balls tw1065 tw1066 tw1067 rfl hl.1 (Nat.le_of_ble_eq_true rfl) ⟨(Nat.le_of_ble_eq_true rfl), (Nat.le_of_ble_eq_true rfl)⟩ ⟨by show cells + 0 ≤ 662955; omega, by show slots + 0 ≤ 7113384; omega⟩ dL_law_654) (fun r2 I2 J2 H locs h hW => ?_)
  refine lv_icmp_eq (tgt := 1497) hx hb dL_law_657 (by decide) (fun _ => ?_) (fun c9 => absurd h.1 c9)
  refine W.widen (k := cells + 3) (n := slots + 19) (by omega) (by omega) ?_
  exact K E _ _ H locs ⟨rfl, rfl, rfl⟩ hex ⟨rfl, rfl⟩ h.2 hW

set_option maxHeartbeats 4000000 in
set_option maxRecDepth 100000 in
theorem law14 {p : Program} {l : Launch} {e : Env} {s : State} {m : MethodId} {below : List Frame} {meth : Method} {c : Code} {b L : Nat} {xs : Nat → Int32} {E : WE} {I : MI} {J : MJ} {H : Heap} {locs : List Loc} {ls : Array Slot} {cells slots : Nat} {Q : State → Prop} {x3 : Int32} {Inv : GS → MI → MJ → Prop} (hop : op14 Inv) (X : Cx E code 4 RL ret p s m #[Value.ref b] c meth) (hNN : wN E = s.heap.size) (hXs : va_X b L xs s s.heap) (hbl : b < s.heap.size) (hv : vp_in (x3 + 1) L ∧ vp_in (x3 + 2) L ∧ vp_in (x3 + 3) L ∧ vp_in (x3 + 4) L ∧ vp_in (x3 + 5) L ∧ vp_in (x3 + 6) L ∧ vp_in (x3 + 7) L) (hex : exC E) (hI : Inv (wg E) I J) (hW : Wd E I J s H locs) (hl : lv_has ls 4 [(3, .int x3), (0, .ref b), (1, .ref (wa E 0 0)), (2, .ref (wa E 17 0))]) (hc : cells + 3 ≤ 662955) (hs : slots + 19 ≤ 7113384)
    (K : ∀ (E' : WE) (I' : MI) (J' : MJ) (H' : Heap) (locs' : List Loc), bsE E E' → exC E' → awE E E' → Inv (wg E') I' J' → Wd E' I' J' s H' locs' → W p l e room_1 s m #[Value.ref b] below meth c H' locs' (cells + 3) (slots + 19) Q (F0 m 1497 ls [])) : W p l e room_1 s m #[Value.ref b] below meth c H locs cells slots Q (F0 m 662 ls []) := by
  have hx := X.1.1
  have hb := X.1.2.1
  have hbA : ¬ AA E b := by show ¬ wN E ≤ b; omega
  have h := hop (wg E) I J (xs (Int32.toNatClampNeg (x3 + 1))) (xs (Int32.toNatClampNeg (x3 + 2))) (xs (Int32.toNatClampNeg (x3 + 3))) (xs (Int32.toNatClampNeg (x3 + 4))) hI
  refine lv_aload_n hx hb dL_law_662 rfl (lv_at hl 2 rfl) ?_
  refine lv_aload_n hx hb dL_law_663 rfl (lv_at hl 1 rfl) ?_
  refine lv_iload_n hx hb dL_law_664 rfl (lv_at hl 0 rfl) ?_
  refine lv_iconst (v := 1) hx hb dL_law_665 (by decide) ?_
  refine lv_iadd hx hb dL_law_666 ?_
  refine va_sld hx hb hXs hbl (A := AA E) hbA hW.2.2.1 hv.1 dL_law_667 ?_
  refine lv_aload_n hx hb dL_law_668 rfl (lv_at hl 1 rfl) ?_
  refine lv_iload_n hx hb dL_law_669 rfl (lv_at hl 0 rfl) ?_
  refine lv_iconst (v := 2) hx hb dL_law_670 (by decide) ?_
  refine lv_iadd hx hb dL_law_671 ?_
  refine va_sld hx hb hXs hbl (A := AA E) hbA hW.2.2.1 hv.2.1 dL_law_672 ?_
  refine lv_aload_n hx hb dL_law_673 rfl (lv_at hl 1 rfl) ?_
  refine lv_iload_n hx hb dL_law_674 rfl (lv_at hl 0 rfl) ?_
  refine lv_iconst (v := 3) hx hb dL_law_675 (by decide) ?_
  refine lv_iadd hx hb dL_law_676 ?_
  refine va_sld hx hb hXs hbl (A := AA E) hbA hW.2.2.1 hv.2.2.1 dL_law_677 ?_
  refine lv_aload_n hx hb dL_law_678 rfl (lv_at hl 1 rfl) ?_
  refine lv_iload_n hx hb dL_law_679 rfl (lv_at hl 0 rfl) ?_
  refine lv_iconst (v := 4) hx hb dL_law_680 (by decide) ?_
  refine lv_iadd hx hb dL_law_681 ?_
  refine va_sld hx hb hXs hbl (A := AA E) hbA hW.2.2.1 hv.2.2.2.1 dL_law_682 ?_
  refine af_lg hW (rn_Vg X hW (As := [.int (xs (Int32.toNatClampNeg (x3 + 1))), .int (xs (Int32.toNatClampNeg (x3 + 2))), .int (xs (Int32.toNatClampNeg (x3 + 3))), .int (xs (Int32.toNatClampNeg (x3 + 4)))]) (rest := []) (okS hW sc0_0) rfl rfl (kX11_in h) mbX11_in tw558 tw559 tw560 rfl hl.1 (Nat.le_of_ble_eq_true rfl) ⟨(Nat.le_of_ble_eq_true rfl), (Nat.le_of_ble_eq_true rfl)⟩ ⟨by show cells + 0 ≤ 662955; omega, by show slots + 0 ≤ 7113384; omega⟩ dL_law_683) (fun r1 I1 J1 H locs h hW => ?_)
  refine lv_aload_n hx hb dL_law_686 rfl (lv_at hl 3 rfl) ?_
  refine lv_aload_n hx hb dL_law_687 rfl (lv_at hl 1 rfl) ?_
  refine lv_iload_n hx hb dL_law_688 rfl (lv_at hl 0 rfl) ?_
  refine lv_iconst (v := 1) hx hb dL_law_689 (by decide) ?_
  refine lv_iadd hx hb dL_law_690 ?_
  refine va_sld hx hb hXs hbl (A := AA E) hbA hW.2.2.1 hv.1 dL_law_691 ?_
  refine lv_aload_n hx hb dL_law_692 rfl (lv_at hl 1 rfl) ?_
  refine lv_iload_n hx hb dL_law_693 rfl (lv_at hl 0 rfl) ?_
  refine lv_iconst (v := 2) hx hb dL_law_694 (by decide) ?_
  refine lv_iadd hx hb dL_law_695 ?_
  refine va_sld hx hb hXs hbl (A := AA E) hbA hW.2.2.1 hv.2.1 dL_law_696 ?_
  refine lv_aload_n hx hb dL_law_697 rfl (lv_at hl 1 rfl) ?_
  refine lv_iload_n hx hb dL_law_698 rfl (lv_at hl 0 rfl) ?_
  refine lv_iconst (v := 3) hx hb dL_law_699 (by decide) ?_
  refine lv_iadd hx hb dL_law_700 ?_
  refine va_sld hx hb hXs hbl (A := AA E) hbA hW.2.2.1 hv.2.2.1 dL_law_701 ?_
  refine lv_aload_n hx hb dL_law_702 rfl (lv_at hl 1 rfl) ?_
  refine lv_iload_n hx hb dL_law_703 rfl (lv_at hl 0 rfl) ?_
  refine lv_iconst (v := 4) hx hb dL_law_704 (by decide) ?_
  refine lv_iadd hx hb dL_law_705 ?_
  refine va_sld hx hb hXs hbl (A := AA E) hbA hW.2.2.1 hv.2.2.2.1 dL_law_706 ?_
  refine af_lg hW (rn_Vg X hW (As := [.int (xs (Int32.toNatClampNeg (x3 + 1))), .int (xs (Int32.toNatClampNeg (x3 + 2))), .int (xs (Int32.toNatClampNeg (x3 + 3))), .int (xs (Int32.toNatClampNeg (x3 + 4)))]) (rest := [.long r1]) (okS hW sc17_0) rfl rfl (kX12_in h) mbX12_in tw1087 tw1088 tw1089 rfl hl.1 (Nat.le_of_ble_eq_true rfl) ⟨(Nat.le_of_ble_eq_true rfl), (Nat.le_of_ble_eq_true rfl)⟩ ⟨by show cells + 0 ≤ 662955; omega, by show slots + 0 ≤ 7113384; omega⟩ dL_law_707) (fun r2 I2 J2 H locs h hW => ?_)
  refine W.lcmp hx hb dL_law_710 ?_
  refine lv_if_eq (tgt := 1497) hx hb dL_law_711 (by decide) (fun _ => ?_) (fun c9 => absurd (by rw [h.1]; exact lg_self _) c9)
  refine W.widen (k := cells + 3) (n := slots + 19) (by omega) (by omega) ?_
  exact K E _ _ H locs ⟨rfl, rfl, rfl⟩ hex ⟨rfl, rfl⟩ h.2 hW

set_option maxHeartbeats 4000000 in
set_option maxRecDepth 100000 in
theorem law15 {p : Program} {l : Launch} {e : Env} {s : State} {m : MethodId} {below : List Frame} {meth : Method} {c : Code} {b L : Nat} {xs : Nat → Int32} {E : WE} {I : MI} {J : MJ} {H : Heap} {locs : List Loc} {ls : Array Slot} {cells slots : Nat} {Q : State → Prop} {x3 : Int32} {Inv : GS → MI → MJ → Prop} (hop : op15 Inv) (X : Cx E code 4 RL ret p s m #[Value.ref b] c meth) (hNN : wN E = s.heap.size) (hXs : va_X b L xs s s.heap) (hbl : b < s.heap.size) (hv : vp_in (x3 + 1) L ∧ vp_in (x3 + 2) L ∧ vp_in (x3 + 3) L ∧ vp_in (x3 + 4) L ∧ vp_in (x3 + 5) L ∧ vp_in (x3 + 6) L ∧ vp_in (x3 + 7) L) (hex : exC E) (hI : Inv (wg E) I J) (hW : Wd E I J s H locs) (hl : lv_has ls 4 [(3, .int x3), (0, .ref b), (1, .ref (wa E 0 0)), (2, .ref (wa E 17 0))]) (hc : cells + 3 ≤ 662955) (hs : slots + 19 ≤ 7113384)
    (K : ∀ (E' : WE) (I' : MI) (J' : MJ) (H' : Heap) (locs' : List Loc), bsE E E' → exC E' → awE E E' → Inv (wg E') I' J' → Wd E' I' J' s H' locs' → W p l e room_1 s m #[Value.ref b] below meth c H' locs' (cells + 3) (slots + 19) Q (F0 m 1497 ls [])) : W p l e room_1 s m #[Value.ref b] below meth c H locs cells slots Q (F0 m 716 ls []) := by
  have hx := X.1.1
  have hb := X.1.2.1
  have hbA : ¬ AA E b := by show ¬ wN E ≤ b; omega
  have h := hop (wg E) I J (xs (Int32.toNatClampNeg (x3 + 1))) (xs (Int32.toNatClampNeg (x3 + 2))) (xs (Int32.toNatClampNeg (x3 + 3))) hI
  refine lv_aload_n hx hb dL_law_716 rfl (lv_at hl 2 rfl) ?_
  refine lv_aload_n hx hb dL_law_717 rfl (lv_at hl 1 rfl) ?_
  refine lv_iload_n hx hb dL_law_718 rfl (lv_at hl 0 rfl) ?_
  refine lv_iconst (v := 1) hx hb dL_law_719 (by decide) ?_
  refine lv_iadd hx hb dL_law_720 ?_
  refine va_sld hx hb hXs hbl (A := AA E) hbA hW.2.2.1 hv.1 dL_law_721 ?_
  refine lv_aload_n hx hb dL_law_722 rfl (lv_at hl 1 rfl) ?_
  refine lv_iload_n hx hb dL_law_723 rfl (lv_at hl 0 rfl) ?_
  refine lv_iconst (v := 2) hx hb dL_law_724 (by decide) ?_
  refine lv_iadd hx hb dL_law_725 ?_
  refine va_sld hx hb hXs hbl (A := AA E) hbA hW.2.2.1 hv.2.1 dL_law_726 ?_
  refine lv_aload_n hx hb dL_law_727 rfl (lv_at hl 1 rfl) ?_
  refine lv_iload_n hx hb dL_law_728 rfl (lv_at hl 0 rfl) ?_
  refine lv_iconst (v := 3) hx hb dL_law_729 (by decide) ?_
  refine lv_iadd hx hb dL_law_730 ?_
  refine va_sld hx hb hXs hbl (A := AA E) hbA hW.2.2.1 hv.2.2.1 dL_law_731 ?_
  refine af_lg hW (rn_Vg X hW (As := [.int (xs (Int32.toNatClampNeg (x3 + 1))), .int (xs (Int32.toNatClampNeg (x3 + 2))), .int (xs (Int32.toNatClampNeg (x3 + 3)))]) (rest := []) (okS hW sc0_0) rfl rfl (kX11_large h) mbX11_large tw583 tw584 tw585 rfl hl.1 (Nat.le_of_ble_eq_true rfl) ⟨(Nat.le_of_ble_eq_true rfl), (Nat.le_of_ble_eq_true rfl)⟩ ⟨by show cells + 0 ≤ 662955; omega, by show slots + 0 ≤ 7113384; omega⟩ dL_law_732) (fun r1 I1 J1 H locs h hW => ?_)
  refine lv_aload_n hx hb dL_law_735 rfl (lv_at hl 3 rfl) ?_
  refine lv_aload_n hx hb dL_law_736 rfl (lv_at hl 1 rfl) ?_
  refine lv_iload_n hx hb dL_law_737 rfl (lv_at hl 0 rfl) ?_
  refine lv_iconst (v := 1) hx hb dL_law_738 (by decide) ?_
  refine lv_iadd hx hb dL_law_739 ?_
  refine va_sld hx hb hXs hbl (A := AA E) hbA hW.2.2.1 hv.1 dL_law_740 ?_
  refine lv_aload_n hx hb dL_law_741 rfl (lv_at hl 1 rfl) ?_
  refine lv_iload_n hx hb dL_law_742 rfl (lv_at hl 0 rfl) ?_
  refine lv_iconst (v := 2) hx hb dL_law_743 (by decide) ?_
  refine lv_iadd hx hb dL_law_744 ?_
  refine va_sld hx hb hXs hbl (A := AA E) hbA hW.2.2.1 hv.2.1 dL_law_745 ?_
  refine lv_aload_n hx hb dL_law_746 rfl (lv_at hl 1 rfl) ?_
  refine lv_iload_n hx hb dL_law_747 rfl (lv_at hl 0 rfl) ?_
  refine lv_iconst (v := 3) hx hb dL_law_748 (by decide) ?_
  refine lv_iadd hx hb dL_law_749 ?_
  refine va_sld hx hb hXs hbl (A := AA E) hbA hW.2.2.1 hv.2.2.1 dL_law_750 ?_
  refine af_lg hW (rn_Vg X hW (As := [.int (xs (Int32.toNatClampNeg (x3 + 1))), .int (xs (Int32.toNatClampNeg (x3 + 2))), .int (xs (Int32.toNatClampNeg (x3 + 3)))]) (rest := [.long r1]) (okS hW sc17_0) rfl rfl (kX12_large h) mbX12_large tw1105 tw1106 tw1107 rfl hl.1 (Nat.le_of_ble_eq_true rfl) ⟨(Nat.le_of_ble_eq_true rfl), (Nat.le_of_ble_eq_true rfl)⟩ ⟨by show cells + 0 ≤ 662955; omega, by show slots + 0 ≤ 7113384; omega⟩ dL_law_751) (fun r2 I2 J2 H locs h hW => ?_)
  refine W.lcmp hx hb dL_law_754 ?_
  refine lv_if_eq (tgt := 1497) hx hb dL_law_755 (by decide) (fun _ => ?_) (fun c9 => absurd (by rw [h.1]; exact lg_self _) c9)
  refine W.widen (k := cells + 3) (n := slots + 19) (by omega) (by omega) ?_
  exact K E _ _ H locs ⟨rfl, rfl, rfl⟩ hex ⟨rfl, rfl⟩ h.2 hW

set_option maxHeartbeats 4000000 in
set_option maxRecDepth 100000 in
theorem law16 {p : Program} {l : Launch} {e : Env} {s : State} {m : MethodId} {below : List Frame} {meth : Method} {c : Code} {b L : Nat} {xs : Nat → Int32} {E : WE} {I : MI} {J : MJ} {H : Heap} {locs : List Loc} {ls : Array Slot} {cells slots : Nat} {Q : State → Prop} {x3 : Int32} {Inv : GS → MI → MJ → Prop} (hop : op16 Inv) (X : Cx E code 4 RL ret p s m #[Value.ref b] c meth) (hNN : wN E = s.heap.size) (hXs : va_X b L xs s s.heap) (hbl : b < s.heap.size) (hv : vp_in (x3 + 1) L ∧ vp_in (x3 + 2) L ∧ vp_in (x3 + 3) L ∧ vp_in (x3 + 4) L ∧ vp_in (x3 + 5) L ∧ vp_in (x3 + 6) L ∧ vp_in (x3 + 7) L) (hex : exC E) (hI : Inv (wg E) I J) (hW : Wd E I J s H locs) (hl : lv_has ls 4 [(3, .int x3), (0, .ref b), (1, .ref (wa E 0 0)), (2, .ref (wa E 17 0))]) (hc : cells + 3 ≤ 662955) (hs : slots + 19 ≤ 7113384)
    (K : ∀ (E' : WE) (I' : MI) (J' : MJ) (H' : Heap) (locs' : List Loc), bsE E E' → exC E' → awE E E' → Inv (wg E') I' J' → Wd E' I' J' s H' locs' → W p l e room_1 s m #[Value.ref b] below meth c H' locs' (cells + 3) (slots + 19) Q (F0 m 1497 ls [])) : W p l e room_1 s m #[Value.ref b] below meth c H locs cells slots Q (F0 m 760 ls []) := by
  have hx := X.1.1
  have hb := X.1.2.1
  have hbA : ¬ AA E b := by show ¬ wN E ≤ b; omega
  have h := hop (wg E) I J (xs (Int32.toNatClampNeg (x3 + 1))) (xs (Int32.toNatClampNeg (x3 + 2))) hI
  refine lv_aload_n hx hb dL_law_760 rfl (lv_at hl 2 rfl) ?_
  refine lv_aload_n hx hb dL_law_761 rfl (lv_at hl 1 rfl) ?_
  refine lv_iload_n hx hb dL_law_762 rfl (lv_at hl 0 rfl) ?_
  refine lv_iconst (v := 1) hx hb dL_law_763 (by decide) ?_
  refine lv_iadd hx hb dL_law_764 ?_
  refine va_sld hx hb hXs hbl (A := AA E) hbA hW.2.2.1 hv.1 dL_law_765 ?_
  refine lv_aload_n hx hb dL_law_766 rfl (lv_at hl 1 rfl) ?_
  refine lv_iload_n hx hb dL_law_767 rfl (lv_at hl 0 rfl) ?_
  refine lv_iconst (v := 2) hx hb dL_law_768 (by decide) ?_
  refine lv_iadd hx hb dL_law_769 ?_
  refine va_sld hx hb hXs hbl (A := AA E) hbA hW.2.2.1 hv.2.1 dL_law_770 ?_
  refine af_lg hW (rn_Vg X hW (As := [.int (xs (Int32.toNatClampNeg (x3 + 1))), .int (xs (Int32.toNatClampNeg (x3 + 2)))]) (rest := []) (okS hW sc0_0) rfl rfl (kX11_wrong h) mbX11_wrong tw618 tw619 tw620 rfl hl.1 (Nat.le_of_ble_eq_true rfl) ⟨(Nat.le_of_ble_eq_true rfl), (Nat.le_of_ble_eq_true rfl)⟩ ⟨by show cells + 0 ≤ 662955; omega, by show slots + 0 ≤ 7113384; omega⟩ dL_law_771) (fun r1 I1 J1 H locs h hW => ?_)
  refine lv_aload_n hx hb dL_law_774 rfl (lv_at hl 3 rfl) ?_
  refine lv_aload_n hx hb dL_law_775 rfl (lv_at hl 1 rfl) ?_
  refine lv_iload_n hx hb dL_law_776 rfl (lv_at hl 0 rfl) ?_
  refine lv_iconst (v := 1) hx hb dL_law_777 (by decide) ?_
  refine lv_iadd hx hb dL_law_778 ?_
  refine va_sld hx hb hXs hbl (A := AA E) hbA hW.2.2.1 hv.1 dL_law_779 ?_
  refine lv_aload_n hx hb dL_law_780 rfl (lv_at hl 1 rfl) ?_
  refine lv_iload_n hx hb dL_law_781 rfl (lv_at hl 0 rfl) ?_
  refine lv_iconst (v := 2) hx hb dL_law_782 (by decide) ?_
  refine lv_iadd hx hb dL_law_783 ?_
  refine va_sld hx hb hXs hbl (A := AA E) hbA hW.2.2.1 hv.2.1 dL_law_784 ?_
  refine af_lg hW (rn_Vg X hW (As := [.int (xs (Int32.toNatClampNeg (x3 + 1))), .int (xs (Int32.toNatClampNeg (x3 + 2)))]) (rest := [.long r1]) (okS hW sc17_0) rfl rfl (kX12_wrong h) mbX12_wrong tw1114 tw1115 tw1116 rfl hl.1 (Nat.le_of_ble_eq_true rfl) ⟨(Nat.le_of_ble_eq_true rfl), (Nat.le_of_ble_eq_true rfl)⟩ ⟨by show cells + 0 ≤ 662955; omega, by show slots + 0 ≤ 7113384; omega⟩ dL_law_785) (fun r2 I2 J2 H locs h hW => ?_)
  refine W.lcmp hx hb dL_law_788 ?_
  refine lv_if_eq (tgt := 1497) hx hb dL_law_789 (by decide) (fun _ => ?_) (fun c9 => absurd (by rw [h.1]; exact lg_self _) c9)
  refine W.widen (k := cells + 3) (n := slots + 19) (by omega) (by omega) ?_
  exact K E _ _ H locs ⟨rfl, rfl, rfl⟩ hex ⟨rfl, rfl⟩ h.2 hW

set_option maxHeartbeats 4000000 in
set_option maxRecDepth 100000 in
theorem law17 {p : Program} {l : Launch} {e : Env} {s : State} {m : MethodId} {below : List Frame} {meth : Method} {c : Code} {b L : Nat} {xs : Nat → Int32} {E : WE} {I : MI} {J : MJ} {H : Heap} {locs : List Loc} {ls : Array Slot} {cells slots : Nat} {Q : State → Prop} {x3 : Int32} {Inv : GS → MI → MJ → Prop} (hop : op17 Inv) (X : Cx E code 4 RL ret p s m #[Value.ref b] c meth) (hNN : wN E = s.heap.size) (hXs : va_X b L xs s s.heap) (hbl : b < s.heap.size) (hv : vp_in (x3 + 1) L ∧ vp_in (x3 + 2) L ∧ vp_in (x3 + 3) L ∧ vp_in (x3 + 4) L ∧ vp_in (x3 + 5) L ∧ vp_in (x3 + 6) L ∧ vp_in (x3 + 7) L) (hex : exC E) (hI : Inv (wg E) I J) (hW : Wd E I J s H locs) (hl : lv_has ls 4 [(3, .int x3), (0, .ref b), (1, .ref (wa E 0 0)), (2, .ref (wa E 17 0))]) (hc : cells + 3 ≤ 662955) (hs : slots + 19 ≤ 7113384)
    (K : ∀ (E' : WE) (I' : MI) (J' : MJ) (H' : Heap) (locs' : List Loc), bsE E E' → exC E' → awE E E' → Inv (wg E') I' J' → Wd E' I' J' s H' locs' → W p l e room_1 s m #[Value.ref b] below meth c H' locs' (cells + 3) (slots + 19) Q (F0 m 1497 ls [])) : W p l e room_1 s m #[Value.ref b] below meth c H locs cells slots Q (F0 m 794 ls []) := by
  have hx := X.1.1
  have hb := X.1.2.1
  have hbA : ¬ AA E b := by show ¬ wN E ≤ b; omega
  have h := hop (wg E) I J (xs (Int32.toNatClampNeg (x3 + 1))) hI
  refine lv_aload_n hx hb dL_law_794 rfl (lv_at hl 2 rfl) ?_
  refine lv_aload_n hx hb dL_law_795 rfl (lv_at hl 1 rfl) ?_
  refine lv_iload_n hx hb dL_law_796 rfl (lv_at hl 0 rfl) ?_
  refine lv_iconst (v := 1) hx hb dL_law_797 (by decide) ?_
  refine lv_iadd hx hb dL_law_798 ?_
  refine va_sld hx hb hXs hbl (A := AA E) hbA hW.2.2.1 hv.1 dL_law_799 ?_
  refine af_ig hW (rn_Vg X hW (As := [.int (xs (Int32.toNatClampNeg (x3 + 1)))]) (rest := []) (okS hW sc0_0) rfl rfl (kX11_best h) mbX11_best tw626 tw627 tw628 rfl hl.1 (Nat.le_of_ble_eq_true rfl) ⟨(Nat.le_of_ble_eq_true rfl), (Nat.le_of_ble_eq_true rfl)⟩ ⟨by show cells + 0 ≤ 662955; omega, by show slots + 0 ≤ 7113384; omega⟩ dL_law_800) (fun r1 I1 J1 H locs h hW => ?_)
  refine lv_aload_n hx hb dL_law_803 rfl (lv_at hl 3 rfl) ?_
  refine lv_aload_n hx hb dL_law_804 rfl (lv_at hl 1 rfl) ?_
  refine lv_iload_n hx hb dL_law_805 rfl (lv_at hl 0 rfl) ?_
  refine lv_iconst (v := 1) hx hb dL_law_806 (by decide) ?_
  refine lv_iadd hx hb dL_law_807 ?_
  refine va_sld hx hb hXs hbl (A := AA E) hbA hW.2.2.1 hv.1 dL_law_808 ?_
  refine af_ig hW (rn_Vg X hW (As := [.int (xs (Int32.toNatClampNeg (x3 + 1)))]) (rest := [.int r1]) (okS hW sc17_0) rfl rfl (kX12_best h) mbX12_best tw1122 tw1123 tw1124 rfl hl.1 (Nat.le_of_ble_eq_true rfl) ⟨(Nat.le_of_ble_eq_true rfl), (Nat.le_of_ble_eq_true rfl)⟩ ⟨by show cells + 0 ≤ 662955; omega, by show slots + 0 ≤ 7113384; omega⟩ dL_law_809) (fun r2 I2 J2 H locs h hW => ?_)
  refine lv_icmp_eq (tgt := 1497) hx hb dL_law_812 (by decide) (fun _ => ?_) (fun c9 => absurd h.1 c9)
  refine W.widen (k := cells + 3) (n := slots + 19) (by omega) (by omega) ?_
  exact K E _ _ H locs ⟨rfl, rfl, rfl⟩ hex ⟨rfl, rfl⟩ h.2 hW

set_option maxHeartbeats 4000000 in
set_option maxRecDepth 100000 in
theorem law18 {p : Program} {l : Launch} {e : Env} {s : State} {m : MethodId} {below : List Frame} {meth : Method} {c : Code} {b L : Nat} {xs : Nat → Int32} {E : WE} {I : MI} {J : MJ} {H : Heap} {locs : List Loc} {ls : Array Slot} {cells slots : Nat} {Q : State → Prop} {x3 : Int32} {Inv : GS → MI → MJ → Prop} (hop : op18 Inv) (X : Cx E code 4 RL ret p s m #[Value.ref b] c meth) (hNN : wN E = s.heap.size) (hXs : va_X b L xs s s.heap) (hbl : b < s.heap.size) (hv : vp_in (x3 + 1) L ∧ vp_in (x3 + 2) L ∧ vp_in (x3 + 3) L ∧ vp_in (x3 + 4) L ∧ vp_in (x3 + 5) L ∧ vp_in (x3 + 6) L ∧ vp_in (x3 + 7) L) (hex : exC E) (hI : Inv (wg E) I J) (hW : Wd E I J s H locs) (hl : lv_has ls 4 [(3, .int x3), (0, .ref b), (1, .ref (wa E 0 0)), (2, .ref (wa E 17 0))]) (hc : cells + 3 ≤ 662955) (hs : slots + 19 ≤ 7113384)
    (K : ∀ (E' : WE) (I' : MI) (J' : MJ) (H' : Heap) (locs' : List Loc), bsE E E' → exC E' → awE E E' → Inv (wg E') I' J' → Wd E' I' J' s H' locs' → W p l e room_1 s m #[Value.ref b] below meth c H' locs' (cells + 3) (slots + 19) Q (F0 m 1497 ls [])) : W p l e room_1 s m #[Value.ref b] below meth c H locs cells slots Q (F0 m 817 ls []) := by
  have hx := X.1.1
  have hb := X.1.2.1
  have hbA : ¬ AA E b := by show ¬ wN E ≤ b; omega
  have h := hop (wg E) I J (xs (Int32.toNatClampNeg (x3 + 1))) (xs (Int32.toNatClampNeg (x3 + 2))) (xs (Int32.toNatClampNeg (x3 + 3))) (xs (Int32.toNatClampNeg (x3 + 4))) (xs (Int32.toNatClampNeg (x3 + 5))) (xs (Int32.toNatClampNeg (x3 + 6))) hI
  refine lv_aload_n hx hb dL_law_817 rfl (lv_at hl 2 rfl) ?_
  refine lv_aload_n hx hb dL_law_818 rfl (lv_at hl 1 rfl) ?_
  refine lv_iload_n hx hb dL_law_819 rfl (lv_at hl 0 rfl) ?_
  refine lv_iconst (v := 1) hx hb dL_law_820 (by decide) ?_
  refine lv_iadd hx hb dL_law_821 ?_
  refine va_sld hx hb hXs hbl (A := AA E) hbA hW.2.2.1 hv.1 dL_law_822 ?_
  refine lv_aload_n hx hb dL_law_823 rfl (lv_at hl 1 rfl) ?_
  refine lv_iload_n hx hb dL_law_824 rfl (lv_at hl 0 rfl) ?_
  refine lv_iconst (v := 2) hx hb dL_law_825 (by decide) ?_
  refine lv_iadd hx hb dL_law_826 ?_
  refine va_sld hx hb hXs hbl (A := AA E) hbA hW.2.2.1 hv.2.1 dL_law_827 ?_
  refine lv_aload_n hx hb dL_law_828 rfl (lv_at hl 1 rfl) ?_
  refine lv_iload_n hx hb dL_law_829 rfl (lv_at hl 0 rfl) ?_
  refine lv_iconst (v := 3) hx hb dL_law_830 (by decide) ?_
  refine lv_iadd hx hb dL_law_831 ?_
  refine va_sld hx hb hXs hbl (A := AA E) hbA hW.2.2.1 hv.2.2.1 dL_law_832 ?_
  refine lv_aload_n hx hb dL_law_833 rfl (lv_at hl 1 rfl) ?_
  refine lv_iload_n hx hb dL_law_834 rfl (lv_at hl 0 rfl) ?_
  refine lv_iconst (v := 4) hx hb dL_law_835 (by decide) ?_
  refine lv_iadd hx hb dL_law_836 ?_
  refine va_sld hx hb hXs hbl (A := AA E) hbA hW.2.2.1 hv.2.2.2.1 dL_law_837 ?_
  refine lv_aload_n hx hb dL_law_838 rfl (lv_at hl 1 rfl) ?_
  refine lv_iload_n hx hb dL_law_839 rfl (lv_at hl 0 rfl) ?_
  refine lv_iconst (v := 5) hx hb dL_law_840 (by decide) ?_
  refine lv_iadd hx hb dL_law_841 ?_
  refine va_sld hx hb hXs hbl (A := AA E) hbA hW.2.2.1 hv.2.2.2.2.1 dL_law_842 ?_
  refine lv_aload_n hx hb dL_law_843 rfl (lv_at hl 1 rfl) ?_
  refine lv_iload_n hx hb dL_law_844 rfl (lv_at hl 0 rfl) ?_
  refine lv_bipush (v := 6) hx hb dL_law_845 (by decide) ?_
  refine lv_iadd hx hb dL_law_847 ?_
  refine va_sld hx hb hXs hbl (A := AA E) hbA hW.2.2.1 hv.2.2.2.2.2.1 dL_law_848 ?_
  refine af_ig hW (rn_Vg X hW (As := [.int (xs (Int32.toNatClampNeg (x3 + 1))), .int (xs (Int32.toNatClampNeg (x3 + 2))), .int (xs (Int32.toNatClampNeg (x3 + 3))), .int (xs (Int32.toNatClampNeg (x3 + 4))), .int (xs (Int32.toNatClampNeg (x3 + 5))), .int (xs (Int32.toNatClampNeg (x3 + 6)))]) (rest := []) (okS hW sc0_0) rfl rfl (kX11_who h) mbX11_who tw630 tw631 tw632 rfl hl.1 (Nat.le_of_ble_eq_true rfl) ⟨(Nat.le_of_ble_eq_true rfl), (Nat.le_of_ble_eq_true rfl)⟩ ⟨by show cells + 0 ≤ 662955; omega, by show slots + 0 ≤ 7113384; omega⟩ dL_law_849) (fun r1 I1 J1 H locs h hW => ?_)
  refine lv_aload_n hx hb dL_law_852 rfl (lv_at hl 3 rfl) ?_
  refine lv_aload_n hx hb dL_law_853 rfl (lv_at hl 1 rfl) ?_
  refine lv_iload_n hx hb dL_law_854 rfl (lv_at hl 0 rfl) ?_
  refine lv_iconst (v := 1) hx hb dL_law_855 (by decide) ?_
  refine lv_iadd hx hb dL_law_856 ?_
  refine va_sld hx hb hXs hbl (A := AA E) hbA hW.2.2.1 hv.1 dL_law_857 ?_
  refine lv_aload_n hx hb dL_law_858 rfl (lv_at hl 1 rfl) ?_
  refine lv_iload_n hx hb dL_law_859 rfl (lv_at hl 0 rfl) ?_
  refine lv_iconst (v := 2) hx hb dL_law_860 (by decide) ?_
  refine lv_iadd hx hb dL_law_861 ?_
  refine va_sld hx hb hXs hbl (A := AA E) hbA hW.2.2.1 hv.2.1 dL_law_862 ?_
  refine lv_aload_n hx hb dL_law_863 rfl (lv_at hl 1 rfl) ?_
  refine lv_iload_n hx hb dL_law_864 rfl (lv_at hl 0 rfl) ?_
  refine lv_iconst (v := 3) hx hb dL_law_865 (by decide) ?_
  refine lv_iadd hx hb dL_law_866 ?_
  refine va_sld hx hb hXs hbl (A := AA E) hbA hW.2.2.1 hv.2.2.1 dL_law_867 ?_
  refine lv_aload_n hx hb dL_law_868 rfl (lv_at hl 1 rfl) ?_
  refine lv_iload_n hx hb dL_law_869 rfl (lv_at hl 0 rfl) ?_
  refine lv_iconst (v := 4) hx hb dL_law_870 (by decide) ?_
  refine lv_iadd hx hb dL_law_871 ?_
  refine va_sld hx hb hXs hbl (A := AA E) hbA hW.2.2.1 hv.2.2.2.1 dL_law_872 ?_
  refine lv_aload_n hx hb dL_law_873 rfl (lv_at hl 1 rfl) ?_
  refine lv_iload_n hx hb dL_law_874 rfl (lv_at hl 0 rfl) ?_
  refine lv_iconst (v := 5) hx hb dL_law_875 (by decide) ?_
  refine lv_iadd hx hb dL_law_876 ?_
  refine va_sld hx hb hXs hbl (A := AA E) hbA hW.2.2.1 hv.2.2.2.2.1 dL_law_877 ?_
  refine lv_aload_n hx hb dL_law_878 rfl (lv_at hl 1 rfl) ?_
  refine lv_iload_n hx hb dL_law_879 rfl (lv_at hl 0 rfl) ?_
  refine lv_bipush (v := 6) hx hb dL_law_880 (by decide) ?_
  refine lv_iadd hx hb dL_law_882 ?_
  refine va_sld hx hb hXs hbl (A := AA E) hbA hW.2.2.1 hv.2.2.2.2.2.1 dL_law_883 ?_
  refine af_ig hW (rn_Vg X hW (As := [.int (xs (Int32.toNatClampNeg (x3 + 1))), .int (xs (Int32.toNatClampNeg (x3 + 2))), .int (xs (Int32.toNatClampNeg (x3 + 3))), .int (xs (Int32.toNatClampNeg (x3 + 4))), .int (xs (Int32.toNatClampNeg (x3 + 5))), .int (xs (Int32.toNatClampNeg (x3 + 6)))]) (rest := [.int r1]) (okS hW sc17_0) rfl rfl (kX12_who h) mbX12_who tw1126 tw1127 tw1128 rfl hl.1 (Nat.le_of_ble_eq_true rfl) ⟨(Nat.le_of_ble_eq_true rfl), (Nat.le_of_ble_eq_true rfl)⟩ ⟨by show cells + 0 ≤ 662955; omega, by show slots + 0 ≤ 7113384; omega⟩ dL_law_884) (fun r2 I2 J2 H locs h hW => ?_)
  refine lv_icmp_eq (tgt := 1497) hx hb dL_law_887 (by decide) (fun _ => ?_) (fun c9 => absurd h.1 c9)
  refine W.widen (k := cells + 3) (n := slots + 19) (by omega) (by omega) ?_
  exact K E _ _ H locs ⟨rfl, rfl, rfl⟩ hex ⟨rfl, rfl⟩ h.2 hW

set_option maxHeartbeats 4000000 in
set_option maxRecDepth 100000 in
theorem law19 {p : Program} {l : Launch} {e : Env} {s : State} {m : MethodId} {below : List Frame} {meth : Method} {c : Code} {b L : Nat} {xs : Nat → Int32} {E : WE} {I : MI} {J : MJ} {H : Heap} {locs : List Loc} {ls : Array Slot} {cells slots : Nat} {Q : State → Prop} {x3 : Int32} {Inv : GS → MI → MJ → Prop} (hop : op19 Inv) (X : Cx E code 4 RL ret p s m #[Value.ref b] c meth) (hNN : wN E = s.heap.size) (hXs : va_X b L xs s s.heap) (hbl : b < s.heap.size) (hv : vp_in (x3 + 1) L ∧ vp_in (x3 + 2) L ∧ vp_in (x3 + 3) L ∧ vp_in (x3 + 4) L ∧ vp_in (x3 + 5) L ∧ vp_in (x3 + 6) L ∧ vp_in (x3 + 7) L) (hex : exC E) (hI : Inv (wg E) I J) (hW : Wd E I J s H locs) (hl : lv_has ls 4 [(3, .int x3), (0, .ref b), (1, .ref (wa E 0 0)), (2, .ref (wa E 17 0))]) (hc : cells + 3 ≤ 662955) (hs : slots + 19 ≤ 7113384)
    (K : ∀ (E' : WE) (I' : MI) (J' : MJ) (H' : Heap) (locs' : List Loc), bsE E E' → exC E' → awE E E' → Inv (wg E') I' J' → Wd E' I' J' s H' locs' → W p l e room_1 s m #[Value.ref b] below meth c H' locs' (cells + 3) (slots + 19) Q (F0 m 1497 ls [])) : W p l e room_1 s m #[Value.ref b] below meth c H locs cells slots Q (F0 m 892 ls []) := by
  have hx := X.1.1
  have hb := X.1.2.1
  have hbA : ¬ AA E b := by show ¬ wN E ≤ b; omega
  by_cases z6 : (xs (Int32.toNatClampNeg (x3 + 6))) = 0
  · have h := hop (wg E) I J (xs (Int32.toNatClampNeg (x3 + 1))) (xs (Int32.toNatClampNeg (x3 + 2))) (xs (Int32.toNatClampNeg (x3 + 3))) (xs (Int32.toNatClampNeg (x3 + 4))) (xs (Int32.toNatClampNeg (x3 + 5))) 0 (xs (Int32.toNatClampNeg (x3 + 7))) isB0 hI
    refine lv_aload_n hx hb dL_law_892 rfl (lv_at hl 2 rfl) ?_
    refine lv_aload_n hx hb dL_law_893 rfl (lv_at hl 1 rfl) ?_
    refine lv_iload_n hx hb dL_law_894 rfl (lv_at hl 0 rfl) ?_
    refine lv_iconst (v := 1) hx hb dL_law_895 (by decide) ?_
    refine lv_iadd hx hb dL_law_896 ?_
    refine va_sld hx hb hXs hbl (A := AA E) hbA hW.2.2.1 hv.1 dL_law_897 ?_
    refine lv_aload_n hx hb dL_law_898 rfl (lv_at hl 1 rfl) ?_
    refine lv_iload_n hx hb dL_law_899 rfl (lv_at hl 0 rfl) ?_
    refine lv_iconst (v := 2) hx hb dL_law_900 (by decide) ?_
    refine lv_iadd hx hb dL_law_901 ?_
    refine va_sld hx hb hXs hbl (A := AA E) hbA hW.2.2.1 hv.2.1 dL_law_902 ?_
    refine lv_aload_n hx hb dL_law_903 rfl (lv_at hl 1 rfl) ?_
    refine lv_iload_n hx hb dL_law_904 rfl (lv_at hl 0 rfl) ?_
    refine lv_iconst (v := 3) hx hb dL_law_905 (by decide) ?_
    refine lv_iadd hx hb dL_law_906 ?_
    refine va_sld hx hb hXs hbl (A := AA E) hbA hW.2.2.1 hv.2.2.1 dL_law_907 ?_
    refine lv_aload_n hx hb dL_law_908 rfl (lv_at hl 1 rfl) ?_
    refine lv_iload_n hx hb dL_law_909 rfl (lv_at hl 0 rfl) ?_
    refine lv_iconst (v := 4) hx hb dL_law_910 (by decide) ?_
    refine lv_iadd hx hb dL_law_911 ?_
    refine va_sld hx hb hXs hbl (A := AA E) hbA hW.2.2.1 hv.2.2.2.1 dL_law_912 ?_
    refine lv_aload_n hx hb dL_law_913 rfl (lv_at hl 1 rfl) ?_
    refine lv_iload_n hx hb dL_law_914 rfl (lv_at hl 0 rfl) ?_
    refine lv_iconst (v := 5) hx hb dL_law_915 (by decide) ?_
    refine lv_iadd hx hb dL_law_916 ?_
    refine va_sld hx hb hXs hbl (A := AA E) hbA hW.2.2.1 hv.2.2.2.2.1 dL_law_917 ?_
    refine lv_aload_n hx hb dL_law_918 rfl (lv_at hl 1 rfl) ?_
    refine lv_iload_n hx hb dL_law_919 rfl (lv_at hl 0 rfl) ?_
    refine lv_bipush (v := 6) hx hb dL_law_920 (by decide) ?_
    refine lv_iadd hx hb dL_law_922 ?_
    refine va_sld hx hb hXs hbl (A := AA E) hbA hW.2.2.1 hv.2.2.2.2.2.1 dL_law_923 ?_
    refine lv_if_eq (tgt := 931) hx hb dL_law_924 (by decide) (fun _ => ?_) (fun c9 => absurd z6 c9)
    refine lv_iconst (v := 0) hx hb dL_law_931 (by decide) ?_
    refine lv_aload_n hx hb dL_law_932 rfl (lv_at hl 1 rfl) ?_
    refine lv_iload_n hx hb dL_law_933 rfl (lv_at hl 0 rfl) ?_
    refine lv_bipush (v := 7) hx hb dL_law_934 (by decide) ?_
    refine lv_iadd hx hb dL_law_936 ?_
    refine va_sld hx hb hXs hbl (A := AA E) hbA hW.2.2.1 hv.2.2.2.2.2.2 dL_law_937 ?_
    refine af_ig hW (rn_Vg X hW (As := [.int (xs (Int32.toNatClampNeg (x3 + 1))), .int (xs (Int32.toNatClampNeg (x3 + 2))), .int (xs (Int32.toNatClampNeg (x3 + 3))), .int (xs (Int32.toNatClampNeg (x3 + 4))), .int (xs (Int32.toNatClampNeg (x3 + 5))), .int 0, .int (xs (Int32.toNatClampNeg (x3 + 7)))]) (rest := []) (okS hW sc0_0) rfl rfl (kX11_heard h) mbX11_heard tw634 tw635 tw636 rfl hl.1 (Nat.le_of_ble_eq_true rfl) ⟨(Nat.le_of_ble_eq_true rfl), (Nat.le_of_ble_eq_true rfl)⟩ ⟨by show cells + 0 ≤ 662955; omega, by show slots + 0 ≤ 7113384; omega⟩ dL_law_938) (fun r1 I1 J1 H locs h hW => ?_)
    refine lv_aload_n hx hb dL_law_941 rfl (lv_at hl 3 rfl) ?_
    refine lv_aload_n hx hb dL_law_942 rfl (lv_at hl 1 rfl) ?_
    refine lv_iload_n hx hb dL_law_943 rfl (lv_at hl 0 rfl) ?_
    refine lv_iconst (v := 1) hx hb dL_law_944 (by decide) ?_
    refine lv_iadd hx hb dL_law_945 ?_
    refine va_sld hx hb hXs hbl (A := AA E) hbA hW.2.2.1 hv.1 dL_law_946 ?_
    refine lv_aload_n hx hb dL_law_947 rfl (lv_at hl 1 rfl) ?_
    refine lv_iload_n hx hb dL_law_948 rfl (lv_at hl 0 rfl) ?_
    refine lv_iconst (v := 2) hx hb dL_law_949 (by decide) ?_
    refine lv_iadd hx hb dL_law_950 ?_
    refine va_sld hx hb hXs hbl (A := AA E) hbA hW.2.2.1 hv.2.1 dL_law_951 ?_
    refine lv_aload_n hx hb dL_law_952 rfl (lv_at hl 1 rfl) ?_
    refine lv_iload_n hx hb dL_law_953 rfl (lv_at hl 0 rfl) ?_
    refine lv_iconst (v := 3) hx hb dL_law_954 (by decide) ?_
    refine lv_iadd hx hb dL_law_955 ?_
    refine va_sld hx hb hXs hbl (A := AA E) hbA hW.2.2.1 hv.2.2.1 dL_law_956 ?_
    refine lv_aload_n hx hb dL_law_957 rfl (lv_at hl 1 rfl) ?_
    refine lv_iload_n hx hb dL_law_958 rfl (lv_at hl 0 rfl) ?_
    refine lv_iconst (v := 4) hx hb dL_law_959 (by decide) ?_
    refine lv_iadd hx hb dL_law_960 ?_
    refine va_sld hx hb hXs hbl (A := AA E) hbA hW.2.2.1 hv.2.2.2.1 dL_law_961 ?_
    refine lv_aload_n hx hb dL_law_962 rfl (lv_at hl 1 rfl) ?_
    refine lv_iload_n hx hb dL_law_963 rfl (lv_at hl 0 rfl) ?_
    refine lv_iconst (v := 5) hx hb dL_law_964 (by decide) ?_
    refine lv_iadd hx hb dL_law_965 ?_
    refine va_sld hx hb hXs hbl (A := AA E) hbA hW.2.2.1 hv.2.2.2.2.1 dL_law_966 ?_
    refine lv_aload_n hx hb dL_law_967 rfl (lv_at hl 1 rfl) ?_
    refine lv_iload_n hx hb dL_law_968 rfl (lv_at hl 0 rfl) ?_
    refine lv_bipush (v := 6) hx hb dL_law_969 (by decide) ?_
    refine lv_iadd hx hb dL_law_971 ?_
    refine va_sld hx hb hXs hbl (A := AA E) hbA hW.2.2.1 hv.2.2.2.2.2.1 dL_law_972 ?_
    refine lv_if_eq (tgt := 980) hx hb dL_law_973 (by decide) (fun _ => ?_) (fun c9 => absurd z6 c9)
    refine lv_iconst (v := 0) hx hb dL_law_980 (by decide) ?_
    refine lv_aload_n hx hb dL_law_981 rfl (lv_at hl 1 rfl) ?_
    refine lv_iload_n hx hb dL_law_982 rfl (lv_at hl 0 rfl) ?_
    refine lv_bipush (v := 7) hx hb dL_law_983 (by decide) ?_
    refine lv_iadd hx hb dL_law_985 ?_
    refine va_sld hx hb hXs hbl (A := AA E) hbA hW.2.2.1 hv.2.2.2.2.2.2 dL_law_986 ?_
    refine af_ig hW (rn_Vg X hW (As := [.int (xs (Int32.toNatClampNeg (x3 + 1))), .int (xs (Int32.toNatClampNeg (x3 + 2))), .int (xs (Int32.toNatClampNeg (x3 + 3))), .int (xs (Int32.toNatClampNeg (x3 + 4))), .int (xs (Int32.toNatClampNeg (x3 + 5))), .int 0, .int (xs (Int32.toNatClampNeg (x3 + 7)))]) (rest := [.int r1]) (okS hW sc17_0) rfl rfl (kX12_heard h) mbX12_heard tw1134 tw1135 tw1136 rfl hl.1 (Nat.le_of_ble_eq_true rfl) ⟨(Nat.le_of_ble_eq_true rfl), (Nat.le_of_ble_eq_true rfl)⟩ ⟨by show cells + 0 ≤ 662955; omega, by show slots + 0 ≤ 7113384; omega⟩ dL_law_987) (fun r2 I2 J2 H locs h hW => ?_)
    refine lv_icmp_eq (tgt := 1497) hx hb dL_law_990 (by decide) (fun _ => ?_) (fun c9 => absurd h.1 c9)
    refine W.widen (k := cells + 3) (n := slots + 19) (by omega) (by omega) ?_
    exact K E _ _ H locs ⟨rfl, rfl, rfl⟩ hex ⟨rfl, rfl⟩ h.2 hW
  · have h := hop (wg E) I J (xs (Int32.toNatClampNeg (x3 + 1))) (xs (Int32.toNatClampNeg (x3 + 2))) (xs (Int32.toNatClampNeg (x3 + 3))) (xs (Int32.toNatClampNeg (x3 + 4))) (xs (Int32.toNatClampNeg (x3 + 5))) 1 (xs (Int32.toNatClampNeg (x3 + 7))) isB1 hI
    refine lv_aload_n hx hb dL_law_892 rfl (lv_at hl 2 rfl) ?_
    refine lv_aload_n hx hb dL_law_893 rfl (lv_at hl 1 rfl) ?_
    refine lv_iload_n hx hb dL_law_894 rfl (lv_at hl 0 rfl) ?_
    refine lv_iconst (v := 1) hx hb dL_law_895 (by decide) ?_
    refine lv_iadd hx hb dL_law_896 ?_
    refine va_sld hx hb hXs hbl (A := AA E) hbA hW.2.2.1 hv.1 dL_law_897 ?_
    refine lv_aload_n hx hb dL_law_898 rfl (lv_at hl 1 rfl) ?_
    refine lv_iload_n hx hb dL_law_899 rfl (lv_at hl 0 rfl) ?_
    refine lv_iconst (v := 2) hx hb dL_law_900 (by decide) ?_
    refine lv_iadd hx hb dL_law_901 ?_
    refine va_sld hx hb hXs hbl (A := AA E) hbA hW.2.2.1 hv.2.1 dL_law_902 ?_
    refine lv_aload_n hx hb dL_law_903 rfl (lv_at hl 1 rfl) ?_
    refine lv_iload_n hx hb dL_law_904 rfl (lv_at hl 0 rfl) ?_
    refine lv_iconst (v := 3) hx hb dL_law_905 (by decide) ?_
    refine lv_iadd hx hb dL_law_906 ?_
    refine va_sld hx hb hXs hbl (A := AA E) hbA hW.2.2.1 hv.2.2.1 dL_law_907 ?_
    refine lv_aload_n hx hb dL_law_908 rfl (lv_at hl 1 rfl) ?_
    refine lv_iload_n hx hb dL_law_909 rfl (lv_at hl 0 rfl) ?_
    refine lv_iconst (v := 4) hx hb dL_law_910 (by decide) ?_
    refine lv_iadd hx hb dL_law_911 ?_
    refine va_sld hx hb hXs hbl (A := AA E) hbA hW.2.2.1 hv.2.2.2.1 dL_law_912 ?_
    refine lv_aload_n hx hb dL_law_913 rfl (lv_at hl 1 rfl) ?_
    refine lv_iload_n hx hb dL_law_914 rfl (lv_at hl 0 rfl) ?_
    refine lv_iconst (v := 5) hx hb dL_law_915 (by decide) ?_
    refine lv_iadd hx hb dL_law_916 ?_
    refine va_sld hx hb hXs hbl (A := AA E) hbA hW.2.2.1 hv.2.2.2.2.1 dL_law_917 ?_
    refine lv_aload_n hx hb dL_law_918 rfl (lv_at hl 1 rfl) ?_
    refine lv_iload_n hx hb dL_law_919 rfl (lv_at hl 0 rfl) ?_
    refine lv_bipush (v := 6) hx hb dL_law_920 (by decide) ?_
    refine lv_iadd hx hb dL_law_922 ?_
    refine va_sld hx hb hXs hbl (A := AA E) hbA hW.2.2.1 hv.2.2.2.2.2.1 dL_law_923 ?_
    refine lv_if_eq (tgt := 931) hx hb dL_law_924 (by decide) (fun c9 => absurd c9 z6) (fun _ => ?_)
    refine lv_iconst (v := 1) hx hb dL_law_927 (by decide) ?_
    refine lv_goto (tgt := 932) hx hb dL_law_928 (by decide) ?_
    refine lv_aload_n hx hb dL_law_932 rfl (lv_at hl 1 rfl) ?_
    refine lv_iload_n hx hb dL_law_933 rfl (lv_at hl 0 rfl) ?_
    refine lv_bipush (v := 7) hx hb dL_law_934 (by decide) ?_
    refine lv_iadd hx hb dL_law_936 ?_
    refine va_sld hx hb hXs hbl (A := AA E) hbA hW.2.2.1 hv.2.2.2.2.2.2 dL_law_937 ?_
    refine af_ig hW (rn_Vg X hW (As := [.int (xs (Int32.toNatClampNeg (x3 + 1))), .int (xs (Int32.toNatClampNeg (x3 + 2))), .int (xs (Int32.toNatClampNeg (x3 + 3))), .int (xs (Int32.toNatClampNeg (x3 + 4))), .int (xs (Int32.toNatClampNeg (x3 + 5))), .int 1, .int (xs (Int32.toNatClampNeg (x3 + 7)))]) (rest := []) (okS hW sc0_0) rfl rfl (kX11_heard h) mbX11_heard tw634 tw635 tw636 rfl hl.1 (Nat.le_of_ble_eq_true rfl) ⟨(Nat.le_of_ble_eq_true rfl), (Nat.le_of_ble_eq_true rfl)⟩ ⟨by show cells + 0 ≤ 662955; omega, by show slots + 0 ≤ 7113384; omega⟩ dL_law_938) (fun r1 I1 J1 H locs h hW => ?_)
    refine lv_aload_n hx hb dL_law_941 rfl (lv_at hl 3 rfl) ?_
    refine lv_aload_n hx hb dL_law_942 rfl (lv_at hl 1 rfl) ?_
    refine lv_iload_n hx hb dL_law_943 rfl (lv_at hl 0 rfl) ?_
    refine lv_iconst (v := 1) hx hb dL_law_944 (by decide) ?_
    refine lv_iadd hx hb dL_law_945 ?_
    refine va_sld hx hb hXs hbl (A := AA E) hbA hW.2.2.1 hv.1 dL_law_946 ?_
    refine lv_aload_n hx hb dL_law_947 rfl (lv_at hl 1 rfl) ?_
    refine lv_iload_n hx hb dL_law_948 rfl (lv_at hl 0 rfl) ?_
    refine lv_iconst (v := 2) hx hb dL_law_949 (by decide) ?_
    refine lv_iadd hx hb dL_law_950 ?_
    refine va_sld hx hb hXs hbl (A := AA E) hbA hW.2.2.1 hv.2.1 dL_law_951 ?_
    refine lv_aload_n hx hb dL_law_952 rfl (lv_at hl 1 rfl) ?_
    refine lv_iload_n hx hb dL_law_953 rfl (lv_at hl 0 rfl) ?_
    refine lv_iconst (v := 3) hx hb dL_law_954 (by decide) ?_
    refine lv_iadd hx hb dL_law_955 ?_
    refine va_sld hx hb hXs hbl (A := AA E) hbA hW.2.2.1 hv.2.2.1 dL_law_956 ?_
    refine lv_aload_n hx hb dL_law_957 rfl (lv_at hl 1 rfl) ?_
    refine lv_iload_n hx hb dL_law_958 rfl (lv_at hl 0 rfl) ?_
    refine lv_iconst (v := 4) hx hb dL_law_959 (by decide) ?_
    refine lv_iadd hx hb dL_law_960 ?_
    refine va_sld hx hb hXs hbl (A := AA E) hbA hW.2.2.1 hv.2.2.2.1 dL_law_961 ?_
    refine lv_aload_n hx hb dL_law_962 rfl (lv_at hl 1 rfl) ?_
    refine lv_iload_n hx hb dL_law_963 rfl (lv_at hl 0 rfl) ?_
    refine lv_iconst (v := 5) hx hb dL_law_964 (by decide) ?_
    refine lv_iadd hx hb dL_law_965 ?_
    refine va_sld hx hb hXs hbl (A := AA E) hbA hW.2.2.1 hv.2.2.2.2.1 dL_law_966 ?_
    refine lv_aload_n hx hb dL_law_967 rfl (lv_at hl 1 rfl) ?_
    refine lv_iload_n hx hb dL_law_968 rfl (lv_at hl 0 rfl) ?_
    refine lv_bipush (v := 6) hx hb dL_law_969 (by decide) ?_
    refine lv_iadd hx hb dL_law_971 ?_
    refine va_sld hx hb hXs hbl (A := AA E) hbA hW.2.2.1 hv.2.2.2.2.2.1 dL_law_972 ?_
    refine lv_if_eq (tgt := 980) hx hb dL_law_973 (by decide) (fun c9 => absurd c9 z6) (fun _ => ?_)
    refine lv_iconst (v := 1) hx hb dL_law_976 (by decide) ?_
    refine lv_goto (tgt := 981) hx hb dL_law_977 (by decide) ?_
    refine lv_aload_n hx hb dL_law_981 rfl (lv_at hl 1 rfl) ?_
    refine lv_iload_n hx hb dL_law_982 rfl (lv_at hl 0 rfl) ?_
    refine lv_bipush (v := 7) hx hb dL_law_983 (by decide) ?_
    refine lv_iadd hx hb dL_law_985 ?_
    refine va_sld hx hb hXs hbl (A := AA E) hbA hW.2.2.1 hv.2.2.2.2.2.2 dL_law_986 ?_
    refine af_ig hW (rn_Vg X hW (As := [.int (xs (Int32.toNatClampNeg (x3 + 1))), .int (xs (Int32.toNatClampNeg (x3 + 2))), .int (xs (Int32.toNatClampNeg (x3 + 3))), .int (xs (Int32.toNatClampNeg (x3 + 4))), .int (xs (Int32.toNatClampNeg (x3 + 5))), .int 1, .int (xs (Int32.toNatClampNeg (x3 + 7)))]) (rest := [.int r1]) (okS hW sc17_0) rfl rfl (kX12_heard h) mbX12_heard tw1134 tw1135 tw1136 rfl hl.1 (Nat.le_of_ble_eq_true rfl) ⟨(Nat.le_of_ble_eq_true rfl), (Nat.le_of_ble_eq_true rfl)⟩ ⟨by show cells + 0 ≤ 662955; omega, by show slots + 0 ≤ 7113384; omega⟩ dL_law_987) (fun r2 I2 J2 H locs h hW => ?_)
    refine lv_icmp_eq (tgt := 1497) hx hb dL_law_990 (by decide) (fun _ => ?_) (fun c9 => absurd h.1 c9)
    refine W.widen (k := cells + 3) (n := slots + 19) (by omega) (by omega) ?_
    exact K E _ _ H locs ⟨rfl, rfl, rfl⟩ hex ⟨rfl, rfl⟩ h.2 hW

set_option maxHeartbeats 4000000 in
set_option maxRecDepth 100000 in
theorem law20 {p : Program} {l : Launch} {e : Env} {s : State} {m : MethodId} {below : List Frame} {meth : Method} {c : Code} {b L : Nat} {xs : Nat → Int32} {E : WE} {I : MI} {J : MJ} {H : Heap} {locs : List Loc} {ls : Array Slot} {cells slots : Nat} {Q : State → Prop} {x3 : Int32} {Inv : GS → MI → MJ → Prop} (hop : op20 Inv) (X : Cx E code 4 RL ret p s m #[Value.ref b] c meth) (hNN : wN E = s.heap.size) (hXs : va_X b L xs s s.heap) (hbl : b < s.heap.size) (hv : vp_in (x3 + 1) L ∧ vp_in (x3 + 2) L ∧ vp_in (x3 + 3) L ∧ vp_in (x3 + 4) L ∧ vp_in (x3 + 5) L ∧ vp_in (x3 + 6) L ∧ vp_in (x3 + 7) L) (hex : exC E) (hI : Inv (wg E) I J) (hW : Wd E I J s H locs) (hl : lv_has ls 4 [(3, .int x3), (0, .ref b), (1, .ref (wa E 0 0)), (2, .ref (wa E 17 0))]) (hc : cells + 3 ≤ 662955) (hs : slots + 19 ≤ 7113384)
    (K : ∀ (E' : WE) (I' : MI) (J' : MJ) (H' : Heap) (locs' : List Loc), bsE E E' → exC E' → awE E E' → Inv (wg E') I' J' → Wd E' I' J' s H' locs' → W p l e room_1 s m #[Value.ref b] below meth c H' locs' (cells + 3) (slots + 19) Q (F0 m 1497 ls [])) : W p l e room_1 s m #[Value.ref b] below meth c H locs cells slots Q (F0 m 995 ls []) := by
  have hx := X.1.1
  have hb := X.1.2.1
  have hbA : ¬ AA E b := by show ¬ wN E ≤ b; omega
  have h := hop (wg E) I J (xs (Int32.toNatClampNeg (x3 + 1))) (xs (Int32.toNatClampNeg (x3 + 2))) (xs (Int32.toNatClampNeg (x3 + 3))) hI
  refine lv_aload_n hx hb dL_law_995 rfl (lv_at hl 2 rfl) ?_
  refine lv_aload_n hx hb dL_law_996 rfl (lv_at hl 1 rfl) ?_
  refine lv_iload_n hx hb dL_law_997 rfl (lv_at hl 0 rfl) ?_
  refine lv_iconst (v := 1) hx hb dL_law_998 (by decide) ?_
  refine lv_iadd hx hb dL_law_999 ?_
  refine va_sld hx hb hXs hbl (A := AA E) hbA hW.2.2.1 hv.1 dL_law_1000 ?_
  refine lv_aload_n hx hb dL_law_1001 rfl (lv_at hl 1 rfl) ?_
  refine lv_iload_n hx hb dL_law_1002 rfl (lv_at hl 0 rfl) ?_
  refine lv_iconst (v := 2) hx hb dL_law_1003 (by decide) ?_
  refine lv_iadd hx hb dL_law_1004 ?_
  refine va_sld hx hb hXs hbl (A := AA E) hbA hW.2.2.1 hv.2.1 dL_law_1005 ?_
  refine lv_aload_n hx hb dL_law_1006 rfl (lv_at hl 1 rfl) ?_
  refine lv_iload_n hx hb dL_law_1007 rfl (lv_at hl 0 rfl) ?_
  refine lv_iconst (v := 3) hx hb dL_law_1008 (by decide) ?_
  refine lv_iadd hx hb dL_law_1009 ?_
  refine va_sld hx hb hXs hbl (A := AA E) hbA hW.2.2.1 hv.2.2.1 dL_law_1010 ?_
  refine af_ig hW (rn_Vg X hW (As := [.int (xs (Int32.toNatClampNeg (x3 + 1))), .int (xs (Int32.toNatClampNeg (x3 + 2))), .int (xs (Int32.toNatClampNeg (x3 + 3)))]) (rest := []) (okS hW sc0_0) rfl rfl (kX11_sway h) mbX11_sway tw638 tw639 tw640 rfl hl.1 (Nat.le_of_ble_eq_true rfl) ⟨(Nat.le_of_ble_eq_true rfl), (Nat.le_of_ble_eq_true rfl)⟩ ⟨by show cells + 0 ≤ 662955; omega, by show slots + 0 ≤ 7113384; omega⟩ dL_law_1011) (fun r1 I1 J1 H locs h hW => ?_)
  refine lv_aload_n hx hb dL_law_1014 rfl (lv_at hl 3 rfl) ?_
  refine lv_aload_n hx hb dL_law_1015 rfl (lv_at hl 1 rfl) ?_
  refine lv_iload_n hx hb dL_law_1016 rfl (lv_at hl 0 rfl) ?_
  refine lv_iconst (v := 1) hx hb dL_law_1017 (by decide) ?_
  refine lv_iadd hx hb dL_law_1018 ?_
  refine va_sld hx hb hXs hbl (A := AA E) hbA hW.2.2.1 hv.1 dL_law_1019 ?_
  refine lv_aload_n hx hb dL_law_1020 rfl (lv_at hl 1 rfl) ?_
  refine lv_iload_n hx hb dL_law_1021 rfl (lv_at hl 0 rfl) ?_
  refine lv_iconst (v := 2) hx hb dL_law_1022 (by decide) ?_
  refine lv_iadd hx hb dL_law_1023 ?_
  refine va_sld hx hb hXs hbl (A := AA E) hbA hW.2.2.1 hv.2.1 dL_law_1024 ?_
  refine lv_aload_n hx hb dL_law_1025 rfl (lv_at hl 1 rfl) ?_
  refine lv_iload_n hx hb dL_law_1026 rfl (lv_at hl 0 rfl) ?_
  refine lv_iconst (v := 3) hx hb dL_law_1027 (by decide) ?_
  refine lv_iadd hx hb dL_law_1028 ?_
  refine va_sld hx hb hXs hbl (A := AA E) hbA hW.2.2.1 hv.2.2.1 dL_law_1029 ?_
  refine af_ig hW (rn_Vg X hW (As := [.int (xs (Int32.toNatClampNeg (x3 + 1))), .int (xs (Int32.toNatClampNeg (x3 + 2))), .int (xs (Int32.toNatClampNeg (x3 + 3)))]) (rest := [.int r1]) (okS hW sc17_0) rfl rfl (kX12_sway h) mbX12_sway tw1138 tw1139 tw1140 rfl hl.1 (Nat.le_of_ble_eq_true rfl) ⟨(Nat.le_of_ble_eq_true rfl), (Nat.le_of_ble_eq_true rfl)⟩ ⟨by show cells + 0 ≤ 662955; omega, by show slots + 0 ≤ 7113384; omega⟩ dL_law_1030) (fun r2 I2 J2 H locs h hW => ?_)
  refine lv_icmp_eq (tgt := 1497) hx hb dL_law_1033 (by decide) (fun _ => ?_) (fun c9 => absurd h.1 c9)
  refine W.widen (k := cells + 3) (n := slots + 19) (by omega) (by omega) ?_
  exact K E _ _ H locs ⟨rfl, rfl, rfl⟩ hex ⟨rfl, rfl⟩ h.2 hW

set_option maxHeartbeats 4000000 in
set_option maxRecDepth 100000 in
theorem law21 {p : Program} {l : Launch} {e : Env} {s : State} {m : MethodId} {below : List Frame} {meth : Method} {c : Code} {b L : Nat} {xs : Nat → Int32} {E : WE} {I : MI} {J : MJ} {H : Heap} {locs : List Loc} {ls : Array Slot} {cells slots : Nat} {Q : State → Prop} {x3 : Int32} {Inv : GS → MI → MJ → Prop} (hop : op21 Inv) (X : Cx E code 4 RL ret p s m #[Value.ref b] c meth) (hNN : wN E = s.heap.size) (hXs : va_X b L xs s s.heap) (hbl : b < s.heap.size) (hv : vp_in (x3 + 1) L ∧ vp_in (x3 + 2) L ∧ vp_in (x3 + 3) L ∧ vp_in (x3 + 4) L ∧ vp_in (x3 + 5) L ∧ vp_in (x3 + 6) L ∧ vp_in (x3 + 7) L) (hex : exC E) (hI : Inv (wg E) I J) (hW : Wd E I J s H locs) (hl : lv_has ls 4 [(3, .int x3), (0, .ref b), (1, .ref (wa E 0 0)), (2, .ref (wa E 17 0))]) (hc : cells + 3 ≤ 662955) (hs : slots + 19 ≤ 7113384)
    (K : ∀ (E' : WE) (I' : MI) (J' : MJ) (H' : Heap) (locs' : List Loc), bsE E E' → exC E' → awE E E' → Inv (wg E') I' J' → Wd E' I' J' s H' locs' → W p l e room_1 s m #[Value.ref b] below meth c H' locs' (cells + 3) (slots + 19) Q (F0 m 1497 ls [])) : W p l e room_1 s m #[Value.ref b] below meth c H locs cells slots Q (F0 m 1038 ls []) := by
  have hx := X.1.1
  have hb := X.1.2.1
  have hbA : ¬ AA E b := by show ¬ wN E ≤ b; omega
  have h := hop (wg E) I J (xs (Int32.toNatClampNeg (x3 + 1))) (xs (Int32.toNatClampNeg (x3 + 2))) (xs (Int32.toNatClampNeg (x3 + 3))) hI
  refine lv_aload_n hx hb dL_law_1038 rfl (lv_at hl 2 rfl) ?_
  refine lv_aload_n hx hb dL_law_1039 rfl (lv_at hl 1 rfl) ?_
  refine lv_iload_n hx hb dL_law_1040 rfl (lv_at hl 0 rfl) ?_
  refine lv_iconst (v := 1) hx hb dL_law_1041 (by decide) ?_
  refine lv_iadd hx hb dL_law_1042 ?_
  refine va_sld hx hb hXs hbl (A := AA E) hbA hW.2.2.1 hv.1 dL_law_1043 ?_
  refine lv_aload_n hx hb dL_law_1044 rfl (lv_at hl 1 rfl) ?_
  refine lv_iload_n hx hb dL_law_1045 rfl (lv_at hl 0 rfl) ?_
  refine lv_iconst (v := 2) hx hb dL_law_1046 (by decide) ?_
  refine lv_iadd hx hb dL_law_1047 ?_
  refine va_sld hx hb hXs hbl (A := AA E) hbA hW.2.2.1 hv.2.1 dL_law_1048 ?_
  refine lv_aload_n hx hb dL_law_1049 rfl (lv_at hl 1 rfl) ?_
  refine lv_iload_n hx hb dL_law_1050 rfl (lv_at hl 0 rfl) ?_
  refine lv_iconst (v := 3) hx hb dL_law_1051 (by decide) ?_
  refine lv_iadd hx hb dL_law_1052 ?_
  refine va_sld hx hb hXs hbl (A := AA E) hbA hW.2.2.1 hv.2.2.1 dL_law_1053 ?_
  refine af_ig hW (rn_Vg X hW (As := [.int (xs (Int32.toNatClampNeg (x3 + 1))), .int (xs (Int32.toNatClampNeg (x3 + 2))), .int (xs (Int32.toNatClampNeg (x3 + 3)))]) (rest := []) (okS hW sc0_0) rfl rfl (kX11_word h) mbX11_word tw646 tw647 tw648 rfl hl.1 (Nat.le_of_ble_eq_true rfl) ⟨(Nat.le_of_ble_eq_true rfl), (Nat.le_of_ble_eq_true rfl)⟩ ⟨by show cells + 0 ≤ 662955; omega, by show slots + 0 ≤ 7113384; omega⟩ dL_law_1054) (fun r1 I1 J1 H locs h hW => ?_)
  refine lv_aload_n hx hb dL_law_1057 rfl (lv_at hl 3 rfl) ?_
  refine lv_aload_n hx hb dL_law_1058 rfl (lv_at hl 1 rfl) ?_
  refine lv_iload_n hx hb dL_law_1059 rfl (lv_at hl 0 rfl) ?_
  refine lv_iconst (v := 1) hx hb dL_law_1060 (by decide) ?_
  refine lv_iadd hx hb dL_law_1061 ?_
  refine va_sld hx hb hXs hbl (A := AA E) hbA hW.2.2.1 hv.1 dL_law_1062 ?_
  refine lv_aload_n hx hb dL_law_1063 rfl (lv_at hl 1 rfl) ?_
  refine lv_iload_n hx hb dL_law_1064 rfl (lv_at hl 0 rfl) ?_
  refine lv_iconst (v := 2) hx hb dL_law_1065 (by decide) ?_
  refine lv_iadd hx hb dL_law_1066 ?_
  refine va_sld hx hb hXs hbl (A := AA E) hbA hW.2.2.1 hv.2.1 dL_law_1067 ?_
  refine lv_aload_n hx hb dL_law_1068 rfl (lv_at hl 1 rfl) ?_
  refine lv_iload_n hx hb dL_law_1069 rfl (lv_at hl 0 rfl) ?_
  refine lv_iconst (v := 3) hx hb dL_law_1070 (by decide) ?_
  refine lv_iadd hx hb dL_law_1071 ?_
  refine va_sld hx hb hXs hbl (A := AA E) hbA hW.2.2.1 hv.2.2.1 dL_law_1072 ?_
  refine af_ig hW (rn_Vg X hW (As := [.int (xs (Int32.toNatClampNeg (x3 + 1))), .int (xs (Int32.toNatClampNeg (x3 + 2))), .int (xs (Int32.toNatClampNeg (x3 + 3)))]) (rest := [.int r1]) (okS hW sc17_0) rfl rfl (kX12_word h) mbX12_word tw1143 tw1144 tw1145 rfl hl.1 (Nat.le_of_ble_eq_true rfl) ⟨(Nat.le_of_ble_eq_true rfl), (Nat.le_of_ble_eq_true rfl)⟩ ⟨by show cells + 0 ≤ 662955; omega, by show slots + 0 ≤ 7113384; omega⟩ dL_law_1073) (fun r2 I2 J2 H locs h hW => ?_)
  refine lv_icmp_eq (tgt := 1497) hx hb dL_law_1076 (by decide) (fun _ => ?_) (fun c9 => absurd h.1 c9)
  refine W.widen (k := cells + 3) (n := slots + 19) (by omega) (by omega) ?_
  exact K E _ _ H locs ⟨rfl, rfl, rfl⟩ hex ⟨rfl, rfl⟩ h.2 hW

set_option maxHeartbeats 4000000 in
set_option maxRecDepth 100000 in
theorem law22 {p : Program} {l : Launch} {e : Env} {s : State} {m : MethodId} {below : List Frame} {meth : Method} {c : Code} {b L : Nat} {xs : Nat → Int32} {E : WE} {I : MI} {J : MJ} {H : Heap} {locs : List Loc} {ls : Array Slot} {cells slots : Nat} {Q : State → Prop} {x3 : Int32} {Inv : GS → MI → MJ → Prop} (hop : op22 Inv) (X : Cx E code 4 RL ret p s m #[Value.ref b] c meth) (hNN : wN E = s.heap.size) (hXs : va_X b L xs s s.heap) (hbl : b < s.heap.size) (hv : vp_in (x3 + 1) L ∧ vp_in (x3 + 2) L ∧ vp_in (x3 + 3) L ∧ vp_in (x3 + 4) L ∧ vp_in (x3 + 5) L ∧ vp_in (x3 + 6) L ∧ vp_in (x3 + 7) L) (hex : exC E) (hI : Inv (wg E) I J) (hW : Wd E I J s H locs) (hl : lv_has ls 4 [(3, .int x3), (0, .ref b), (1, .ref (wa E 0 0)), (2, .ref (wa E 17 0))]) (hc : cells + 3 ≤ 662955) (hs : slots + 19 ≤ 7113384)
    (K : ∀ (E' : WE) (I' : MI) (J' : MJ) (H' : Heap) (locs' : List Loc), bsE E E' → exC E' → awE E E' → Inv (wg E') I' J' → Wd E' I' J' s H' locs' → W p l e room_1 s m #[Value.ref b] below meth c H' locs' (cells + 3) (slots + 19) Q (F0 m 1497 ls [])) : W p l e room_1 s m #[Value.ref b] below meth c H locs cells slots Q (F0 m 1081 ls []) := by
  have hx := X.1.1
  have hb := X.1.2.1
  have hbA : ¬ AA E b := by show ¬ wN E ≤ b; omega
  have h := hop (wg E) I J (xs (Int32.toNatClampNeg (x3 + 1))) (xs (Int32.toNatClampNeg (x3 + 2))) (xs (Int32.toNatClampNeg (x3 + 3))) (xs (Int32.toNatClampNeg (x3 + 4))) hI
  refine lv_aload_n hx hb dL_law_1081 rfl (lv_at hl 2 rfl) ?_
  refine lv_aload_n hx hb dL_law_1082 rfl (lv_at hl 1 rfl) ?_
  refine lv_iload_n hx hb dL_law_1083 rfl (lv_at hl 0 rfl) ?_
  refine lv_iconst (v := 1) hx hb dL_law_1084 (by decide) ?_
  refine lv_iadd hx hb dL_law_1085 ?_
  refine va_sld hx hb hXs hbl (A := AA E) hbA hW.2.2.1 hv.1 dL_law_1086 ?_
  refine lv_aload_n hx hb dL_law_1087 rfl (lv_at hl 1 rfl) ?_
  refine lv_iload_n hx hb dL_law_1088 rfl (lv_at hl 0 rfl) ?_
  refine lv_iconst (v := 2) hx hb dL_law_1089 (by decide) ?_
  refine lv_iadd hx hb dL_law_1090 ?_
  refine va_sld hx hb hXs hbl (A := AA E) hbA hW.2.2.1 hv.2.1 dL_law_1091 ?_
  refine lv_aload_n hx hb dL_law_1092 rfl (lv_at hl 1 rfl) ?_
  refine lv_iload_n hx hb dL_law_1093 rfl (lv_at hl 0 rfl) ?_
  refine lv_iconst (v := 3) hx hb dL_law_1094 (by decide) ?_
  refine lv_iadd hx hb dL_law_1095 ?_
  refine va_sld hx hb hXs hbl (A := AA E) hbA hW.2.2.1 hv.2.2.1 dL_law_1096 ?_
  refine lv_aload_n hx hb dL_law_1097 rfl (lv_at hl 1 rfl) ?_
  refine lv_iload_n hx hb dL_law_1098 rfl (lv_at hl 0 rfl) ?_
  refine lv_iconst (v := 4) hx hb dL_law_1099 (by decide) ?_
  refine lv_iadd hx hb dL_law_1100 ?_
  refine va_sld hx hb hXs hbl (A := AA E) hbA hW.2.2.1 hv.2.2.2.1 dL_law_1101 ?_
  refine af_lg hW (rn_Vg X hW (As := [.int (xs (Int32.toNatClampNeg (x3 + 1))), .int (xs (Int32.toNatClampNeg (x3 + 2))), .int (xs (Int32.toNatClampNeg (x3 + 3))), .int (xs (Int32.toNatClampNeg (x3 + 4)))]) (rest := []) (okS hW sc0_0) rfl rfl (kX11_seen h) mbX11_seen tw653 tw654 tw655 rfl hl.1 (Nat.le_of_ble_eq_true rfl) ⟨(Nat.le_of_ble_eq_true rfl), (Nat.le_of_ble_eq_true rfl)⟩ ⟨by show cells + 0 ≤ 662955; omega, by show slots + 0 ≤ 7113384; omega⟩ dL_law_1102) (fun r1 I1 J1 H locs h hW => ?_)
  refine lv_aload_n hx hb dL_law_1105 rfl (lv_at hl 3 rfl) ?_
  refine lv_aload_n hx hb dL_law_1106 rfl (lv_at hl 1 rfl) ?_
  refine lv_iload_n hx hb dL_law_1107 rfl (lv_at hl 0 rfl) ?_
  refine lv_iconst (v := 1) hx hb dL_law_1108 (by decide) ?_
  refine lv_iadd hx hb dL_law_1109 ?_
  refine va_sld hx hb hXs hbl (A := AA E) hbA hW.2.2.1 hv.1 dL_law_1110 ?_
  refine lv_aload_n hx hb dL_law_1111 rfl (lv_at hl 1 rfl) ?_
  refine lv_iload_n hx hb dL_law_1112 rfl (lv_at hl 0 rfl) ?_
  refine lv_iconst (v := 2) hx hb dL_law_1113 (by decide) ?_
  refine lv_iadd hx hb dL_law_1114 ?_
  refine va_sld hx hb hXs hbl (A := AA E) hbA hW.2.2.1 hv.2.1 dL_law_1115 ?_
  refine lv_aload_n hx hb dL_law_1116 rfl (lv_at hl 1 rfl) ?_
  refine lv_iload_n hx hb dL_law_1117 rfl (lv_at hl 0 rfl) ?_
  refine lv_iconst (v := 3) hx hb dL_law_1118 (by decide) ?_
  refine lv_iadd hx hb dL_law_1119 ?_
  refine va_sld hx hb hXs hbl (A := AA E) hbA hW.2.2.1 hv.2.2.1 dL_law_1120 ?_
  refine lv_aload_n hx hb dL_law_1121 rfl (lv_at hl 1 rfl) ?_
  refine lv_iload_n hx hb dL_law_1122 rfl (lv_at hl 0 rfl) ?_
  refine lv_iconst (v := 4) hx hb dL_law_1123 (by decide) ?_
  refine lv_iadd hx hb dL_law_1124 ?_
  refine va_sld hx hb hXs hbl (A := AA E) hbA hW.2.2.1 hv.2.2.2.1 dL_law_1125 ?_
  refine af_lg hW (rn_Vg X hW (As := [.int (xs (Int32.toNatClampNeg (x3 + 1))), .int (xs (Int32.toNatClampNeg (x3 + 2))), .int (xs (Int32.toNatClampNeg (x3 + 3))), .int (xs (Int32.toNatClampNeg (x3 + 4)))]) (rest := [.long r1]) (okS hW sc17_0) rfl rfl (kX12_seen h) mbX12_seen tw1151 tw1152 tw1153 rfl hl.1 (Nat.le_of_ble_eq_true rfl) ⟨(Nat.le_of_ble_eq_true rfl), (Nat.le_of_ble_eq_true rfl)⟩ ⟨by show cells + 0 ≤ 662955; omega, by show slots + 0 ≤ 7113384; omega⟩ dL_law_1126) (fun r2 I2 J2 H locs h hW => ?_)
  refine W.lcmp hx hb dL_law_1129 ?_
  refine lv_if_eq (tgt := 1497) hx hb dL_law_1130 (by decide) (fun _ => ?_) (fun c9 => absurd (by rw [h.1]; exact lg_self _) c9)
  refine W.widen (k := cells + 3) (n := slots + 19) (by omega) (by omega) ?_
  exact K E _ _ H locs ⟨rfl, rfl, rfl⟩ hex ⟨rfl, rfl⟩ h.2 hW

set_option maxHeartbeats 4000000 in
set_option maxRecDepth 100000 in
theorem law23 {p : Program} {l : Launch} {e : Env} {s : State} {m : MethodId} {below : List Frame} {meth : Method} {c : Code} {b L : Nat} {xs : Nat → Int32} {E : WE} {I : MI} {J : MJ} {H : Heap} {locs : List Loc} {ls : Array Slot} {cells slots : Nat} {Q : State → Prop} {x3 : Int32} {Inv : GS → MI → MJ → Prop} (hop : op23 Inv) (X : Cx E code 4 RL ret p s m #[Value.ref b] c meth) (hNN : wN E = s.heap.size) (hXs : va_X b L xs s s.heap) (hbl : b < s.heap.size) (hv : vp_in (x3 + 1) L ∧ vp_in (x3 + 2) L ∧ vp_in (x3 + 3) L ∧ vp_in (x3 + 4) L ∧ vp_in (x3 + 5) L ∧ vp_in (x3 + 6) L ∧ vp_in (x3 + 7) L) (hex : exC E) (hI : Inv (wg E) I J) (hW : Wd E I J s H locs) (hl : lv_has ls 4 [(3, .int x3), (0, .ref b), (1, .ref (wa E 0 0)), (2, .ref (wa E 17 0))]) (hc : cells + 3 ≤ 662955) (hs : slots + 19 ≤ 7113384)
    (K : ∀ (E' : WE) (I' : MI) (J' : MJ) (H' : Heap) (locs' : List Loc), bsE E E' → exC E' → awE E E' → Inv (wg E') I' J' → Wd E' I' J' s H' locs' → W p l e room_1 s m #[Value.ref b] below meth c H' locs' (cells + 3) (slots + 19) Q (F0 m 1497 ls [])) : W p l e room_1 s m #[Value.ref b] below meth c H locs cells slots Q (F0 m 1135 ls []) := by
  have hx := X.1.1
  have hb := X.1.2.1
  have hbA : ¬ AA E b := by show ¬ wN E ≤ b; omega
  have h := hop (wg E) I J (xs (Int32.toNatClampNeg (x3 + 1))) (xs (Int32.toNatClampNeg (x3 + 2))) (xs (Int32.toNatClampNeg (x3 + 3))) (xs (Int32.toNatClampNeg (x3 + 4))) (xs (Int32.toNatClampNeg (x3 + 5))) hI
  refine lv_aload_n hx hb dL_law_1135 rfl (lv_at hl 2 rfl) ?_
  refine lv_aload_n hx hb dL_law_1136 rfl (lv_at hl 1 rfl) ?_
  refine lv_iload_n hx hb dL_law_1137 rfl (lv_at hl 0 rfl) ?_
  refine lv_iconst (v := 1) hx hb dL_law_1138 (by decide) ?_
  refine lv_iadd hx hb dL_law_1139 ?_
  refine va_sld hx hb hXs hbl (A := AA E) hbA hW.2.2.1 hv.1 dL_law_1140 ?_
  refine lv_aload_n hx hb dL_law_1141 rfl (lv_at hl 1 rfl) ?_
  refine lv_iload_n hx hb dL_law_1142 rfl (lv_at hl 0 rfl) ?_
  refine lv_iconst (v := 2) hx hb dL_law_1143 (by decide) ?_
  refine lv_iadd hx hb dL_law_1144 ?_
  refine va_sld hx hb hXs hbl (A := AA E) hbA hW.2.2.1 hv.2.1 dL_law_1145 ?_
  refine lv_aload_n hx hb dL_law_1146 rfl (lv_at hl 1 rfl) ?_
  refine lv_iload_n hx hb dL_law_1147 rfl (lv_at hl 0 rfl) ?_
  refine lv_iconst (v := 3) hx hb dL_law_1148 (by decide) ?_
  refine lv_iadd hx hb dL_law_1149 ?_
  refine va_sld hx hb hXs hbl (A := AA E) hbA hW.2.2.1 hv.2.2.1 dL_law_1150 ?_
  refine lv_aload_n hx hb dL_law_1151 rfl (lv_at hl 1 rfl) ?_
  refine lv_iload_n hx hb dL_law_1152 rfl (lv_at hl 0 rfl) ?_
  refine lv_iconst (v := 4) hx hb dL_law_1153 (by decide) ?_
  refine lv_iadd hx hb dL_law_1154 ?_
  refine va_sld hx hb hXs hbl (A := AA E) hbA hW.2.2.1 hv.2.2.2.1 dL_law_1155 ?_
  refine lv_aload_n hx hb dL_law_1156 rfl (lv_at hl 1 rfl) ?_
  refine lv_iload_n hx hb dL_law_1157 rfl (lv_at hl 0 rfl) ?_
  refine lv_iconst (v := 5) hx hb dL_law_1158 (by decide) ?_
  refine lv_iadd hx hb dL_law_1159 ?_
  refine va_sld hx hb hXs hbl (A := AA E) hbA hW.2.2.1 hv.2.2.2.2.1 dL_law_1160 ?_
  refine af_ig hW (rn_Vg X hW (As := [.int (xs (Int32.toNatClampNeg (x3 + 1))), .int (xs (Int32.toNatClampNeg (x3 + 2))), .int (xs (Int32.toNatClampNeg (x3 + 3))), .int (xs (Int32.toNatClampNeg (x3 + 4))), .int (xs (Int32.toNatClampNeg (x3 + 5)))]) (rest := []) (okS hW sc0_0) rfl rfl (kX11_evening h) mbX11_evening tw657 tw658 tw659 rfl hl.1 (Nat.le_of_ble_eq_true rfl) ⟨(Nat.le_of_ble_eq_true rfl), (Nat.le_of_ble_eq_true rfl)⟩ ⟨by show cells + 0 ≤ 662955; omega, by show slots + 0 ≤ 7113384; omega⟩ dL_law_1161) (fun r1 I1 J1 H locs h hW => ?_)
  refine lv_aload_n hx hb dL_law_1164 rfl (lv_at hl 3 rfl) ?_
  refine lv_aload_n hx hb dL_law_1165 rfl (lv_at hl 1 rfl) ?_
  refine lv_iload_n hx hb dL_law_1166 rfl (lv_at hl 0 rfl) ?_
  refine lv_iconst (v := 1) hx hb dL_law_1167 (by decide) ?_
  refine lv_iadd hx hb dL_law_1168 ?_
  refine va_sld hx hb hXs hbl (A := AA E) hbA hW.2.2.1 hv.1 dL_law_1169 ?_
  refine lv_aload_n hx hb dL_law_1170 rfl (lv_at hl 1 rfl) ?_
  refine lv_iload_n hx hb dL_law_1171 rfl (lv_at hl 0 rfl) ?_
  refine lv_iconst (v := 2) hx hb dL_law_1172 (by decide) ?_
  refine lv_iadd hx hb dL_law_1173 ?_
  refine va_sld hx hb hXs hbl (A := AA E) hbA hW.2.2.1 hv.2.1 dL_law_1174 ?_
  refine lv_aload_n hx hb dL_law_1175 rfl (lv_at hl 1 rfl) ?_
  refine lv_iload_n hx hb dL_law_1176 rfl (lv_at hl 0 rfl) ?_
  refine lv_iconst (v := 3) hx hb dL_law_1177 (by decide) ?_
  refine lv_iadd hx hb dL_law_1178 ?_
  refine va_sld hx hb hXs hbl (A := AA E) hbA hW.2.2.1 hv.2.2.1 dL_law_1179 ?_
  refine lv_aload_n hx hb dL_law_1180 rfl (lv_at hl 1 rfl) ?_
  refine lv_iload_n hx hb dL_law_1181 rfl (lv_at hl 0 rfl) ?_
  refine lv_iconst (v := 4) hx hb dL_law_1182 (by decide) ?_
  refine lv_iadd hx hb dL_law_1183 ?_
  refine va_sld hx hb hXs hbl (A := AA E) hbA hW.2.2.1 hv.2.2.2.1 dL_law_1184 ?_
  refine lv_aload_n hx hb dL_law_1185 rfl (lv_at hl 1 rfl) ?_
  refine lv_iload_n hx hb dL_law_1186 rfl (lv_at hl 0 rfl) ?_
  refine lv_iconst (v := 5) hx hb dL_law_1187 (by decide) ?_
  refine lv_iadd hx hb dL_law_1188 ?_
  refine va_sld hx hb hXs hbl (A := AA E) hbA hW.2.2.1 hv.2.2.2.2.1 dL_law_1189 ?_
  refine af_ig hW (rn_Vg X hW (As := [.int (xs (Int32.toNatClampNeg (x3 + 1))), .int (xs (Int32.toNatClampNeg (x3 + 2))), .int (xs (Int32.toNatClampNeg (x3 + 3))), .int (xs (Int32.toNatClampNeg (x3 + 4))), .int (xs (Int32.toNatClampNeg (x3 + 5)))]) (rest := [.int r1]) (okS hW sc17_0) rfl rfl (kX12_evening h) mbX12_evening tw1155 tw1156 tw1157 rfl hl.1 (Nat.le_of_ble_eq_true rfl) ⟨(Nat.le_of_ble_eq_true rfl), (Nat.le_of_ble_eq_true rfl)⟩ ⟨by show cells + 0 ≤ 662955; omega, by show slots + 0 ≤ 7113384; omega⟩ dL_law_1190) (fun r2 I2 J2 H locs h hW => ?_)
  refine lv_icmp_eq (tgt := 1497) hx hb dL_law_1193 (by decide) (fun _ => ?_) (fun c9 => absurd h.1 c9)
  refine W.widen (k := cells + 3) (n := slots + 19) (by omega) (by omega) ?_
  exact K E _ _ H locs ⟨rfl, rfl, rfl⟩ hex ⟨rfl, rfl⟩ h.2 hW

set_option maxHeartbeats 4000000 in
set_option maxRecDepth 100000 in
theorem law24 {p : Program} {l : Launch} {e : Env} {s : State} {m : MethodId} {below : List Frame} {meth : Method} {c : Code} {b L : Nat} {xs : Nat → Int32} {E : WE} {I : MI} {J : MJ} {H : Heap} {locs : List Loc} {ls : Array Slot} {cells slots : Nat} {Q : State → Prop} {x3 : Int32} {Inv : GS → MI → MJ → Prop} (hop : op24 Inv) (X : Cx E code 4 RL ret p s m #[Value.ref b] c meth) (hNN : wN E = s.heap.size) (hXs : va_X b L xs s s.heap) (hbl : b < s.heap.size) (hv : vp_in (x3 + 1) L ∧ vp_in (x3 + 2) L ∧ vp_in (x3 + 3) L ∧ vp_in (x3 + 4) L ∧ vp_in (x3 + 5) L ∧ vp_in (x3 + 6) L ∧ vp_in (x3 + 7) L) (hex : exC E) (hI : Inv (wg E) I J) (hW : Wd E I J s H locs) (hl : lv_has ls 4 [(3, .int x3), (0, .ref b), (1, .ref (wa E 0 0)), (2, .ref (wa E 17 0))]) (hc : cells + 3 ≤ 662955) (hs : slots + 19 ≤ 7113384)
    (K : ∀ (E' : WE) (I' : MI) (J' : MJ) (H' : Heap) (locs' : List Loc), bsE E E' → exC E' → awE E E' → Inv (wg E') I' J' → Wd E' I' J' s H' locs' → W p l e room_1 s m #[Value.ref b] below meth c H' locs' (cells + 3) (slots + 19) Q (F0 m 1497 ls [])) : W p l e room_1 s m #[Value.ref b] below meth c H locs cells slots Q (F0 m 1198 ls []) := by
  have hx := X.1.1
  have hb := X.1.2.1
  have hbA : ¬ AA E b := by show ¬ wN E ≤ b; omega
  have h := hop (wg E) I J (xs (Int32.toNatClampNeg (x3 + 1))) (xs (Int32.toNatClampNeg (x3 + 2))) (xs (Int32.toNatClampNeg (x3 + 3))) (xs (Int32.toNatClampNeg (x3 + 4))) (xs (Int32.toNatClampNeg (x3 + 5))) hI
  refine lv_aload_n hx hb dL_law_1198 rfl (lv_at hl 2 rfl) ?_
  refine lv_aload_n hx hb dL_law_1199 rfl (lv_at hl 1 rfl) ?_
  refine lv_iload_n hx hb dL_law_1200 rfl (lv_at hl 0 rfl) ?_
  refine lv_iconst (v := 1) hx hb dL_law_1201 (by decide) ?_
  refine lv_iadd hx hb dL_law_1202 ?_
  refine va_sld hx hb hXs hbl (A := AA E) hbA hW.2.2.1 hv.1 dL_law_1203 ?_
  refine lv_aload_n hx hb dL_law_1204 rfl (lv_at hl 1 rfl) ?_
  refine lv_iload_n hx hb dL_law_1205 rfl (lv_at hl 0 rfl) ?_
  refine lv_iconst (v := 2) hx hb dL_law_1206 (by decide) ?_
  refine lv_iadd hx hb dL_law_1207 ?_
  refine va_sld hx hb hXs hbl (A := AA E) hbA hW.2.2.1 hv.2.1 dL_law_1208 ?_
  refine lv_aload_n hx hb dL_law_1209 rfl (lv_at hl 1 rfl) ?_
  refine lv_iload_n hx hb dL_law_1210 rfl (lv_at hl 0 rfl) ?_
  refine lv_iconst (v := 3) hx hb dL_law_1211 (by decide) ?_
  refine lv_iadd hx hb dL_law_1212 ?_
  refine va_sld hx hb hXs hbl (A := AA E) hbA hW.2.2.1 hv.2.2.1 dL_law_1213 ?_
  refine lv_aload_n hx hb dL_law_1214 rfl (lv_at hl 1 rfl) ?_
  refine lv_iload_n hx hb dL_law_1215 rfl (lv_at hl 0 rfl) ?_
  refine lv_iconst (v := 4) hx hb dL_law_1216 (by decide) ?_
  refine lv_iadd hx hb dL_law_1217 ?_
  refine va_sld hx hb hXs hbl (A := AA E) hbA hW.2.2.1 hv.2.2.2.1 dL_law_1218 ?_
  refine lv_aload_n hx hb dL_law_1219 rfl (lv_at hl 1 rfl) ?_
  refine lv_iload_n hx hb dL_law_1220 rfl (lv_at hl 0 rfl) ?_
  refine lv_iconst (v := 5) hx hb dL_law_1221 (by decide) ?_
  refine lv_iadd hx hb dL_law_1222 ?_
  refine va_sld hx hb hXs hbl (A := AA E) hbA hW.2.2.1 hv.2.2.2.2.1 dL_law_1223 ?_
  refine af_ig hW (rn_Vg X hW (As := [.int (xs (Int32.toNatClampNeg (x3 + 1))), .int (xs (Int32.toNatClampNeg (x3 + 2))), .int (xs (Int32.toNatClampNeg (x3 + 3))), .int (xs (Int32.toNatClampNeg (x3 + 4))), .int (xs (Int32.toNatClampNeg (x3 + 5)))]) (rest := []) (okS hW sc0_0) rfl rfl (kX11_trade h) mbX11_trade tw688 tw689 tw690 rfl hl.1 (Nat.le_of_ble_eq_true rfl) ⟨(Nat.le_of_ble_eq_true rfl), (Nat.le_of_ble_eq_true rfl)⟩ ⟨by show cells + 0 ≤ 662955; omega, by show slots + 0 ≤ 7113384; omega⟩ dL_law_1224) (fun r1 I1 J1 H locs h hW => ?_)
  refine lv_aload_n hx hb dL_law_1227 rfl (lv_at hl 3 rfl) ?_
  refine lv_aload_n hx hb dL_law_1228 rfl (lv_at hl 1 rfl) ?_
  refine lv_iload_n hx hb dL_law_1229 rfl (lv_at hl 0 rfl) ?_
  refine lv_iconst (v := 1) hx hb dL_law_1230 (by decide) ?_
  refine lv_iadd hx hb dL_law_1231 ?_
  refine va_sld hx hb hXs hbl (A := AA E) hbA hW.2.2.1 hv.1 dL_law_1232 ?_
  refine lv_aload_n hx hb dL_law_1233 rfl (lv_at hl 1 rfl) ?_
  refine lv_iload_n hx hb dL_law_1234 rfl (lv_at hl 0 rfl) ?_
  refine lv_iconst (v := 2) hx hb dL_law_1235 (by decide) ?_
  refine lv_iadd hx hb dL_law_1236 ?_
  refine va_sld hx hb hXs hbl (A := AA E) hbA hW.2.2.1 hv.2.1 dL_law_1237 ?_
  refine lv_aload_n hx hb dL_law_1238 rfl (lv_at hl 1 rfl) ?_
  refine lv_iload_n hx hb dL_law_1239 rfl (lv_at hl 0 rfl) ?_
  refine lv_iconst (v := 3) hx hb dL_law_1240 (by decide) ?_
  refine lv_iadd hx hb dL_law_1241 ?_
  refine va_sld hx hb hXs hbl (A := AA E) hbA hW.2.2.1 hv.2.2.1 dL_law_1242 ?_
  refine lv_aload_n hx hb dL_law_1243 rfl (lv_at hl 1 rfl) ?_
  refine lv_iload_n hx hb dL_law_1244 rfl (lv_at hl 0 rfl) ?_
  refine lv_iconst (v := 4) hx hb dL_law_1245 (by decide) ?_
  refine lv_iadd hx hb dL_law_1246 ?_
  refine va_sld hx hb hXs hbl (A := AA E) hbA hW.2.2.1 hv.2.2.2.1 dL_law_1247 ?_
  refine lv_aload_n hx hb dL_law_1248 rfl (lv_at hl 1 rfl) ?_
  refine lv_iload_n hx hb dL_law_1249 rfl (lv_at hl 0 rfl) ?_
  refine lv_iconst (v := 5) hx hb dL_law_1250 (by decide) ?_
  refine lv_iadd hx hb dL_law_1251 ?_
  refine va_sld hx hb hXs hbl (A := AA E) hbA hW.2.2.1 hv.2.2.2.2.1 dL_law_1252 ?_
  refine af_ig hW (rn_Vg X hW (As := [.int (xs (Int32.toNatClampNeg (x3 + 1))), .int (xs (Int32.toNatClampNeg (x3 + 2))), .int (xs (Int32.toNatClampNeg (x3 + 3))), .int (xs (Int32.toNatClampNeg (x3 + 4))), .int (xs (Int32.toNatClampNeg (x3 + 5)))]) (rest := [.int r1]) (okS hW sc17_0) rfl rfl (kX12_trade h) mbX12_trade tw1171 tw1172 tw1173 rfl hl.1 (Nat.le_of_ble_eq_true rfl) ⟨(Nat.le_of_ble_eq_true rfl), (Nat.le_of_ble_eq_true rfl)⟩ ⟨by show cells + 0 ≤ 662955; omega, by show slots + 0 ≤ 7113384; omega⟩ dL_law_1253) (fun r2 I2 J2 H locs h hW => ?_)
  refine lv_icmp_eq (tgt := 1497) hx hb dL_law_1256 (by decide) (fun _ => ?_) (fun c9 => absurd h.1 c9)
  refine W.widen (k := cells + 3) (n := slots + 19) (by omega) (by omega) ?_
  exact K E _ _ H locs ⟨rfl, rfl, rfl⟩ hex ⟨rfl, rfl⟩ h.2 hW

set_option maxHeartbeats 4000000 in
set_option maxRecDepth 100000 in
theorem law25 {p : Program} {l : Launch} {e : Env} {s : State} {m : MethodId} {below : List Frame} {meth : Method} {c : Code} {b L : Nat} {xs : Nat → Int32} {E : WE} {I : MI} {J : MJ} {H : Heap} {locs : List Loc} {ls : Array Slot} {cells slots : Nat} {Q : State → Prop} {x3 : Int32} {Inv : GS → MI → MJ → Prop} (hop : op25 Inv) (X : Cx E code 4 RL ret p s m #[Value.ref b] c meth) (hNN : wN E = s.heap.size) (hXs : va_X b L xs s s.heap) (hbl : b < s.heap.size) (hv : vp_in (x3 + 1) L ∧ vp_in (x3 + 2) L ∧ vp_in (x3 + 3) L ∧ vp_in (x3 + 4) L ∧ vp_in (x3 + 5) L ∧ vp_in (x3 + 6) L ∧ vp_in (x3 + 7) L) (hex : exC E) (hI : Inv (wg E) I J) (hW : Wd E I J s H locs) (hl : lv_has ls 4 [(3, .int x3), (0, .ref b), (1, .ref (wa E 0 0)), (2, .ref (wa E 17 0))]) (hc : cells + 3 ≤ 662955) (hs : slots + 19 ≤ 7113384)
    (K : ∀ (E' : WE) (I' : MI) (J' : MJ) (H' : Heap) (locs' : List Loc), bsE E E' → exC E' → awE E E' → Inv (wg E') I' J' → Wd E' I' J' s H' locs' → W p l e room_1 s m #[Value.ref b] below meth c H' locs' (cells + 3) (slots + 19) Q (F0 m 1497 ls [])) : W p l e room_1 s m #[Value.ref b] below meth c H locs cells slots Q (F0 m 1261 ls []) := by
  have hx := X.1.1
  have hb := X.1.2.1
  have hbA : ¬ AA E b := by show ¬ wN E ≤ b; omega
  have h := hop (wg E) I J (xs (Int32.toNatClampNeg (x3 + 1))) (xs (Int32.toNatClampNeg (x3 + 2))) (xs (Int32.toNatClampNeg (x3 + 3))) hI
  refine lv_aload_n hx hb dL_law_1261 rfl (lv_at hl 2 rfl) ?_
  refine lv_aload_n hx hb dL_law_1262 rfl (lv_at hl 1 rfl) ?_
  refine lv_iload_n hx hb dL_law_1263 rfl (lv_at hl 0 rfl) ?_
  refine lv_iconst (v := 1) hx hb dL_law_1264 (by decide) ?_
  refine lv_iadd hx hb dL_law_1265 ?_
  refine va_sld hx hb hXs hbl (A := AA E) hbA hW.2.2.1 hv.1 dL_law_1266 ?_
  refine lv_aload_n hx hb dL_law_1267 rfl (lv_at hl 1 rfl) ?_
  refine lv_iload_n hx hb dL_law_1268 rfl (lv_at hl 0 rfl) ?_
  refine lv_iconst (v := 2) hx hb dL_law_1269 (by decide) ?_
  refine lv_iadd hx hb dL_law_1270 ?_
  refine va_sld hx hb hXs hbl (A := AA E) hbA hW.2.2.1 hv.2.1 dL_law_1271 ?_
  refine lv_aload_n hx hb dL_law_1272 rfl (lv_at hl 1 rfl) ?_
  refine lv_iload_n hx hb dL_law_1273 rfl (lv_at hl 0 rfl) ?_
  refine lv_iconst (v := 3) hx hb dL_law_1274 (by decide) ?_
  refine lv_iadd hx hb dL_law_1275 ?_
  refine va_sld hx hb hXs hbl (A := AA E) hbA hW.2.2.1 hv.2.2.1 dL_law_1276 ?_
  refine af_ig hW (rn_Vg X hW (As := [.int (xs (Int32.toNatClampNeg (x3 + 1))), .int (xs (Int32.toNatClampNeg (x3 + 2))), .int (xs (Int32.toNatClampNeg (x3 + 3)))]) (rest := []) (okS hW sc0_0) rfl rfl (kX11_veto h) mbX11_veto tw700 tw701 tw702 rfl hl.1 (Nat.le_of_ble_eq_true rfl) ⟨(Nat.le_of_ble_eq_true rfl), (Nat.le_of_ble_eq_true rfl)⟩ ⟨by show cells + 0 ≤ 662955; omega, by show slots + 0 ≤ 7113384; omega⟩ dL_law_1277) (fun r1 I1 J1 H locs h hW => ?_)
  refine lv_aload_n hx hb dL_law_1280 rfl (lv_at hl 3 rfl) ?_
  refine lv_aload_n hx hb dL_law_1281 rfl (lv_at hl 1 rfl) ?_
  refine lv_iload_n hx hb dL_law_1282 rfl (lv_at hl 0 rfl) ?_
  refine lv_iconst (v := 1) hx hb dL_law_1283 (by decide) ?_
  refine lv_iadd hx hb dL_law_1284 ?_
  refine va_sld hx hb hXs hbl (A := AA E) hbA hW.2.2.1 hv.1 dL_law_1285 ?_
  refine lv_aload_n hx hb dL_law_1286 rfl (lv_at hl 1 rfl) ?_
  refine lv_iload_n hx hb dL_law_1287 rfl (lv_at hl 0 rfl) ?_
  refine lv_iconst (v := 2) hx hb dL_law_1288 (by decide) ?_
  refine lv_iadd hx hb dL_law_1289 ?_
  refine va_sld hx hb hXs hbl (A := AA E) hbA hW.2.2.1 hv.2.1 dL_law_1290 ?_
  refine lv_aload_n hx hb dL_law_1291 rfl (lv_at hl 1 rfl) ?_
  refine lv_iload_n hx hb dL_law_1292 rfl (lv_at hl 0 rfl) ?_
  refine lv_iconst (v := 3) hx hb dL_law_1293 (by decide) ?_
  refine lv_iadd hx hb dL_law_1294 ?_
  refine va_sld hx hb hXs hbl (A := AA E) hbA hW.2.2.1 hv.2.2.1 dL_law_1295 ?_
  refine af_ig hW (rn_Vg X hW (As := [.int (xs (Int32.toNatClampNeg (x3 + 1))), .int (xs (Int32.toNatClampNeg (x3 + 2))), .int (xs (Int32.toNatClampNeg (x3 + 3)))]) (rest := [.int r1]) (okS hW sc17_0) rfl rfl (kX12_veto h) mbX12_veto tw1183 tw1184 tw1185 rfl hl.1 (Nat.le_of_ble_eq_true rfl) ⟨(Nat.le_of_ble_eq_true rfl), (Nat.le_of_ble_eq_true rfl)⟩ ⟨by show cells + 0 ≤ 662955; omega, by show slots + 0 ≤ 7113384; omega⟩ dL_law_1296) (fun r2 I2 J2 H locs h hW => ?_)
  refine lv_icmp_eq (tgt := 1497) hx hb dL_law_1299 (by decide) (fun _ => ?_) (fun c9 => absurd h.1 c9)
  refine W.widen (k := cells + 3) (n := slots + 19) (by omega) (by omega) ?_
  exact K E _ _ H locs ⟨rfl, rfl, rfl⟩ hex ⟨rfl, rfl⟩ h.2 hW

set_option maxHeartbeats 4000000 in
set_option maxRecDepth 100000 in
theorem law26 {p : Program} {l : Launch} {e : Env} {s : State} {m : MethodId} {below : List Frame} {meth : Method} {c : Code} {b L : Nat} {xs : Nat → Int32} {E : WE} {I : MI} {J : MJ} {H : Heap} {locs : List Loc} {ls : Array Slot} {cells slots : Nat} {Q : State → Prop} {x3 : Int32} {Inv : GS → MI → MJ → Prop} (hop : op26 Inv) (X : Cx E code 4 RL ret p s m #[Value.ref b] c meth) (hNN : wN E = s.heap.size) (hXs : va_X b L xs s s.heap) (hbl : b < s.heap.size) (hv : vp_in (x3 + 1) L ∧ vp_in (x3 + 2) L ∧ vp_in (x3 + 3) L ∧ vp_in (x3 + 4) L ∧ vp_in (x3 + 5) L ∧ vp_in (x3 + 6) L ∧ vp_in (x3 + 7) L) (hex : exC E) (hI : Inv (wg E) I J) (hW : Wd E I J s H locs) (hl : lv_has ls 4 [(3, .int x3), (0, .ref b), (1, .ref (wa E 0 0)), (2, .ref (wa E 17 0))]) (hc : cells + 3 ≤ 662955) (hs : slots + 19 ≤ 7113384)
    (K : ∀ (E' : WE) (I' : MI) (J' : MJ) (H' : Heap) (locs' : List Loc), bsE E E' → exC E' → awE E E' → Inv (wg E') I' J' → Wd E' I' J' s H' locs' → W p l e room_1 s m #[Value.ref b] below meth c H' locs' (cells + 3) (slots + 19) Q (F0 m 1497 ls [])) : W p l e room_1 s m #[Value.ref b] below meth c H locs cells slots Q (F0 m 1304 ls []) := by
  have hx := X.1.1
  have hb := X.1.2.1
  have hbA : ¬ AA E b := by show ¬ wN E ≤ b; omega
  have h := hop (wg E) I J (xs (Int32.toNatClampNeg (x3 + 1))) (xs (Int32.toNatClampNeg (x3 + 2))) (xs (Int32.toNatClampNeg (x3 + 3))) hI
  refine lv_aload_n hx hb dL_law_1304 rfl (lv_at hl 2 rfl) ?_
  refine lv_aload_n hx hb dL_law_1305 rfl (lv_at hl 1 rfl) ?_
  refine lv_iload_n hx hb dL_law_1306 rfl (lv_at hl 0 rfl) ?_
  refine lv_iconst (v := 1) hx hb dL_law_1307 (by decide) ?_
  refine lv_iadd hx hb dL_law_1308 ?_
  refine va_sld hx hb hXs hbl (A := AA E) hbA hW.2.2.1 hv.1 dL_law_1309 ?_
  refine lv_aload_n hx hb dL_law_1310 rfl (lv_at hl 1 rfl) ?_
  refine lv_iload_n hx hb dL_law_1311 rfl (lv_at hl 0 rfl) ?_
  refine lv_iconst (v := 2) hx hb dL_law_1312 (by decide) ?_
  refine lv_iadd hx hb dL_law_1313 ?_
  refine va_sld hx hb hXs hbl (A := AA E) hbA hW.2.2.1 hv.2.1 dL_law_1314 ?_
  refine lv_aload_n hx hb dL_law_1315 rfl (lv_at hl 1 rfl) ?_
  refine lv_iload_n hx hb dL_law_1316 rfl (lv_at hl 0 rfl) ?_
  refine lv_iconst (v := 3) hx hb dL_law_1317 (by decide) ?_
  refine lv_iadd hx hb dL_law_1318 ?_
  refine va_sld hx hb hXs hbl (A := AA E) hbA hW.2.2.1 hv.2.2.1 dL_law_1319 ?_
  refine af_lg hW (rn_Vg X hW (As := [.int (xs (Int32.toNatClampNeg (x3 + 1))), .int (xs (Int32.toNatClampNeg (x3 + 2))), .int (xs (Int32.toNatClampNeg (x3 + 3)))]) (rest := []) (okS hW sc0_0) rfl rfl (kX11_worth h) mbX11_worth tw713 tw714 tw715 rfl hl.1 (Nat.le_of_ble_eq_true rfl) ⟨(Nat.le_of_ble_eq_true rfl), (Nat.le_of_ble_eq_true rfl)⟩ ⟨by show cells + 0 ≤ 662955; omega, by show slots + 0 ≤ 7113384; omega⟩ dL_law_1320) (fun r1 I1 J1 H locs h hW => ?_)
  refine lv_aload_n hx hb dL_law_1323 rfl (lv_at hl 3 rfl) ?_
  refine lv_aload_n hx hb dL_law_1324 rfl (lv_at hl 1 rfl) ?_
  refine lv_iload_n hx hb dL_law_1325 rfl (lv_at hl 0 rfl) ?_
  refine lv_iconst (v := 1) hx hb dL_law_1326 (by decide) ?_
  refine lv_iadd hx hb dL_law_1327 ?_
  refine va_sld hx hb hXs hbl (A := AA E) hbA hW.2.2.1 hv.1 dL_law_1328 ?_
  refine lv_aload_n hx hb dL_law_1329 rfl (lv_at hl 1 rfl) ?_
  refine lv_iload_n hx hb dL_law_1330 rfl (lv_at hl 0 rfl) ?_
  refine lv_iconst (v := 2) hx hb dL_law_1331 (by decide) ?_
  refine lv_iadd hx hb dL_law_1332 ?_
  refine va_sld hx hb hXs hbl (A := AA E) hbA hW.2.2.1 hv.2.1 dL_law_1333 ?_
  refine lv_aload_n hx hb dL_law_1334 rfl (lv_at hl 1 rfl) ?_
  refine lv_iload_n hx hb dL_law_1335 rfl (lv_at hl 0 rfl) ?_
  refine lv_iconst (v := 3) hx hb dL_law_1336 (by decide) ?_
  refine lv_iadd hx hb dL_law_1337 ?_
  refine va_sld hx hb hXs hbl (A := AA E) hbA hW.2.2.1 hv.2.2.1 dL_law_1338 ?_
  refine af_lg hW (rn_Vg X hW (As := [.int (xs (Int32.toNatClampNeg (x3 + 1))), .int (xs (Int32.toNatClampNeg (x3 + 2))), .int (xs (Int32.toNatClampNeg (x3 + 3)))]) (rest := [.long r1]) (okS hW sc17_0) rfl rfl (kX12_worth h) mbX12_worth tw1199 tw1200 tw1201 rfl hl.1 (Nat.le_of_ble_eq_true rfl) ⟨(Nat.le_of_ble_eq_true rfl), (Nat.le_of_ble_eq_true rfl)⟩ ⟨by show cells + 0 ≤ 662955; omega, by show slots + 0 ≤ 7113384; omega⟩ dL_law_1339) (fun r2 I2 J2 H locs h hW => ?_)
  refine W.lcmp hx hb dL_law_1342 ?_
  refine lv_if_eq (tgt := 1497) hx hb dL_law_1343 (by decide) (fun _ => ?_) (fun c9 => absurd (by rw [h.1]; exact lg_self _) c9)
  refine W.widen (k := cells + 3) (n := slots + 19) (by omega) (by omega) ?_
  exact K E _ _ H locs ⟨rfl, rfl, rfl⟩ hex ⟨rfl, rfl⟩ h.2 hW

set_option maxHeartbeats 4000000 in
set_option maxRecDepth 100000 in
theorem law27 {p : Program} {l : Launch} {e : Env} {s : State} {m : MethodId} {below : List Frame} {meth : Method} {c : Code} {b L : Nat} {xs : Nat → Int32} {E : WE} {I : MI} {J : MJ} {H : Heap} {locs : List Loc} {ls : Array Slot} {cells slots : Nat} {Q : State → Prop} {x3 : Int32} {Inv : GS → MI → MJ → Prop} (hop : op27 Inv) (X : Cx E code 4 RL ret p s m #[Value.ref b] c meth) (hNN : wN E = s.heap.size) (hXs : va_X b L xs s s.heap) (hbl : b < s.heap.size) (hv : vp_in (x3 + 1) L ∧ vp_in (x3 + 2) L ∧ vp_in (x3 + 3) L ∧ vp_in (x3 + 4) L ∧ vp_in (x3 + 5) L ∧ vp_in (x3 + 6) L ∧ vp_in (x3 + 7) L) (hex : exC E) (hI : Inv (wg E) I J) (hW : Wd E I J s H locs) (hl : lv_has ls 4 [(3, .int x3), (0, .ref b), (1, .ref (wa E 0 0)), (2, .ref (wa E 17 0))]) (hc : cells + 3 ≤ 662955) (hs : slots + 19 ≤ 7113384)
    (K : ∀ (E' : WE) (I' : MI) (J' : MJ) (H' : Heap) (locs' : List Loc), bsE E E' → exC E' → awE E E' → Inv (wg E') I' J' → Wd E' I' J' s H' locs' → W p l e room_1 s m #[Value.ref b] below meth c H' locs' (cells + 3) (slots + 19) Q (F0 m 1497 ls [])) : W p l e room_1 s m #[Value.ref b] below meth c H locs cells slots Q (F0 m 1348 ls []) := by
  have hx := X.1.1
  have hb := X.1.2.1
  have hbA : ¬ AA E b := by show ¬ wN E ≤ b; omega
  have h := hop (wg E) I J (xs (Int32.toNatClampNeg (x3 + 1))) (xs (Int32.toNatClampNeg (x3 + 2))) (xs (Int32.toNatClampNeg (x3 + 3))) (xs (Int32.toNatClampNeg (x3 + 4))) hI
  refine lv_aload_n hx hb dL_law_1348 rfl (lv_at hl 2 rfl) ?_
  refine lv_aload_n hx hb dL_law_1349 rfl (lv_at hl 1 rfl) ?_
  refine lv_iload_n hx hb dL_law_1350 rfl (lv_at hl 0 rfl) ?_
  refine lv_iconst (v := 1) hx hb dL_law_1351 (by decide) ?_
  refine lv_iadd hx hb dL_law_1352 ?_
  refine va_sld hx hb hXs hbl (A := AA E) hbA hW.2.2.1 hv.1 dL_law_1353 ?_
  refine lv_aload_n hx hb dL_law_1354 rfl (lv_at hl 1 rfl) ?_
  refine lv_iload_n hx hb dL_law_1355 rfl (lv_at hl 0 rfl) ?_
  refine lv_iconst (v := 2) hx hb dL_law_1356 (by decide) ?_
  refine lv_iadd hx hb dL_law_1357 ?_
  refine va_sld hx hb hXs hbl (A := AA E) hbA hW.2.2.1 hv.2.1 dL_law_1358 ?_
  refine lv_aload_n hx hb dL_law_1359 rfl (lv_at hl 1 rfl) ?_
  refine lv_iload_n hx hb dL_law_1360 rfl (lv_at hl 0 rfl) ?_
  refine lv_iconst (v := 3) hx hb dL_law_1361 (by decide) ?_
  refine lv_iadd hx hb dL_law_1362 ?_
  refine va_sld hx hb hXs hbl (A := AA E) hbA hW.2.2.1 hv.2.2.1 dL_law_1363 ?_
  refine lv_aload_n hx hb dL_law_1364 rfl (lv_at hl 1 rfl) ?_
  refine lv_iload_n hx hb dL_law_1365 rfl (lv_at hl 0 rfl) ?_
  refine lv_iconst (v := 4) hx hb dL_law_1366 (by decide) ?_
  refine lv_iadd hx hb dL_law_1367 ?_
  refine va_sld hx hb hXs hbl (A := AA E) hbA hW.2.2.1 hv.2.2.2.1 dL_law_1368 ?_
  refine af_ig hW (rn_Vg X hW (As := [.int (xs (Int32.toNatClampNeg (x3 + 1))), .int (xs (Int32.toNatClampNeg (x3 + 2))), .int (xs (Int32.toNatClampNeg (x3 + 3))), .int (xs (Int32.toNatClampNeg (x3 + 4)))]) (rest := []) (okS hW sc0_0) rfl rfl (kX11_years h) mbX11_years tw717 tw718 tw719 rfl hl.1 (Nat.le_of_ble_eq_true rfl) ⟨(Nat.le_of_ble_eq_true rfl), (Nat.le_of_ble_eq_true rfl)⟩ ⟨by show cells + 0 ≤ 662955; omega, by show slots + 0 ≤ 7113384; omega⟩ dL_law_1369) (fun r1 I1 J1 H locs h hW => ?_)
  refine lv_aload_n hx hb dL_law_1372 rfl (lv_at hl 3 rfl) ?_
  refine lv_aload_n hx hb dL_law_1373 rfl (lv_at hl 1 rfl) ?_
  refine lv_iload_n hx hb dL_law_1374 rfl (lv_at hl 0 rfl) ?_
  refine lv_iconst (v := 1) hx hb dL_law_1375 (by decide) ?_
  refine lv_iadd hx hb dL_law_1376 ?_
  refine va_sld hx hb hXs hbl (A := AA E) hbA hW.2.2.1 hv.1 dL_law_1377 ?_
  refine lv_aload_n hx hb dL_law_1378 rfl (lv_at hl 1 rfl) ?_
  refine lv_iload_n hx hb dL_law_1379 rfl (lv_at hl 0 rfl) ?_
  refine lv_iconst (v := 2) hx hb dL_law_1380 (by decide) ?_
  refine lv_iadd hx hb dL_law_1381 ?_
  refine va_sld hx hb hXs hbl (A := AA E) hbA hW.2.2.1 hv.2.1 dL_law_1382 ?_
  refine lv_aload_n hx hb dL_law_1383 rfl (lv_at hl 1 rfl) ?_
  refine lv_iload_n hx hb dL_law_1384 rfl (lv_at hl 0 rfl) ?_
  refine lv_iconst (v := 3) hx hb dL_law_1385 (by decide) ?_
  refine lv_iadd hx hb dL_law_1386 ?_
  refine va_sld hx hb hXs hbl (A := AA E) hbA hW.2.2.1 hv.2.2.1 dL_law_1387 ?_
  refine lv_aload_n hx hb dL_law_1388 rfl (lv_at hl 1 rfl) ?_
  refine lv_iload_n hx hb dL_law_1389 rfl (lv_at hl 0 rfl) ?_
  refine lv_iconst (v := 4) hx hb dL_law_1390 (by decide) ?_
  refine lv_iadd hx hb dL_law_1391 ?_
  refine va_sld hx hb hXs hbl (A := AA E) hbA hW.2.2.1 hv.2.2.2.1 dL_law_1392 ?_
  refine af_ig hW (rn_Vg X hW (As := [.int (xs (Int32.toNatClampNeg (x3 + 1))), .int (xs (Int32.toNatClampNeg (x3 + 2))), .int (xs (Int32.toNatClampNeg (x3 + 3))), .int (xs (Int32.toNatClampNeg (x3 + 4)))]) (rest := [.int r1]) (okS hW sc17_0) rfl rfl (kX12_years h) mbX12_years tw1203 tw1204 tw1205 rfl hl.1 (Nat.le_of_ble_eq_true rfl) ⟨(Nat.le_of_ble_eq_true rfl), (Nat.le_of_ble_eq_true rfl)⟩ ⟨by show cells + 0 ≤ 662955; omega, by show slots + 0 ≤ 7113384; omega⟩ dL_law_1393) (fun r2 I2 J2 H locs h hW => ?_)
  refine lv_icmp_eq (tgt := 1497) hx hb dL_law_1396 (by decide) (fun _ => ?_) (fun c9 => absurd h.1 c9)
  refine W.widen (k := cells + 3) (n := slots + 19) (by omega) (by omega) ?_
  exact K E _ _ H locs ⟨rfl, rfl, rfl⟩ hex ⟨rfl, rfl⟩ h.2 hW

set_option maxHeartbeats 4000000 in
set_option maxRecDepth 100000 in
theorem law28 {p : Program} {l : Launch} {e : Env} {s : State} {m : MethodId} {below : List Frame} {meth : Method} {c : Code} {b L : Nat} {xs : Nat → Int32} {E : WE} {I : MI} {J : MJ} {H : Heap} {locs : List Loc} {ls : Array Slot} {cells slots : Nat} {Q : State → Prop} {x3 : Int32} {Inv : GS → MI → MJ → Prop} (hop : op28 Inv) (X : Cx E code 4 RL ret p s m #[Value.ref b] c meth) (hNN : wN E = s.heap.size) (hXs : va_X b L xs s s.heap) (hbl : b < s.heap.size) (hv : vp_in (x3 + 1) L ∧ vp_in (x3 + 2) L ∧ vp_in (x3 + 3) L ∧ vp_in (x3 + 4) L ∧ vp_in (x3 + 5) L ∧ vp_in (x3 + 6) L ∧ vp_in (x3 + 7) L) (hex : exC E) (hI : Inv (wg E) I J) (hW : Wd E I J s H locs) (hl : lv_has ls 4 [(3, .int x3), (0, .ref b), (1, .ref (wa E 0 0)), (2, .ref (wa E 17 0))]) (hc : cells + 3 ≤ 662955) (hs : slots + 19 ≤ 7113384)
    (K : ∀ (E' : WE) (I' : MI) (J' : MJ) (H' : Heap) (locs' : List Loc), bsE E E' → exC E' → awE E E' → Inv (wg E') I' J' → Wd E' I' J' s H' locs' → W p l e room_1 s m #[Value.ref b] below meth c H' locs' (cells + 3) (slots + 19) Q (F0 m 1497 ls [])) : W p l e room_1 s m #[Value.ref b] below meth c H locs cells slots Q (F0 m 1401 ls []) := by
  have hx := X.1.1
  have hb := X.1.2.1
  have hbA : ¬ AA E b := by show ¬ wN E ≤ b; omega
  have h := hop (wg E) I J (xs (Int32.toNatClampNeg (x3 + 1))) (xs (Int32.toNatClampNeg (x3 + 2))) hI
  refine lv_aload_n hx hb dL_law_1401 rfl (lv_at hl 2 rfl) ?_
  refine lv_aload_n hx hb dL_law_1402 rfl (lv_at hl 1 rfl) ?_
  refine lv_iload_n hx hb dL_law_1403 rfl (lv_at hl 0 rfl) ?_
  refine lv_iconst (v := 1) hx hb dL_law_1404 (by decide) ?_
  refine lv_iadd hx hb dL_law_1405 ?_
  refine va_sld hx hb hXs hbl (A := AA E) hbA hW.2.2.1 hv.1 dL_law_1406 ?_
  refine lv_aload_n hx hb dL_law_1407 rfl (lv_at hl 1 rfl) ?_
  refine lv_iload_n hx hb dL_law_1408 rfl (lv_at hl 0 rfl) ?_
  refine lv_iconst (v := 2) hx hb dL_law_1409 (by decide) ?_
  refine lv_iadd hx hb dL_law_1410 ?_
  refine va_sld hx hb hXs hbl (A := AA E) hbA hW.2.2.1 hv.2.1 dL_law_1411 ?_
  refine af_ig hW (rn_Vg X hW (As := [.int (xs (Int32.toNatClampNeg (x3 + 1))), .int (xs (Int32.toNatClampNeg (x3 + 2)))]) (rest := []) (okS hW sc0_0) rfl rfl (kX11_lot h) mbX11_lot tw753 tw754 tw755 rfl hl.1 (Nat.le_of_ble_eq_true rfl) ⟨(Nat.le_of_ble_eq_true rfl), (Nat.le_of_ble_eq_true rfl)⟩ ⟨by show cells + 0 ≤ 662955; omega, by show slots + 0 ≤ 7113384; omega⟩ dL_law_1412) (fun r1 I1 J1 H locs h hW => ?_)
  refine lv_aload_n hx hb dL_law_1415 rfl (lv_at hl 3 rfl) ?_
  refine lv_aload_n hx hb dL_law_1416 rfl (lv_at hl 1 rfl) ?_
  refine lv_iload_n hx hb dL_law_1417 rfl (lv_at hl 0 rfl) ?_
  refine lv_iconst (v := 1) hx hb dL_law_1418 (by decide) ?_
  refine lv_iadd hx hb dL_law_1419 ?_
  refine va_sld hx hb hXs hbl (A := AA E) hbA hW.2.2.1 hv.1 dL_law_1420 ?_
  refine lv_aload_n hx hb dL_law_1421 rfl (lv_at hl 1 rfl) ?_
  refine lv_iload_n hx hb dL_law_1422 rfl (lv_at hl 0 rfl) ?_
  refine lv_iconst (v := 2) hx hb dL_law_1423 (by decide) ?_
  refine lv_iadd hx hb dL_law_1424 ?_
  refine va_sld hx hb hXs hbl (A := AA E) hbA hW.2.2.1 hv.2.1 dL_law_1425 ?_
  refine af_ig hW (rn_Vg X hW (As := [.int (xs (Int32.toNatClampNeg (x3 + 1))), .int (xs (Int32.toNatClampNeg (x3 + 2)))]) (rest := [.int r1]) (okS hW sc17_0) rfl rfl (kX12_lot h) mbX12_lot tw1219 tw1220 tw1221 rfl hl.1 (Nat.le_of_ble_eq_true rfl) ⟨(Nat.le_of_ble_eq_true rfl), (Nat.le_of_ble_eq_true rfl)⟩ ⟨by show cells + 0 ≤ 662955; omega, by show slots + 0 ≤ 7113384; omega⟩ dL_law_1426) (fun r2 I2 J2 H locs h hW => ?_)
  refine lv_icmp_eq (tgt := 1497) hx hb dL_law_1429 (by decide) (fun _ => ?_) (fun c9 => absurd h.1 c9)
  refine W.widen (k := cells + 3) (n := slots + 19) (by omega) (by omega) ?_
  exact K E _ _ H locs ⟨rfl, rfl, rfl⟩ hex ⟨rfl, rfl⟩ h.2 hW

set_option maxHeartbeats 4000000 in
set_option maxRecDepth 100000 in
theorem law29 {p : Program} {l : Launch} {e : Env} {s : State} {m : MethodId} {below : List Frame} {meth : Method} {c : Code} {b L : Nat} {xs : Nat → Int32} {E : WE} {I : MI} {J : MJ} {H : Heap} {locs : List Loc} {ls : Array Slot} {cells slots : Nat} {Q : State → Prop} {x3 : Int32} {Inv : GS → MI → MJ → Prop} (hop : op29 Inv) (X : Cx E code 4 RL ret p s m #[Value.ref b] c meth) (hNN : wN E = s.heap.size) (hXs : va_X b L xs s s.heap) (hbl : b < s.heap.size) (hv : vp_in (x3 + 1) L ∧ vp_in (x3 + 2) L ∧ vp_in (x3 + 3) L ∧ vp_in (x3 + 4) L ∧ vp_in (x3 + 5) L ∧ vp_in (x3 + 6) L ∧ vp_in (x3 + 7) L) (hex : exC E) (hI : Inv (wg E) I J) (hW : Wd E I J s H locs) (hl : lv_has ls 4 [(3, .int x3), (0, .ref b), (1, .ref (wa E 0 0)), (2, .ref (wa E 17 0))]) (hc : cells + 3 ≤ 662955) (hs : slots + 19 ≤ 7113384)
    (K : ∀ (E' : WE) (I' : MI) (J' : MJ) (H' : Heap) (locs' : List Loc), bsE E E' → exC E' → awE E E' → Inv (wg E') I' J' → Wd E' I' J' s H' locs' → W p l e room_1 s m #[Value.ref b] below meth c H' locs' (cells + 3) (slots + 19) Q (F0 m 1497 ls [])) : W p l e room_1 s m #[Value.ref b] below meth c H locs cells slots Q (F0 m 1434 ls []) := by
  have hx := X.1.1
  have hb := X.1.2.1
  have hbA : ¬ AA E b := by show ¬ wN E ≤ b; omega
  have h := hop (wg E) I J  hI
  refine lv_aload_n hx hb dL_law_1434 rfl (lv_at hl 2 rfl) ?_
  refine af_ig hW (rn_Vg X hW (As := []) (rest := []) (okS hW sc0_0) rfl rfl (kX11_image h) mbX11_image tw761 tw762 tw763 rfl hl.1 (Nat.le_of_ble_eq_true rfl) ⟨(Nat.le_of_ble_eq_true rfl), (Nat.le_of_ble_eq_true rfl)⟩ ⟨by show cells + 0 ≤ 662955; omega, by show slots + 0 ≤ 7113384; omega⟩ dL_law_1435) (fun r1 I1 J1 H locs h hW => ?_)
  refine lv_aload_n hx hb dL_law_1438 rfl (lv_at hl 3 rfl) ?_
  refine af_ig hW (rn_Vg X hW (As := []) (rest := [.int r1]) (okS hW sc17_0) rfl rfl (kX12_image h) mbX12_image tw1227 tw1228 tw1229 rfl hl.1 (Nat.le_of_ble_eq_true rfl) ⟨(Nat.le_of_ble_eq_true rfl), (Nat.le_of_ble_eq_true rfl)⟩ ⟨by show cells + 0 ≤ 662955; omega, by show slots + 0 ≤ 7113384; omega⟩ dL_law_1439) (fun r2 I2 J2 H locs h hW => ?_)
  refine lv_icmp_eq (tgt := 1497) hx hb dL_law_1442 (by decide) (fun _ => ?_) (fun c9 => absurd h.1 c9)
  refine W.widen (k := cells + 3) (n := slots + 19) (by omega) (by omega) ?_
  exact K E _ _ H locs ⟨rfl, rfl, rfl⟩ hex ⟨rfl, rfl⟩ h.2 hW

set_option maxHeartbeats 4000000 in
set_option maxRecDepth 100000 in
theorem law30 {p : Program} {l : Launch} {e : Env} {s : State} {m : MethodId} {below : List Frame} {meth : Method} {c : Code} {b L : Nat} {xs : Nat → Int32} {E : WE} {I : MI} {J : MJ} {H : Heap} {locs : List Loc} {ls : Array Slot} {cells slots : Nat} {Q : State → Prop} {x3 : Int32} {Inv : GS → MI → MJ → Prop} (hop : op30 Inv) (X : Cx E code 4 RL ret p s m #[Value.ref b] c meth) (hNN : wN E = s.heap.size) (hXs : va_X b L xs s s.heap) (hbl : b < s.heap.size) (hv : vp_in (x3 + 1) L ∧ vp_in (x3 + 2) L ∧ vp_in (x3 + 3) L ∧ vp_in (x3 + 4) L ∧ vp_in (x3 + 5) L ∧ vp_in (x3 + 6) L ∧ vp_in (x3 + 7) L) (hex : exC E) (hI : Inv (wg E) I J) (hW : Wd E I J s H locs) (hl : lv_has ls 4 [(3, .int x3), (0, .ref b), (1, .ref (wa E 0 0)), (2, .ref (wa E 17 0))]) (hc : cells + 3 ≤ 662955) (hs : slots + 19 ≤ 7113384)
    (K : ∀ (E' : WE) (I' : MI) (J' : MJ) (H' : Heap) (locs' : List Loc), bsE E E' → exC E' → awE E E' → Inv (wg E') I' J' → Wd E' I' J' s H' locs' → W p l e room_1 s m #[Value.ref b] below meth c H' locs' (cells + 3) (slots + 19) Q (F0 m 1497 ls [])) : W p l e room_1 s m #[Value.ref b] below meth c H locs cells slots Q (F0 m 1447 ls []) := by
  have hx := X.1.1
  have hb := X.1.2.1
  have hbA : ¬ AA E b := by show ¬ wN E ≤ b; omega
  have h := hop (wg E) I J  hI
  refine lv_aload_n hx hb dL_law_1447 rfl (lv_at hl 2 rfl) ?_
  refine af_ig hW (rn_Vg X hW (As := []) (rest := []) (okS hW sc0_0) rfl rfl (kX11_restore h) mbX11_restore tw778 tw779 tw780 rfl hl.1 (Nat.le_of_ble_eq_true rfl) ⟨(Nat.le_of_ble_eq_true rfl), (Nat.le_of_ble_eq_true rfl)⟩ ⟨by show cells + 0 ≤ 662955; omega, by show slots + 0 ≤ 7113384; omega⟩ dL_law_1448) (fun r1 I1 J1 H locs h hW => ?_)
  refine lv_aload_n hx hb dL_law_1451 rfl (lv_at hl 3 rfl) ?_
  refine af_ig hW (rn_Vg X hW (As := []) (rest := [.int r1]) (okS hW sc17_0) rfl rfl (kX12_restore h) mbX12_restore tw1231 tw1232 tw1233 rfl hl.1 (Nat.le_of_ble_eq_true rfl) ⟨(Nat.le_of_ble_eq_true rfl), (Nat.le_of_ble_eq_true rfl)⟩ ⟨by show cells + 0 ≤ 662955; omega, by show slots + 0 ≤ 7113384; omega⟩ dL_law_1452) (fun r2 I2 J2 H locs h hW => ?_)
  refine lv_icmp_eq (tgt := 1497) hx hb dL_law_1455 (by decide) (fun _ => ?_) (fun c9 => absurd h.1 c9)
  refine W.widen (k := cells + 3) (n := slots + 19) (by omega) (by omega) ?_
  exact K E _ _ H locs ⟨rfl, rfl, rfl⟩ hex ⟨rfl, rfl⟩ h.2 hW

set_option maxHeartbeats 4000000 in
set_option maxRecDepth 100000 in
theorem law31 {p : Program} {l : Launch} {e : Env} {s : State} {m : MethodId} {below : List Frame} {meth : Method} {c : Code} {b L : Nat} {xs : Nat → Int32} {E : WE} {I : MI} {J : MJ} {H : Heap} {locs : List Loc} {ls : Array Slot} {cells slots : Nat} {Q : State → Prop} {x3 : Int32} {Inv : GS → MI → MJ → Prop} (hop : op31 Inv) (X : Cx E code 4 RL ret p s m #[Value.ref b] c meth) (hNN : wN E = s.heap.size) (hXs : va_X b L xs s s.heap) (hbl : b < s.heap.size) (hv : vp_in (x3 + 1) L ∧ vp_in (x3 + 2) L ∧ vp_in (x3 + 3) L ∧ vp_in (x3 + 4) L ∧ vp_in (x3 + 5) L ∧ vp_in (x3 + 6) L ∧ vp_in (x3 + 7) L) (hex : exC E) (hI : Inv (wg E) I J) (hW : Wd E I J s H locs) (hl : lv_has ls 4 [(3, .int x3), (0, .ref b), (1, .ref (wa E 0 0)), (2, .ref (wa E 17 0))]) (hc : cells + 3 ≤ 662955) (hs : slots + 19 ≤ 7113384)
    (K : ∀ (E' : WE) (I' : MI) (J' : MJ) (H' : Heap) (locs' : List Loc), bsE E E' → exC E' → awE E E' → Inv (wg E') I' J' → Wd E' I' J' s H' locs' → W p l e room_1 s m #[Value.ref b] below meth c H' locs' (cells + 3) (slots + 19) Q (F0 m 1497 ls [])) : W p l e room_1 s m #[Value.ref b] below meth c H locs cells slots Q (F0 m 1460 ls []) := by
  have hx := X.1.1
  have hb := X.1.2.1
  have hbA : ¬ AA E b := by show ¬ wN E ≤ b; omega
  have h := hop (wg E) I J (xs (Int32.toNatClampNeg (x3 + 1))) hI
  refine lv_aload_n hx hb dL_law_1460 rfl (lv_at hl 2 rfl) ?_
  refine lv_aload_n hx hb dL_law_1461 rfl (lv_at hl 1 rfl) ?_
  refine lv_iload_n hx hb dL_law_1462 rfl (lv_at hl 0 rfl) ?_
  refine lv_iconst (v := 1) hx hb dL_law_1463 (by decide) ?_
  refine lv_iadd hx hb dL_law_1464 ?_
  refine va_sld hx hb hXs hbl (A := AA E) hbA hW.2.2.1 hv.1 dL_law_1465 ?_
  refine af_ig hW (rn_Vg X hW (As := [.int (xs (Int32.toNatClampNeg (x3 + 1)))]) (rest := []) (okS hW sc0_0) rfl rfl (kX11_count h) mbX11_count tw791 tw792 tw793 rfl hl.1 (Nat.le_of_ble_eq_true rfl) ⟨(Nat.le_of_ble_eq_true rfl), (Nat.le_of_ble_eq_true rfl)⟩ ⟨by show cells + 0 ≤ 662955; omega, by show slots + 0 ≤ 7113384; omega⟩ dL_law_1466) (fun r1 I1 J1 H locs h hW => ?_)
  refine lv_aload_n hx hb dL_law_1469 rfl (lv_at hl 3 rfl) ?_
  refine lv_aload_n hx hb dL_law_1470 rfl (lv_at hl 1 rfl) ?_
  refine lv_iload_n hx hb dL_law_1471 rfl (lv_at hl 0 rfl) ?_
  refine lv_iconst (v := 1) hx hb dL_law_1472 (by decide) ?_
  refine lv_iadd hx hb dL_law_1473 ?_
  refine va_sld hx hb hXs hbl (A := AA E) hbA hW.2.2.1 hv.1 dL_law_1474 ?_
  refine af_ig hW (rn_Vg X hW (As := [.int (xs (Int32.toNatClampNeg (x3 + 1)))]) (rest := [.int r1]) (okS hW sc17_0) rfl rfl (kX12_count h) mbX12_count tw1235 tw1236 tw1237 rfl hl.1 (Nat.le_of_ble_eq_true rfl) ⟨(Nat.le_of_ble_eq_true rfl), (Nat.le_of_ble_eq_true rfl)⟩ ⟨by show cells + 0 ≤ 662955; omega, by show slots + 0 ≤ 7113384; omega⟩ dL_law_1475) (fun r2 I2 J2 H locs h hW => ?_)
  refine lv_icmp_eq (tgt := 1497) hx hb dL_law_1478 (by decide) (fun _ => ?_) (fun c9 => absurd h.1 c9)
  refine W.widen (k := cells + 3) (n := slots + 19) (by omega) (by omega) ?_
  exact K E _ _ H locs ⟨rfl, rfl, rfl⟩ hex ⟨rfl, rfl⟩ h.2 hW

set_option maxHeartbeats 4000000 in
set_option maxRecDepth 100000 in
theorem law32 {p : Program} {l : Launch} {e : Env} {s : State} {m : MethodId} {below : List Frame} {meth : Method} {c : Code} {b L : Nat} {xs : Nat → Int32} {E : WE} {I : MI} {J : MJ} {H : Heap} {locs : List Loc} {ls : Array Slot} {cells slots : Nat} {Q : State → Prop} {x3 : Int32} {Inv : GS → MI → MJ → Prop} (hop : op32 Inv) (X : Cx E code 4 RL ret p s m #[Value.ref b] c meth) (hNN : wN E = s.heap.size) (hXs : va_X b L xs s s.heap) (hbl : b < s.heap.size) (hv : vp_in (x3 + 1) L ∧ vp_in (x3 + 2) L ∧ vp_in (x3 + 3) L ∧ vp_in (x3 + 4) L ∧ vp_in (x3 + 5) L ∧ vp_in (x3 + 6) L ∧ vp_in (x3 + 7) L) (hex : exC E) (hI : Inv (wg E) I J) (hW : Wd E I J s H locs) (hl : lv_has ls 4 [(3, .int x3), (0, .ref b), (1, .ref (wa E 0 0)), (2, .ref (wa E 17 0))]) (hc : cells + 3 ≤ 662955) (hs : slots + 19 ≤ 7113384)
    (K : ∀ (E' : WE) (I' : MI) (J' : MJ) (H' : Heap) (locs' : List Loc), bsE E E' → exC E' → awE E E' → Inv (wg E') I' J' → Wd E' I' J' s H' locs' → W p l e room_1 s m #[Value.ref b] below meth c H' locs' (cells + 3) (slots + 19) Q (F0 m 1497 ls [])) : W p l e room_1 s m #[Value.ref b] below meth c H locs cells slots Q (F0 m 1483 ls []) := by
  have hx := X.1.1
  have hb := X.1.2.1
  have hbA : ¬ AA E b := by show ¬ wN E ≤ b; omega
  have h := hop (wg E) I J  hI
  refine lv_aload_n hx hb dL_law_1483 rfl (lv_at hl 2 rfl) ?_
  refine af_lg hW (rn_Vg X hW (As := []) (rest := []) (okS hW sc0_0) rfl rfl (kX11_digest h) mbX11_digest tw795 tw796 tw797 rfl hl.1 (Nat.le_of_ble_eq_true rfl) ⟨(Nat.le_of_ble_eq_true rfl), (Nat.le_of_ble_eq_true rfl)⟩ ⟨by show cells + 0 ≤ 662955; omega, by show slots + 0 ≤ 7113384; omega⟩ dL_law_1484) (fun r1 I1 J1 H locs h hW => ?_)
  refine lv_aload_n hx hb dL_law_1487 rfl (lv_at hl 3 rfl) ?_
  refine af_lg hW (rn_Vg X hW (As := []) (rest := [.long r1]) (okS hW sc17_0) rfl rfl (kX12_digest h) mbX12_digest tw1243 tw1244 tw1245 rfl hl.1 (Nat.le_of_ble_eq_true rfl) ⟨(Nat.le_of_ble_eq_true rfl), (Nat.le_of_ble_eq_true rfl)⟩ ⟨by show cells + 0 ≤ 662955; omega, by show slots + 0 ≤ 7113384; omega⟩ dL_law_1488) (fun r2 I2 J2 H locs h hW => ?_)
  refine W.lcmp hx hb dL_law_1491 ?_
  refine lv_if_eq (tgt := 1497) hx hb dL_law_1492 (by decide) (fun _ => ?_) (fun c9 => absurd (by rw [h.1]; exact lg_self _) c9)
  refine W.widen (k := cells + 3) (n := slots + 19) (by omega) (by omega) ?_
  exact K E _ _ H locs ⟨rfl, rfl, rfl⟩ hex ⟨rfl, rfl⟩ h.2 hW

