set_option maxHeartbeats 8000000 in
set_option maxRecDepth 100000 in
theorem law_loop {p : Program} {l : Launch} {e : Env} {s : State} {m : MethodId} {below : List Frame} {meth : Method} {c : Code} {b L : Nat} {xs : Nat → Int32} {Inv : GS → MI → MJ → Prop} (hops : Ops Inv) (hL : L ≤ 4096) (C0 : lw_At p s m meth c b L xs) :
    ∀ (d k : Nat) (E : WE) (I : MI) (J : MJ) (H : Heap) (locs : List Loc) (ls : Array Slot), 8 * k ≤ L → L < 8 * (k + d) → Cx E code 4 RL ret p s m #[Value.ref b] c meth → wN E = s.heap.size → exC E → Inv (wg E) I J → Wd E I J s H locs → lv_has ls 4 [(3, .int (nI (8 * k))), (0, .ref b), (1, .ref (wa E 0 0)), (2, .ref (wa E 17 0))] →
      W p l e room_1 s m #[Value.ref b] below meth c H locs (36 + 3 * k) (500 + 19 * k) (lw_Z below #[Value.ref b] s) (F0 m 18 ls []) := by
  obtain ⟨hx, hb, hr, hml, hown, hts, hX, hbl, hlocks, hgv⟩ := id C0
  intro d
  induction d with
  | zero => intro k E I J H locs ls h1 h2; omega
  | succ d ih =>
    intro k E I J H locs ls h1 h2 X hNN hex hI hW hl
    have hbA : ¬ AA E b := by show ¬ wN E ≤ b; omega
    refine lv_iload_n hx hb dL_law_18 rfl (lv_at hl 0 rfl) ?_
    refine lv_aload_n hx hb dL_law_19 rfl (lv_at hl 1 rfl) ?_
    refine va_slen hx hb hX hbl hbA hW.2.2.1 dL_law_20 ?_
    refine lv_bipush (v := 8) hx hb dL_law_21 (by decide) ?_
    refine lv_isub hx hb dL_law_23 ?_
    have eL : (nI L - 8).toInt = (L : Int) - 8 := pk_sub_toInt (a := L) (b := 8) (by omega) (by decide)
    have ek : (nI (8 * k)).toInt = ((8 * k : Nat) : Int) := nI_toInt (by omega)
    refine lv_icmp_gt (tgt := 1503) hx hb dL_law_24 (by decide) (fun c24 => ?_) (fun c24 => ?_)
    · refine lv_iconst (v := 1) hx hb dL_law_1503 (by decide) ?_
      refine va_forget (fun q hq => ?_) ?_
      · have := hW.2.2.1.2.2 q hq
        show s.heap.size ≤ q.base
        rw [← hNN]
        exact this
      · refine W.widen (k := 662955) (n := 7113384) (by omega) (by omega) ?_
        exact lw_ret hx hb hr hlocks dL_law_1504
    · have hk : 8 * k + 8 ≤ L := by
        have h3 : ¬ (nI L - 8).toInt < (nI (8 * k)).toInt := fun h => c24 (Int32.lt_iff_toInt_lt.mpr h)
        rw [eL, ek] at h3
        omega
      have hv0 : vp_in (nI (8 * k)) L := vp_in_nI (by omega) (by omega)
      have hv : vp_in (nI (8 * k) + 1) L ∧ vp_in (nI (8 * k) + 2) L ∧ vp_in (nI (8 * k) + 3) L ∧ vp_in (nI (8 * k) + 4) L ∧ vp_in (nI (8 * k) + 5) L ∧ vp_in (nI (8 * k) + 6) L ∧ vp_in (nI (8 * k) + 7) L := by
        have key : ∀ j : Nat, j < 8 → vp_in (nI (8 * k) + nI j) L := fun j hj => by rw [nI_add]; exact vp_in_nI (by omega) (by omega)
        exact ⟨key 1 (by decide), key 2 (by decide), key 3 (by decide), key 4 (by decide), key 5 (by decide), key 6 (by decide), key 7 (by decide)⟩
      have K : ∀ (E' : WE) (I' : MI) (J' : MJ) (H' : Heap) (locs' : List Loc), bsE E E' → exC E' → awE E E' → Inv (wg E') I' J' → Wd E' I' J' s H' locs' → W p l e room_1 s m #[Value.ref b] below meth c H' locs' (36 + 3 * k + 3) (500 + 19 * k + 19) (lw_Z below #[Value.ref b] s) (F0 m 1497 ls []) := by
        intro E' I' J' H' locs' hbs hex' haw hI' hW'
        have hl' : lv_has ls 4 [(3, .int (nI (8 * k))), (0, .ref b), (1, .ref (wa E' 0 0)), (2, .ref (wa E' 17 0))] := by rw [haw.1, haw.2]; exact hl
        refine lv_iinc (v := nI (8 * (k + 1))) (lv' := [(3, .int (nI (8 * (k + 1)))), (0, .ref b), (1, .ref (wa E' 0 0)), (2, .ref (wa E' 17 0))]) hx hb dL_law_1497 hl' (k := 0) rfl (show nI (8 * k) + nI 8 = nI (8 * (k + 1)) by rw [nI_add]; congr 1) (by decide) rfl (fun ls hl => ?_)
        refine lv_goto (tgt := 18) hx hb dL_law_1500 (by decide) ?_
        have ih2 := ih (k + 1) E' I' J' H' locs' ls (by omega) (by omega) (X.to hbs) (by rw [show wN E' = wN E from hbs.2.2]; exact hNN) hex' hI' hW' hl
        rw [show 36 + 3 * (k + 1) = 36 + 3 * k + 3 by omega, show 500 + 19 * (k + 1) = 500 + 19 * k + 19 by omega] at ih2
        exact ih2
      refine lv_aload_n hx hb dL_law_27 rfl (lv_at hl 1 rfl) ?_
      refine lv_iload_n hx hb dL_law_28 rfl (lv_at hl 0 rfl) ?_
      refine va_sld hx hb hX hbl hbA hW.2.2.1 hv0 dL_law_29 ?_
      refine lv_bipush (v := 63) hx hb dL_law_30 (by decide) ?_
      refine lv_iand hx hb dL_law_32 ?_
      refine lv_topi (fun v ev => ?_)
      by_cases s0 : v = 0
      · exact sw_in (tgt := 180) (off := 147) hx hb dL_law_33 s0 (by decide) (by decide) (by decide) (by decide) (law0 hops.1 X hNN hX hbl hv hex hI hW hl (by omega) (by omega) K)
      by_cases s1 : v = 1
      · exact sw_in (tgt := 233) (off := 200) hx hb dL_law_33 s1 (by decide) (by decide) (by decide) (by decide) (law1 hops.2.1 X hNN hX hbl hv hex hI hW hl (by omega) (by omega) K)
      by_cases s2 : v = 2
      · exact sw_in (tgt := 246) (off := 213) hx hb dL_law_33 s2 (by decide) (by decide) (by decide) (by decide) (law2 hops.2.2.1 X hNN hX hbl hv hex hI hW hl (by omega) (by omega) K)
      by_cases s3 : v = 3
      · exact sw_in (tgt := 259) (off := 226) hx hb dL_law_33 s3 (by decide) (by decide) (by decide) (by decide) (law3 hops.2.2.2.1 X hNN hX hbl hv hex hI hW hl (by omega) (by omega) K)
      by_cases s4 : v = 4
      · exact sw_in (tgt := 272) (off := 239) hx hb dL_law_33 s4 (by decide) (by decide) (by decide) (by decide) (law4 hops.2.2.2.2.1 X hNN hX hbl hv hex hI hW hl (by omega) (by omega) K)
      by_cases s5 : v = 5
      · exact sw_in (tgt := 305) (off := 272) hx hb dL_law_33 s5 (by decide) (by decide) (by decide) (by decide) (law5 hops.2.2.2.2.2.1 X hNN hX hbl hv hex hI hW hl (by omega) (by omega) K)
      by_cases s6 : v = 6
      · exact sw_in (tgt := 348) (off := 315) hx hb dL_law_33 s6 (by decide) (by decide) (by decide) (by decide) (law6 hops.2.2.2.2.2.2.1 X hNN hX hbl hv hex hI hW hl (by omega) (by omega) K)
      by_cases s7 : v = 7
      · exact sw_in (tgt := 381) (off := 348) hx hb dL_law_33 s7 (by decide) (by decide) (by decide) (by decide) (law7 hops.2.2.2.2.2.2.2.1 X hNN hX hbl hv hex hI hW hl (by omega) (by omega) K)
      by_cases s8 : v = 8
      · exact sw_in (tgt := 414) (off := 381) hx hb dL_law_33 s8 (by decide) (by decide) (by decide) (by decide) (law8 hops.2.2.2.2.2.2.2.2.1 X hNN hX hbl hv hex hI hW hl (by omega) (by omega) K)
      by_cases s9 : v = 9
      · exact sw_in (tgt := 447) (off := 414) hx hb dL_law_33 s9 (by decide) (by decide) (by decide) (by decide) (law9 hops.2.2.2.2.2.2.2.2.2.1 X hNN hX hbl hv hex hI hW hl (by omega) (by omega) K)
      by_cases s10 : v = 10
      · exact sw_in (tgt := 470) (off := 437) hx hb dL_law_33 s10 (by decide) (by decide) (by decide) (by decide) (law10 hops.2.2.2.2.2.2.2.2.2.2.1 X hNN hX hbl hv hex hI hW hl (by omega) (by omega) K)
      by_cases s11 : v = 11
      · exact sw_in (tgt := 513) (off := 480) hx hb dL_law_33 s11 (by decide) (by decide) (by decide) (by decide) (law11 hops.2.2.2.2.2.2.2.2.2.2.2.1 X hNN hX hbl hv hex hI hW hl (by omega) (by omega) K)
      by_cases s12 : v = 12
      · exact sw_in (tgt := 546) (off := 513) hx hb dL_law_33 s12 (by decide) (by decide) (by decide) (by decide) (law12 hops.2.2.2.2.2.2.2.2.2.2.2.2.1 X hNN hX hbl hv hex hI hW hl (by omega) (by omega) K)
      by_cases s13 : v = 13
      · exact sw_in (tgt := 599) (off := 566) hx hb dL_law_33 s13 (by decide) (by decide) (by decide) (by decide) (law13 hops.2.2.2.2.2.2.2.2.2.2.2.2.2.1 X hNN hX hbl hv hex hI hW hl (by omega) (by omega) K)
      by_cases s14 : v = 14
      · exact sw_in (tgt := 662) (off := 629) hx hb dL_law_33 s14 (by decide) (by decide) (by decide) (by decide) (law14 hops.2.2.2.2.2.2.2.2.2.2.2.2.2.2.1 X hNN hX hbl hv hex hI hW hl (by omega) (by omega) K)
      by_cases s15 : v = 15
      · exact sw_in (tgt := 716) (off := 683) hx hb dL_law_33 s15 (by decide) (by decide) (by decide) (by decide) (law15 hops.2.2.2.2.2.2.2.2.2.2.2.2.2.2.2.1 X hNN hX hbl hv hex hI hW hl (by omega) (by omega) K)
      by_cases s16 : v = 16
      · exact sw_in (tgt := 760) (off := 727) hx hb dL_law_33 s16 (by decide) (by decide) (by decide) (by decide) (law16 hops.2.2.2.2.2.2.2.2.2.2.2.2.2.2.2.2.1 X hNN hX hbl hv hex hI hW hl (by omega) (by omega) K)
      by_cases s17 : v = 17
      · exact sw_in (tgt := 794) (off := 761) hx hb dL_law_33 s17 (by decide) (by decide) (by decide) (by decide) (law17 hops.2.2.2.2.2.2.2.2.2.2.2.2.2.2.2.2.2.1 X hNN hX hbl hv hex hI hW hl (by omega) (by omega) K)
      by_cases s18 : v = 18
      · exact sw_in (tgt := 817) (off := 784) hx hb dL_law_33 s18 (by decide) (by decide) (by decide) (by decide) (law18 hops.2.2.2.2.2.2.2.2.2.2.2.2.2.2.2.2.2.2.1 X hNN hX hbl hv hex hI hW hl (by omega) (by omega) K)
      by_cases s19 : v = 19
      · exact sw_in (tgt := 892) (off := 859) hx hb dL_law_33 s19 (by decide) (by decide) (by decide) (by decide) (law19 hops.2.2.2.2.2.2.2.2.2.2.2.2.2.2.2.2.2.2.2.1 X hNN hX hbl hv hex hI hW hl (by omega) (by omega) K)
      by_cases s20 : v = 20
      · exact sw_in (tgt := 995) (off := 962) hx hb dL_law_33 s20 (by decide) (by decide) (by decide) (by decide) (law20 hops.2.2.2.2.2.2.2.2.2.2.2.2.2.2.2.2.2.2.2.2.1 X hNN hX hbl hv hex hI hW hl (by omega) (by omega) K)
      by_cases s21 : v = 21
      · exact sw_in (tgt := 1038) (off := 1005) hx hb dL_law_33 s21 (by decide) (by decide) (by decide) (by decide) (law21 hops.2.2.2.2.2.2.2.2.2.2.2.2.2.2.2.2.2.2.2.2.2.1 X hNN hX hbl hv hex hI hW hl (by omega) (by omega) K)
      by_cases s22 : v = 22
      · exact sw_in (tgt := 1081) (off := 1048) hx hb dL_law_33 s22 (by decide) (by decide) (by decide) (by decide) (law22 hops.2.2.2.2.2.2.2.2.2.2.2.2.2.2.2.2.2.2.2.2.2.2.1 X hNN hX hbl hv hex hI hW hl (by omega) (by omega) K)
      by_cases s23 : v = 23
      · exact sw_in (tgt := 1135) (off := 1102) hx hb dL_law_33 s23 (by decide) (by decide) (by decide) (by decide) (law23 hops.2.2.2.2.2.2.2.2.2.2.2.2.2.2.2.2.2.2.2.2.2.2.2.1 X hNN hX hbl hv hex hI hW hl (by omega) (by omega) K)
      by_cases s24 : v = 24
      · exact sw_in (tgt := 1198) (off := 1165) hx hb dL_law_33 s24 (by decide) (by decide) (by decide) (by decide) (law24 hops.2.2.2.2.2.2.2.2.2.2.2.2.2.2.2.2.2.2.2.2.2.2.2.2.1 X hNN hX hbl hv hex hI hW hl (by omega) (by omega) K)
      by_cases s25 : v = 25
      · exact sw_in (tgt := 1261) (off := 1228) hx hb dL_law_33 s25 (by decide) (by decide) (by decide) (by decide) (law25 hops.2.2.2.2.2.2.2.2.2.2.2.2.2.2.2.2.2.2.2.2.2.2.2.2.2.1 X hNN hX hbl hv hex hI hW hl (by omega) (by omega) K)
      by_cases s26 : v = 26
      · exact sw_in (tgt := 1304) (off := 1271) hx hb dL_law_33 s26 (by decide) (by decide) (by decide) (by decide) (law26 hops.2.2.2.2.2.2.2.2.2.2.2.2.2.2.2.2.2.2.2.2.2.2.2.2.2.2.1 X hNN hX hbl hv hex hI hW hl (by omega) (by omega) K)
      by_cases s27 : v = 27
      · exact sw_in (tgt := 1348) (off := 1315) hx hb dL_law_33 s27 (by decide) (by decide) (by decide) (by decide) (law27 hops.2.2.2.2.2.2.2.2.2.2.2.2.2.2.2.2.2.2.2.2.2.2.2.2.2.2.2.1 X hNN hX hbl hv hex hI hW hl (by omega) (by omega) K)
      by_cases s28 : v = 28
      · exact sw_in (tgt := 1401) (off := 1368) hx hb dL_law_33 s28 (by decide) (by decide) (by decide) (by decide) (law28 hops.2.2.2.2.2.2.2.2.2.2.2.2.2.2.2.2.2.2.2.2.2.2.2.2.2.2.2.2.1 X hNN hX hbl hv hex hI hW hl (by omega) (by omega) K)
      by_cases s29 : v = 29
      · exact sw_in (tgt := 1434) (off := 1401) hx hb dL_law_33 s29 (by decide) (by decide) (by decide) (by decide) (law29 hops.2.2.2.2.2.2.2.2.2.2.2.2.2.2.2.2.2.2.2.2.2.2.2.2.2.2.2.2.2.1 X hNN hX hbl hv hex hI hW hl (by omega) (by omega) K)
      by_cases s30 : v = 30
      · exact sw_in (tgt := 1447) (off := 1414) hx hb dL_law_33 s30 (by decide) (by decide) (by decide) (by decide) (law30 hops.2.2.2.2.2.2.2.2.2.2.2.2.2.2.2.2.2.2.2.2.2.2.2.2.2.2.2.2.2.2.1 X hNN hX hbl hv hex hI hW hl (by omega) (by omega) K)
      by_cases s31 : v = 31
      · exact sw_in (tgt := 1460) (off := 1427) hx hb dL_law_33 s31 (by decide) (by decide) (by decide) (by decide) (law31 hops.2.2.2.2.2.2.2.2.2.2.2.2.2.2.2.2.2.2.2.2.2.2.2.2.2.2.2.2.2.2.2.1 X hNN hX hbl hv hex hI hW hl (by omega) (by omega) K)
      by_cases s32 : v = 32
      · exact sw_in (tgt := 1483) (off := 1450) hx hb dL_law_33 s32 (by decide) (by decide) (by decide) (by decide) (law32 hops.2.2.2.2.2.2.2.2.2.2.2.2.2.2.2.2.2.2.2.2.2.2.2.2.2.2.2.2.2.2.2.2 X hNN hX hbl hv hex hI hW hl (by omega) (by omega) K)
      have z33 : Int32.toInt v < 0 ∨ 32 < Int32.toInt v := by
        have := ne_ti s0 (a := 0) (by decide)
        have := ne_ti s1 (a := 1) (by decide)
        have := ne_ti s2 (a := 2) (by decide)
        have := ne_ti s3 (a := 3) (by decide)
        have := ne_ti s4 (a := 4) (by decide)
        have := ne_ti s5 (a := 5) (by decide)
        have := ne_ti s6 (a := 6) (by decide)
        have := ne_ti s7 (a := 7) (by decide)
        have := ne_ti s8 (a := 8) (by decide)
        have := ne_ti s9 (a := 9) (by decide)
        have := ne_ti s10 (a := 10) (by decide)
        have := ne_ti s11 (a := 11) (by decide)
        have := ne_ti s12 (a := 12) (by decide)
        have := ne_ti s13 (a := 13) (by decide)
        have := ne_ti s14 (a := 14) (by decide)
        have := ne_ti s15 (a := 15) (by decide)
        have := ne_ti s16 (a := 16) (by decide)
        have := ne_ti s17 (a := 17) (by decide)
        have := ne_ti s18 (a := 18) (by decide)
        have := ne_ti s19 (a := 19) (by decide)
        have := ne_ti s20 (a := 20) (by decide)
        have := ne_ti s21 (a := 21) (by decide)
        have := ne_ti s22 (a := 22) (by decide)
        have := ne_ti s23 (a := 23) (by decide)
        have := ne_ti s24 (a := 24) (by decide)
        have := ne_ti s25 (a := 25) (by decide)
        have := ne_ti s26 (a := 26) (by decide)
        have := ne_ti s27 (a := 27) (by decide)
        have := ne_ti s28 (a := 28) (by decide)
        have := ne_ti s29 (a := 29) (by decide)
        have := ne_ti s30 (a := 30) (by decide)
        have := ne_ti s31 (a := 31) (by decide)
        have := ne_ti s32 (a := 32) (by decide)
        omega
      refine lv_tableOut (tgt := 1497) hx hb dL_law_33 z33 (by decide) ?_
      refine W.widen (k := 36 + 3 * k + 3) (n := 500 + 19 * k + 19) (by omega) (by omega) ?_
      exact K E I J H locs ⟨rfl, rfl, rfl⟩ hex ⟨rfl, rfl⟩ hI hW
