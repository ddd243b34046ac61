section Make3
variable {p : Program} {l : Launch} {e : Env} {R : Room} {s : State} {m : MethodId} {args : Array Value} {below : List Frame} {meth : Method} {c : Code} {H : Heap} {locs : List Loc} {cells slots : Nat} {Q : State → Prop}
variable {E : WE} {I : MI} {J : MJ} {cc : ByteArray} {nL : Nat} {own : String} {rt : Option FieldType} {pc : Nat} {ls : Array Slot} {rest st0 : List Value} {a : Array Value}
theorem af_ig (hW : Wd E I J s H locs) {Qf : Int32 → MI → MJ → Prop} (hr : va_Run p l e R s m args below meth c H locs cells slots 0 0 (F0 m pc ls st0) rest (QI E Qf a) (AA E))
    (kk : ∀ (r : Int32) (I1 : MI) (J1 : MJ) (H1 : Heap) (locs1 : List Loc), Qf r I1 J1 → Wd E I1 J1 s H1 locs1 → W p l e R s m args below meth c H1 locs1 cells slots Q (F0 m (pc + 3) ls (.int r :: rest))) : W p l e R s m args below meth c H locs cells slots Q (F0 m pc ls st0) := by
  refine va_calli hr hW.2.2.1 (fun q _ h => h) (fun q h => h) (fun r u t H1 locs1 ht hvm hq hB hz hk hS => ?_)
  obtain ⟨-, hP, -, hD, hC⟩ := hB
  rw [ht] at hP
  exact kk r u.1 u.2 H1 locs1 hq ⟨hP, hD, hS, hC⟩
theorem rn_Vg {y : MethodName} {bytes : ByteArray} {maxL n index f lo mc ms : Nat} {ret : Option FieldType} {As : List Value} {Qc : Array Value → State → Outcome → State → Prop} {k pp ci N : Nat} {fs : List Value} {Cn : String} {T : u_T} (X : Cx E cc nL own rt p s m args c meth) (hW : Wd E I J s H locs) (hc : (k, pp) ∈ wC E) (he : cont E I J k pp = .inr (ci, fs)) (hcl : vwCl[ci]? = some (Cn, T, N)) (hM : Met l y (wsM y bytes maxL ret) (rmN f mc ms lo) (va_Pc (.ref (wa E k pp) :: As) (Wp E I J)) Qc mc ms (AA E)) (hb : MB y bytes maxL ret n) (hlk : Cond.methodLink own index y ∈ lwt) (hin : Cond.instanceMethod y ∈ lwt) (hsel : Cond.selects Cn y y ∈ lwt) (hn : As.length = n) (hsz : ls.size = nL) (hcat : (rest.map fun v => v.category).sum ≤ 8) (hR : f + 1 ≤ R.frames ∧ 8 + (maxL + 11) + lo ≤ R.locals) (hf : cells + mc ≤ R.cells ∧ slots + ms ≤ R.slots) (hdg : decode cc pc = .ok (.invokevirtual index, 3)) :
    va_Run p l e R s m args below meth c H locs cells slots mc ms (F0 m pc ls (As.reverse ++ .ref (wa E k pp) :: rest)) rest (Qc (.ref (wa E k pp) :: As).toArray) (AA E) :=
  va_runV X.1 hM ⟨callB_of n X.1.2.2.2.2 (goodM hb.1) rfl rfl rfl (X.1.2.2.2.2 _ hb.2.1) (X.1.2.2.2.2 _ hlk) ⟨hb.2.2.1.1, hb.2.2.1.2, hb.2.2.2.1⟩ hR, X.1.2.2.2.2 _ hin, X.1.2.2.2.2 _ hsel⟩ (preV X hW As hc he hcl) rfl hn hsz rfl (lv_room hcat) hdg hf
theorem r_astR (X : Cx E cc nL own rt p s m args c meth) (hW : Wd E I J s H locs) (hm : (43, (wg E).2.2) ∈ wC E) (h3 : ∀ b, (3, b) ∈ wC E → b = 0) {i : Int32} (hin : vp_in i 6) (hi : i.toNatClampNeg = (wg E).2.2) (hok : okC (incR E)) (hdg : decode cc pc = .ok (.aastore, 1))
    (kk : ∀ (H1 : Heap) (locs1 : List Loc), Wd (incR E) I J s H1 locs1 → W p l e R s m args below meth c H1 locs1 cells slots Q (F0 m (pc + 1) ls rest)) : W p l e R s m args below meth c H locs cells slots Q (F0 m pc ls (.ref (wa E 43 (wg E).2.2) :: .int i :: .ref (wa E 3 0) :: rest)) := by
  obtain ⟨q0, hq, hq0⟩ := ws_at I J (okS hW sc3_0)
  obtain ⟨q1, -, hq1⟩ := ws_at I J hm
  have hset := ws_setE (E' := incR E) hW.2.1 hq rfl rfl (fun a b hab hne => by
    unfold cont
    refine contR_incR _ _ (fun h => hne ⟨h, ?_⟩)
    subst h
    exact h3 b hab)
  have hc : cont (incR E) I J 3 0 = .inl (wc E 5, 6, .inr (.inr (.inr (.inr (va_up (fun q => if q < (wg E).2.2 then some (wa E 43 q) else none) i.toNatClampNeg (some (wa E 43 (wg E).2.2))))))) := by
    show (Sum.inl (wc E 5, 6, .inr (.inr (.inr (.inr (fun q => if q < (wg E).2.2 + 1 then some (wa E 43 q) else none))))) : va_E) = _
    congr 7
    funext x
    rw [hi]
    simp only [va_up]
    by_cases h1 : x = (wg E).2.2
    · subst h1
      simp
    · rw [if_neg h1]
      by_cases h2 : x < (wg E).2.2
      · rw [if_pos h2, if_pos (by omega)]
      · rw [if_neg h2, if_neg (by omega)]
  rw [hc] at hset
  refine va_astq (D := wD E) (r := (RX6, TX6, 5)) X.1.1 X.1.2.1 X.2.1.1 hW.1 hW.2.1 hW.2.2.1 q0 5 q1 6 hq0 rfl hq1 rfl hin hdg (fun H1 locs1 hP hD hS => ?_)
  rw [hset] at hP hD
  exact kk H1 locs1 ⟨hP, hD, hS, hok⟩
theorem r_astP (X : Cx E cc nL own rt p s m args c meth) (hW : Wd E I J s H locs) (hm : (40, (wg E).2.1) ∈ wC E) (h3 : ∀ b, (4, b) ∈ wC E → b = 0) {i : Int32} (hin : vp_in i 8) (hi : i.toNatClampNeg = (wg E).2.1) (hok : okC (incP E)) (hdg : decode cc pc = .ok (.aastore, 1))
    (kk : ∀ (H1 : Heap) (locs1 : List Loc), Wd (incP E) I J s H1 locs1 → W p l e R s m args below meth c H1 locs1 cells slots Q (F0 m (pc + 1) ls rest)) : W p l e R s m args below meth c H locs cells slots Q (F0 m pc ls (.ref (wa E 40 (wg E).2.1) :: .int i :: .ref (wa E 4 0) :: rest)) := by
  obtain ⟨q0, hq, hq0⟩ := ws_at I J (okS hW sc4_0)
  obtain ⟨q1, -, hq1⟩ := ws_at I J hm
  have hset := ws_setE (E' := incP E) hW.2.1 hq rfl rfl (fun a b hab hne => by
    unfold cont
    refine contR_incP _ _ (fun h => hne ⟨h, ?_⟩)
    subst h
    exact h3 b hab)
  have hc : cont (incP E) I J 4 0 = .inl (wc E 4, 8, .inr (.inr (.inr (.inr (va_up (fun q => if q < (wg E).2.1 then some (wa E 40 q) else none) i.toNatClampNeg (some (wa E 40 (wg E).2.1))))))) := by
    show (Sum.inl (wc E 4, 8, .inr (.inr (.inr (.inr (fun q => if q < (wg E).2.1 + 1 then some (wa E 40 q) else none))))) : va_E) = _
    congr 7
    funext x
    rw [hi]
    simp only [va_up]
    by_cases h1 : x = (wg E).2.1
    · subst h1
      simp
    · rw [if_neg h1]
      by_cases h2 : x < (wg E).2.1
      · rw [if_pos h2, if_pos (by omega)]
      · rw [if_neg h2, if_neg (by omega)]
  rw [hc] at hset
  unfold cont at hq1
  rcases kd_cases ((wg E).1 (wg E).2.1) with hk | hk | hk | hk | hk
  · rw [co2 E _ _ hk] at hq1
    refine va_astqO (D := wD E) (E := RX5) (r := (RX2, TX2, 6)) X.1.1 X.1.2.1 X.2.1.1 hW.1 hW.2.1 hW.2.2.1 q0 4 q1 2 hq0 rfl (X.2.1.2.2.1 _ nw1259) hq1 rfl hin hdg (fun H1 locs1 hP hD hS => ?_)
    rw [hset] at hP hD
    exact kk H1 locs1 ⟨hP, hD, hS, hok⟩
  · rw [co3 E _ _ hk] at hq1
    refine va_astqO (D := wD E) (E := RX5) (r := (RX3, TX3, 7)) X.1.1 X.1.2.1 X.2.1.1 hW.1 hW.2.1 hW.2.2.1 q0 4 q1 3 hq0 rfl (X.2.1.2.2.1 _ nw1260) hq1 rfl hin hdg (fun H1 locs1 hP hD hS => ?_)
    rw [hset] at hP hD
    exact kk H1 locs1 ⟨hP, hD, hS, hok⟩
  · rw [co8 E _ _ hk] at hq1
    refine va_astqO (D := wD E) (E := RX5) (r := (RX8, TX8, 7)) X.1.1 X.1.2.1 X.2.1.1 hW.1 hW.2.1 hW.2.2.1 q0 4 q1 8 hq0 rfl (X.2.1.2.2.1 _ nw1262) hq1 rfl hin hdg (fun H1 locs1 hP hD hS => ?_)
    rw [hset] at hP hD
    exact kk H1 locs1 ⟨hP, hD, hS, hok⟩
  · rw [co10 E _ _ hk] at hq1
    refine va_astqO (D := wD E) (E := RX5) (r := (RX10, TX10, 7)) X.1.1 X.1.2.1 X.2.1.1 hW.1 hW.2.1 hW.2.2.1 q0 4 q1 10 hq0 rfl (X.2.1.2.2.1 _ nw1261) hq1 rfl hin hdg (fun H1 locs1 hP hD hS => ?_)
    rw [hset] at hP hD
    exact kk H1 locs1 ⟨hP, hD, hS, hok⟩
  · rw [co5 E _ _ hk] at hq1
    refine va_astq (D := wD E) (r := (RX5, TX5, 6)) X.1.1 X.1.2.1 X.2.1.1 hW.1 hW.2.1 hW.2.2.1 q0 4 q1 5 hq0 rfl hq1 rfl hin hdg (fun H1 locs1 hP hD hS => ?_)
    rw [hset] at hP hD
    exact kk H1 locs1 ⟨hP, hD, hS, hok⟩
theorem exC_3 (h : exC E) : (∀ b, (3, b) ∈ wC E → b = 0) ∧ ∀ b, (4, b) ∈ wC E → b = 0 := by
  refine ⟨fun b hb => ?_, fun b hb => ?_⟩
  · rcases h _ hb with h1 | h1 | h1
    · exact wStat_3 _ h1 (Or.inl rfl)
    · obtain ⟨h2, -⟩ := h1; simp at h2
    · obtain ⟨h2, -⟩ := h1; simp at h2
  · rcases h _ hb with h1 | h1 | h1
    · exact wStat_3 _ h1 (Or.inr rfl)
    · obtain ⟨h2, -⟩ := h1; simp at h2
    · obtain ⟨h2, -⟩ := h1; simp at h2
def uX11_member (g : GS) (a1 a2 a3 : Int32) (I : MI) (J : MJ) (Q : Int32 → GS → MI → MJ → Prop) : Prop :=
  (vp_in (I 0 0 10) 8 ∧ (I 0 0 10).toNatClampNeg = g.2.1) ∧ ∀ I2, I2 = pI I g.2.1 (pRow (I 0 0 10) a3 (xOf a1 a2)) → ∀ I3, I3 = u3 I2 0 0 (upd (I2 0 0) 10 (I2 0 0 10 + 1)) → Q (I3 0 0 10 - 1) (va_up g.1 g.2.1 (kcOf a1), g.2.1 + 1, g.2.2) I3 J

set_option maxHeartbeats 4000000 in
set_option maxRecDepth 100000 in
theorem member_tail {a1 a2 a3 : Int32} {Q : Int32 → GS → MI → MJ → Prop} (X : Cx E cX11_member 4 RX11 (some .int) p s m args c meth) (hex : exC E) (hW : Wd E I J s H locs) (h : uX11_member (wg E) a1 a2 a3 I J Q) (hl : lv_has ls 4 [(0, .ref (wa E 0 0)), (1, .int a1), (2, .int a2), (3, .int a3)]) :
    W p l e (rmN 5 3 19 140) s m args below meth c H locs 0 0 (MQ below (QG E Q) args s 3 19 (AA E)) (F0 m 79 ls []) := by
  have hx := X.1.1
  have hb := X.1.2.1
  obtain ⟨⟨hin, hi⟩, h⟩ := h
  refine lv_aload_n hx hb dX11_member_79 rfl (lv_at hl 0 rfl) ?_
  refine r_get X hW 2 (okS hW sc0_0) rfl rfl inX11 (Nat.le_of_ble_eq_true rfl) tw134 rfl dX11_member_80 ?_
  refine lv_aload_n hx hb dX11_member_83 rfl (lv_at hl 0 rfl) ?_
  refine r_get X hW 10 (okS hW sc0_0) rfl rfl inX11 (Nat.le_of_ble_eq_true rfl) tw142 rfl dX11_member_84 ?_
  refine lv_aload_n hx hb dX11_member_87 rfl (lv_at hl 0 rfl) ?_
  refine lv_iload_n hx hb dX11_member_88 rfl (lv_at hl 1 rfl) ?_
  refine lv_iload_n hx hb dX11_member_89 rfl (lv_at hl 2 rfl) ?_
  refine lv_iload_n hx hb dX11_member_90 rfl (lv_at hl 3 rfl) ?_
  refine va_callr (rn_Vg X hW (As := [.int a1, .int a2, .int a3]) (rest := [.int (I 0 0 10), .ref (wa E 4 0)]) (okS hW sc0_0) rfl rfl (kX11_newPerson hex) mbX11_newPerson tw275 tw277 tp3 rfl hl.1 (Nat.le_of_ble_eq_true rfl) ⟨(Nat.le_of_ble_eq_true rfl), (Nat.le_of_ble_eq_true rfl)⟩ ⟨(Nat.le_of_ble_eq_true rfl), (Nat.le_of_ble_eq_true rfl)⟩ dX11_member_91) hW.2.2.1 (fun q _ h => h) (fun q h => h) (fun u q t H locs ht hvm _ hB hz hk hS => ?_)
  obtain ⟨-, hP, -, hD, hC⟩ := hB
  rw [ht] at hP
  have X1 := X.to (E' := addP E (kcOf a1) q u.1 u.2) ⟨rfl, rfl, rfl⟩
  have hW1 : Wd (addP E (kcOf a1) q u.1 u.2) (pI I (wg E).2.1 (pRow (I 0 0 10) a3 (xOf a1 a2))) J s H locs := ⟨hP, hD, hS, hC⟩
  obtain ⟨I2, eI2⟩ : ∃ z, z = pI I (wg E).2.1 (pRow (I 0 0 10) a3 (xOf a1 a2)) := ⟨_, rfl⟩
  rw [← eI2] at hW1
  have h := h I2 eI2
  have e40 : wa (addP E (kcOf a1) q u.1 u.2) 40 (wg E).2.1 = q := by simp [wa, addP]
  have e4 : wa (addP E (kcOf a1) q u.1 u.2) 4 0 = wa E 4 0 := by simp [wa, addP]
  have e0 : wa (addP E (kcOf a1) q u.1 u.2) 0 0 = wa E 0 0 := by simp [wa, addP]
  have e17 : wa (addP E (kcOf a1) q u.1 u.2) 17 0 = wa E 17 0 := by simp [wa, addP]
  refine W.eq (g2 := F0 m 94 ls [.ref (wa (addP E (kcOf a1) q u.1 u.2) 40 (wg E).2.1), .int (I 0 0 10), .ref (wa (addP E (kcOf a1) q u.1 u.2) 4 0)]) (by rw [e40, e4]) ?_
  rw [← e0] at hl
  refine r_astP X1 hW1 (List.mem_append_right _ List.mem_cons_self) (fun b hb => ?_) hin hi (okC_incP hW.2.2.2) dX11_member_94 (fun H locs hW2 => ?_)
  · rcases List.mem_append.mp (show (4, b) ∈ wC E ++ [(40, (wg E).2.1), (41, (wg E).2.1), (42, (wg E).2.1)] from hb) with h1 | h1
    · exact (exC_3 hex).2 b h1
    · simp at h1
  have X2 := X.to (E' := incP (addP E (kcOf a1) q u.1 u.2)) ⟨rfl, rfl, rfl⟩
  have hl : lv_has ls 4 [(0, .ref (wa (incP (addP E (kcOf a1) q u.1 u.2)) 0 0)), (1, .int a1), (2, .int a2), (3, .int a3)] := hl
  refine lv_aload_n hx hb dX11_member_95 rfl (lv_at hl 0 rfl) ?_
  refine lv_dup hx hb dX11_member_96 rfl ?_
  refine r_get X2 hW2 10 (okS hW2 sc0_0) rfl rfl inX11 (Nat.le_of_ble_eq_true rfl) tw142 rfl dX11_member_97 ?_
  refine lv_iconst (v := 1) hx hb dX11_member_100 (by decide) ?_
  refine lv_iadd hx hb dX11_member_101 ?_
  refine r_putI X2 hW2 10 (okS hW2 sc0_0) rfl rfl inX11 tyX11 tyX11_ok nmX11 (Nat.le_of_ble_eq_true rfl) tw142 rfl rfl rfl rfl (Nat.le_of_ble_eq_true rfl) rfl dX11_member_102 (fun H locs hW3 => ?_)
  obtain ⟨I3, eI3⟩ : ∃ z, z = u3 I2 0 0 (upd (I2 0 0) 10 (I2 0 0 10 + 1)) := ⟨_, rfl⟩
  rw [← eI3] at hW3
  have h := h I3 eI3
  refine lv_aload_n hx hb dX11_member_105 rfl (lv_at hl 0 rfl) ?_
  refine r_get X2 hW3 10 (okS hW3 sc0_0) rfl rfl inX11 (Nat.le_of_ble_eq_true rfl) tw142 rfl dX11_member_106 ?_
  refine lv_iconst (v := 1) hx hb dX11_member_109 (by decide) ?_
  refine lv_isub hx hb dX11_member_110 ?_
  refine W.widen (k := 3) (n := 19) (Nat.le_of_ble_eq_true rfl) (Nat.le_of_ble_eq_true rfl) ?_
  exact W.iret X.1.1 X.1.2.1 X.2.2.2.1 (fun t ht hw => ⟨⟨_, (incP (addP E (kcOf a1) q u.1 u.2), I3, J), rfl, ⟨h, ⟨rfl, rfl, rfl⟩, exC_incP hex, ⟨e0, e17⟩⟩, by rw [ht]; exact Nat.le_trans X.2.2.1 hW3.2.2.1.1, by rw [ht]; exact hW3.1, KK.warm hw X2.2.1, hW3.2.1, hW3.2.2.2⟩, hW3.2.2.1.F ht⟩) hW3.2.2.1.2.2 dX11_member_111 X.2.2.2.2
end Make3

def wX11_member_b54 (g : GS) (Q : Int32 → GS → MI → MJ → Prop) (v1 : Int32) (v2 : Int32) (v3 : Int32) (I : MI) (J : MJ) : Prop :=
  wX11_within g v3 0 10 I J (fun r58 I58 J58 => ((¬ r58 = 0 → (((I58 0 0 10) < 8 → uX11_member g v1 v2 v3 I58 J58 Q) ∧ (¬ (I58 0 0 10) < 8 → Q ((-104)) g I58 J58))) ∧ (r58 = 0 → Q ((-102)) g I58 J58)))
set_option maxHeartbeats 4000000 in
set_option maxRecDepth 100000 in
theorem bX11_member_54 {p : Program} {l : Launch} {e : Env} {s : State} {m : MethodId} {args : Array Value} {below : List Frame} {meth : Method} {c : Code} {E : WE} {Q : Int32 → GS → MI → MJ → Prop} (X : Cx E cX11_member 4 RX11 ((Option.some FieldType.int)) p s m args c meth) : ∀ (v1 : Int32) (v2 : Int32) (v3 : Int32) (I : MI) (J : MJ) (H : Heap) (locs : List Loc) (ls : Array Slot), exC E → wX11_member_b54 (wg E) Q v1 v2 v3 I J → Wd E I J s H locs → lv_has ls 4 [(0, .ref (wa E 0 0)), (1, .int v1), (2, .int v2), (3, .int v3)] → W p l e (rmN 5 3 19 140) s m args below meth c H locs 0 0 (MQ below (QG E Q) args s 3 19 (AA E)) (F0 m 54 ls []) := by
  have hx := X.1.1
  have hb := X.1.2.1
  intro v1 v2 v3 I J H locs ls hex h hW hl
  refine lv_iload_n hx hb dX11_member_54 rfl (lv_at hl 3 rfl) ?_
  refine lv_iconst (v := 0) hx hb dX11_member_55 (by decide) ?_
  refine lv_bipush (v := 10) hx hb dX11_member_56 (by decide) ?_
  refine af_i hW (rn_S X hW (As := [.int v3, .int 0, .int 10]) (rest := []) (kX11_within h) mbX11_within tw262 tw207 rfl hl.1 (Nat.le_of_ble_eq_true rfl) ⟨(Nat.le_of_ble_eq_true rfl), (Nat.le_of_ble_eq_true rfl)⟩ dX11_member_58) (fun r58 I58 J58 H locs h hW => ?_)
  refine lv_if_ne (tgt := 67) hx hb dX11_member_61 (by decide) (fun c61 => ?_) (fun c61 => ?_)
  · have h := h.1 c61
    refine lv_aload_n hx hb dX11_member_67 rfl (lv_at hl 0 rfl) ?_
    refine r_get X hW 10 (okS hW sc0_0) rfl rfl inX11 (Nat.le_of_ble_eq_true rfl) tw142 rfl dX11_member_68 ?_
    refine lv_bipush (v := 8) hx hb dX11_member_71 (by decide) ?_
    refine lv_icmp_lt (tgt := 79) hx hb dX11_member_73 (by decide) (fun c73 => ?_) (fun c73 => ?_)
    · have h := h.1 c73
      exact member_tail X hex hW h (lv_sub hl [0, 1, 2, 3] rfl)
    · have h := h.2 c73
      refine lv_bipush (v := (-104)) hx hb dX11_member_76 (by decide) ?_
      exact e_g X hex hW h dX11_member_78
  · have h := h.2 c61
    refine lv_bipush (v := (-102)) hx hb dX11_member_64 (by decide) ?_
    exact e_g X hex hW h dX11_member_66
def wX11_member_b45 (g : GS) (Q : Int32 → GS → MI → MJ → Prop) (v1 : Int32) (v2 : Int32) (v3 : Int32) (t0 : Int32) (t1 : Int32) (t2 : Int32) (I : MI) (J : MJ) : Prop :=
  wX11_within g t2 t1 t0 I J (fun r45 I45 J45 => ((¬ r45 = 0 → wX11_member_b54 g Q v1 v2 v3 I45 J45) ∧ (r45 = 0 → Q ((-102)) g I45 J45)))
set_option maxHeartbeats 4000000 in
set_option maxRecDepth 100000 in
theorem bX11_member_45 {p : Program} {l : Launch} {e : Env} {s : State} {m : MethodId} {args : Array Value} {below : List Frame} {meth : Method} {c : Code} {E : WE} {Q : Int32 → GS → MI → MJ → Prop} (X : Cx E cX11_member 4 RX11 ((Option.some FieldType.int)) p s m args c meth) : ∀ (v1 : Int32) (v2 : Int32) (v3 : Int32) (t0 : Int32) (t1 : Int32) (t2 : Int32) (I : MI) (J : MJ) (H : Heap) (locs : List Loc) (ls : Array Slot), exC E → wX11_member_b45 (wg E) Q v1 v2 v3 t0 t1 t2 I J → Wd E I J s H locs → lv_has ls 4 [(0, .ref (wa E 0 0)), (1, .int v1), (2, .int v2), (3, .int v3)] → W p l e (rmN 5 3 19 140) s m args below meth c H locs 0 0 (MQ below (QG E Q) args s 3 19 (AA E)) (F0 m 45 ls [.int t0, .int t1, .int t2]) := by
  have hx := X.1.1
  have hb := X.1.2.1
  intro v1 v2 v3 t0 t1 t2 I J H locs ls hex h hW hl
  refine af_i hW (rn_S X hW (As := [.int t2, .int t1, .int t0]) (rest := []) (kX11_within h) mbX11_within tw262 tw207 rfl hl.1 (Nat.le_of_ble_eq_true rfl) ⟨(Nat.le_of_ble_eq_true rfl), (Nat.le_of_ble_eq_true rfl)⟩ dX11_member_45) (fun r45 I45 J45 H locs h hW => ?_)
  refine lv_if_ne (tgt := 54) hx hb dX11_member_48 (by decide) (fun c48 => ?_) (fun c48 => ?_)
  · have h := h.1 c48
    exact bX11_member_54 X v1 v2 v3 _ _ _ _ _ hex h hW (lv_sub hl [0, 1, 2, 3] rfl)
  · have h := h.2 c48
    refine lv_bipush (v := (-102)) hx hb dX11_member_51 (by decide) ?_
    exact e_g X hex hW h dX11_member_53
def wX11_member_b28 (g : GS) (Q : Int32 → GS → MI → MJ → Prop) (v1 : Int32) (v2 : Int32) (v3 : Int32) (I : MI) (J : MJ) : Prop :=
  ((3 ≤ v1 → wX11_member_b54 g Q v1 v2 v3 I J) ∧ (¬ 3 ≤ v1 → ((¬ v1 = 2 → wX11_member_b45 g Q v1 v2 v3 0 0 v2 I J) ∧ (v1 = 2 → wX11_member_b45 g Q v1 v2 v3 5 0 v2 I J))))
set_option maxHeartbeats 4000000 in
set_option maxRecDepth 100000 in
theorem bX11_member_28 {p : Program} {l : Launch} {e : Env} {s : State} {m : MethodId} {args : Array Value} {below : List Frame} {meth : Method} {c : Code} {E : WE} {Q : Int32 → GS → MI → MJ → Prop} (X : Cx E cX11_member 4 RX11 ((Option.some FieldType.int)) p s m args c meth) : ∀ (v1 : Int32) (v2 : Int32) (v3 : Int32) (I : MI) (J : MJ) (H : Heap) (locs : List Loc) (ls : Array Slot), exC E → wX11_member_b28 (wg E) Q v1 v2 v3 I J → Wd E I J s H locs → lv_has ls 4 [(0, .ref (wa E 0 0)), (1, .int v1), (2, .int v2), (3, .int v3)] → W p l e (rmN 5 3 19 140) s m args below meth c H locs 0 0 (MQ below (QG E Q) args s 3 19 (AA E)) (F0 m 28 ls []) := by
  have hx := X.1.1
  have hb := X.1.2.1
  intro v1 v2 v3 I J H locs ls hex h hW hl
  refine lv_iload_n hx hb dX11_member_28 rfl (lv_at hl 1 rfl) ?_
  refine lv_iconst (v := 3) hx hb dX11_member_29 (by decide) ?_
  refine lv_icmp_ge (tgt := 54) hx hb dX11_member_30 (by decide) (fun c30 => ?_) (fun c30 => ?_)
  · have h := h.1 c30
    exact bX11_member_54 X v1 v2 v3 _ _ _ _ _ hex h hW (lv_sub hl [0, 1, 2, 3] rfl)
  · have h := h.2 c30
    refine lv_iload_n hx hb dX11_member_33 rfl (lv_at hl 2 rfl) ?_
    refine lv_iconst (v := 0) hx hb dX11_member_34 (by decide) ?_
    refine lv_iload_n hx hb dX11_member_35 rfl (lv_at hl 1 rfl) ?_
    refine lv_iconst (v := 2) hx hb dX11_member_36 (by decide) ?_
    refine lv_icmp_ne (tgt := 44) hx hb dX11_member_37 (by decide) (fun c37 => ?_) (fun c37 => ?_)
    · have h := h.1 c37
      refine lv_iconst (v := 0) hx hb dX11_member_44 (by decide) ?_
      exact bX11_member_45 X v1 v2 v3 0 0 v2 _ _ _ _ _ hex h hW (lv_sub hl [0, 1, 2, 3] rfl)
    · have h := h.2 c37
      refine lv_iconst (v := 5) hx hb dX11_member_40 (by decide) ?_
      refine lv_goto (tgt := 45) hx hb dX11_member_41 (by decide) ?_
      exact bX11_member_45 X v1 v2 v3 5 0 v2 _ _ _ _ _ hex h hW (lv_sub hl [0, 1, 2, 3] rfl)
def wX11_member (g : GS) (a1 : Int32) (a2 : Int32) (a3 : Int32) (I : MI) (J : MJ) (Q : Int32 → GS → MI → MJ → Prop) : Prop :=
  wX11_within g a1 0 4 I J (fun r3 I3 J3 => ((¬ r3 = 0 → ((a1 < 3 → wX11_member_b28 g Q a1 a2 a3 I3 J3) ∧ (¬ a1 < 3 → wX11_personAt g a2 I3 J3 (fun o19 I19 J19 => (o19 = none → Q ((-101)) g I19 J19) ∧ (∀ r19, o19 = some r19 → wX11_member_b28 g Q a1 a2 a3 I19 J19))))) ∧ (r3 = 0 → Q ((-102)) g I3 J3)))
theorem mbX11_member : MB yX11_member cX11_member 4 ((Option.some FieldType.int)) 3 := ⟨tw270, tw1, ⟨by decide, by decide⟩, by decide +kernel, by decide +kernel⟩
set_option maxHeartbeats 4000000 in
set_option maxRecDepth 100000 in
theorem kX11_member {l : Launch} {E : WE} {a1 : Int32} {a2 : Int32} {a3 : Int32} {I : MI} {J : MJ} {Q : Int32 → GS → MI → MJ → Prop} (hex : exC E) (h : wX11_member (wg E) a1 a2 a3 I J Q) : Met l yX11_member (wsM yX11_member cX11_member 4 ((Option.some FieldType.int))) (rmN 5 3 19 140) (va_Pc [.ref (wa E 0 0), .int a1, .int a2, .int a3] (Wp E I J)) (QG E Q) 3 19 (AA E) := by
  refine m_entryA mbX11_member (Nat.le_of_ble_eq_true rfl) ?_
  intro p e s m args below meth c X ls hW hl
  have X : Cx E cX11_member 4 RX11 ((Option.some FieldType.int)) p s m args c meth := X
  have hx := X.1.1
  have hb := X.1.2.1
  have hl : lv_has ls 4 [(0, .ref (wa E 0 0)), (1, .int a1), (2, .int a2), (3, .int a3)] := hl
  refine lv_iload_n hx hb dX11_member_0 rfl (lv_at hl 1 rfl) ?_
  refine lv_iconst (v := 0) hx hb dX11_member_1 (by decide) ?_
  refine lv_iconst (v := 4) hx hb dX11_member_2 (by decide) ?_
  refine af_i hW (rn_S X hW (As := [.int a1, .int 0, .int 4]) (rest := []) (kX11_within h) mbX11_within tw262 tw207 rfl hl.1 (Nat.le_of_ble_eq_true rfl) ⟨(Nat.le_of_ble_eq_true rfl), (Nat.le_of_ble_eq_true rfl)⟩ dX11_member_3) (fun r3 I3 J3 H locs h hW => ?_)
  refine lv_if_ne (tgt := 12) hx hb dX11_member_6 (by decide) (fun c6 => ?_) (fun c6 => ?_)
  · have h := h.1 c6
    refine lv_iload_n hx hb dX11_member_12 rfl (lv_at hl 1 rfl) ?_
    refine lv_iconst (v := 3) hx hb dX11_member_13 (by decide) ?_
    refine lv_icmp_lt (tgt := 28) hx hb dX11_member_14 (by decide) (fun c14 => ?_) (fun c14 => ?_)
    · have h := h.1 c14
      exact bX11_member_28 X a1 a2 a3 _ _ _ _ _ hex h hW (lv_sub hl [0, 1, 2, 3] rfl)
    · have h := h.2 c14
      refine lv_aload_n hx hb dX11_member_17 rfl (lv_at hl 0 rfl) ?_
      refine lv_iload_n hx hb dX11_member_18 rfl (lv_at hl 2 rfl) ?_
      refine af_r hW (rn_V X hW (As := [.int a2]) (rest := []) (okS hW sc0_0) rfl rfl (kX11_personAt h) mbX11_personAt tw271 tw273 tp2 rfl hl.1 (Nat.le_of_ble_eq_true rfl) ⟨(Nat.le_of_ble_eq_true rfl), (Nat.le_of_ble_eq_true rfl)⟩ dX11_member_19) (fun I19 J19 H locs h hW => ?_) (fun r19 I19 J19 H locs c19 h hW => ?_)
      · have h := h.1 rfl
        refine lv_ifnonnullN hx hb dX11_member_22 ?_
        refine lv_bipush (v := (-101)) hx hb dX11_member_25 (by decide) ?_
        exact e_g X hex hW h dX11_member_27
      · have h := h.2 r19 rfl
        refine lv_ifnonnull (tgt := 28) hx hb dX11_member_22 (by decide) ?_
        exact bX11_member_28 X a1 a2 a3 _ _ _ _ _ hex h hW (lv_sub hl [0, 1, 2, 3] rfl)
  · have h := h.2 c6
    refine lv_bipush (v := (-102)) hx hb dX11_member_9 (by decide) ?_
    exact e_g X hex hW h dX11_member_11
def wX4_toRule_b111 (g : GS) (Q : Int32 → Int32 → Int32 → Int32 → Int32 → MI → MJ → Prop) (v2 : Int32) (v3 : Int32) (v4 : Int32) (v5 : Int32) (t0 : Int32) (I : MI) (J : MJ) : Prop :=
  isB v5 ∧ isB t0 ∧ Q (if v3 = 0 then 0 else v2) (if v3 = 0 then v2 else 0) v4 v5 t0 I J
set_option maxHeartbeats 4000000 in
set_option maxRecDepth 100000 in
theorem bX4_toRule_111 {p : Program} {l : Launch} {e : Env} {s : State} {m : MethodId} {args : Array Value} {below : List Frame} {meth : Method} {c : Code} {E : WE} {Q : Int32 → Int32 → Int32 → Int32 → Int32 → MI → MJ → Prop} (X : Cx E cX4_toRule 7 RX4 ((Option.some (FieldType.object "BlackBalls$Rule"))) p s m args c meth) : ∀ (v2 : Int32) (v3 : Int32) (v4 : Int32) (v5 : Int32) (t0 : Int32) (I : MI) (J : MJ) (H : Heap) (locs : List Loc) (ls : Array Slot), exC E → wX4_toRule_b111 (wg E) Q v2 v3 v4 v5 t0 I J → Wd E I J s H locs → lv_has ls 7 [(2, .int v2), (3, .int v3), (4, .int v4), (5, .int v5)] → W p l e (rmN 2 1 5 60) s m args below meth c H locs 0 0 (MQ below (QRn E Q) args s 1 5 (AA E)) (F0 m 111 ls [.int t0]) := by
  have hx := X.1.1
  have hb := X.1.2.1
  intro v2 v3 v4 v5 t0 I J H locs ls hex h hW hl
  refine lv_istore (lv' := [(6, .int t0), (2, .int v2), (3, .int v3), (4, .int v4), (5, .int v5)]) hx hb dX4_toRule_111 hl (by decide) rfl (fun ls hl => ?_)
  exact toRule_tail X hex hW h.1 h.2.1 h.2.2 (lv_sub hl [1, 2, 3, 4, 0] rfl)
def wX4_toRule_b89 (g : GS) (Q : Int32 → Int32 → Int32 → Int32 → Int32 → MI → MJ → Prop) (v2 : Int32) (v3 : Int32) (v4 : Int32) (t0 : Int32) (I : MI) (J : MJ) : Prop :=
  wX4_codeAt g ((I 1 0 1) - 1) I J (fun r98 I98 J98 => ((¬ r98 = 99 → wX4_toRule_b111 g Q v2 v3 v4 t0 0 I98 J98) ∧ (r98 = 99 → wX4_toRule_b111 g Q v2 v3 v4 t0 1 I98 J98)))
set_option maxHeartbeats 4000000 in
set_option maxRecDepth 100000 in
theorem bX4_toRule_89 {p : Program} {l : Launch} {e : Env} {s : State} {m : MethodId} {args : Array Value} {below : List Frame} {meth : Method} {c : Code} {E : WE} {Q : Int32 → Int32 → Int32 → Int32 → Int32 → MI → MJ → Prop} (X : Cx E cX4_toRule 7 RX4 ((Option.some (FieldType.object "BlackBalls$Rule"))) p s m args c meth) : ∀ (v2 : Int32) (v3 : Int32) (v4 : Int32) (t0 : Int32) (I : MI) (J : MJ) (H : Heap) (locs : List Loc) (ls : Array Slot), exC E → wX4_toRule_b89 (wg E) Q v2 v3 v4 t0 I J → Wd E I J s H locs → lv_has ls 7 [(0, .ref (wa E 1 0)), (2, .int v2), (3, .int v3), (4, .int v4)] → W p l e (rmN 2 1 5 60) s m args below meth c H locs 0 0 (MQ below (QRn E Q) args s 1 5 (AA E)) (F0 m 89 ls [.int t0]) := by
  have hx := X.1.1
  have hb := X.1.2.1
  intro v2 v3 v4 t0 I J H locs ls hex h hW hl
  refine lv_istore (lv' := [(5, .int t0), (0, .ref (wa E 1 0)), (2, .int v2), (3, .int v3), (4, .int v4)]) hx hb dX4_toRule_89 hl (by decide) rfl (fun ls hl => ?_)
  refine lv_aload_n hx hb dX4_toRule_91 rfl (lv_at hl 1 rfl) ?_
  refine lv_aload_n hx hb dX4_toRule_92 rfl (lv_at hl 1 rfl) ?_
  refine r_get X hW 1 (okS hW sc1_0) rfl rfl inX4 (Nat.le_of_ble_eq_true rfl) tw33 rfl dX4_toRule_93 ?_
  refine lv_iconst (v := 1) hx hb dX4_toRule_96 (by decide) ?_
  refine lv_isub hx hb dX4_toRule_97 ?_
  refine af_i hW (rn_V X hW (As := [.int ((I 1 0 1) - 1)]) (rest := []) (okS hW sc1_0) rfl rfl (kX4_codeAt h) mbX4_codeAt tw225 tw227 tp0 rfl hl.1 (Nat.le_of_ble_eq_true rfl) ⟨(Nat.le_of_ble_eq_true rfl), (Nat.le_of_ble_eq_true rfl)⟩ dX4_toRule_98) (fun r98 I98 J98 H locs h hW => ?_)
  refine lv_bipush (v := 99) hx hb dX4_toRule_101 (by decide) ?_
  refine lv_icmp_ne (tgt := 110) hx hb dX4_toRule_103 (by decide) (fun c103 => ?_) (fun c103 => ?_)
  · have h := h.1 c103
    refine lv_iconst (v := 0) hx hb dX4_toRule_110 (by decide) ?_
    exact bX4_toRule_111 X v2 v3 v4 t0 0 _ _ _ _ _ hex h hW (lv_sub hl [2, 3, 4, 0] rfl)
  · have h := h.2 c103
    refine lv_iconst (v := 1) hx hb dX4_toRule_106 (by decide) ?_
    refine lv_goto (tgt := 111) hx hb dX4_toRule_107 (by decide) ?_
    exact bX4_toRule_111 X v2 v3 v4 t0 1 _ _ _ _ _ hex h hW (lv_sub hl [2, 3, 4, 0] rfl)
def wX4_toRule_b59 (g : GS) (Q : Int32 → Int32 → Int32 → Int32 → Int32 → MI → MJ → Prop) (v1 : Int32) (v2 : Int32) (t0 : Int32) (I : MI) (J : MJ) : Prop :=
  wX4_codeAt g (v1 + 1) I J (fun r64 I64 J64 => wX4_codeAt g (v1 + 2) I64 J64 (fun r76 I76 J76 => ((¬ r76 = 116 → wX4_toRule_b89 g Q v2 t0 (r64 - 48) 0 I76 J76) ∧ (r76 = 116 → wX4_toRule_b89 g Q v2 t0 (r64 - 48) 1 I76 J76))))
set_option maxHeartbeats 4000000 in
set_option maxRecDepth 100000 in
theorem bX4_toRule_59 {p : Program} {l : Launch} {e : Env} {s : State} {m : MethodId} {args : Array Value} {below : List Frame} {meth : Method} {c : Code} {E : WE} {Q : Int32 → Int32 → Int32 → Int32 → Int32 → MI → MJ → Prop} (X : Cx E cX4_toRule 7 RX4 ((Option.some (FieldType.object "BlackBalls$Rule"))) p s m args c meth) : ∀ (v1 : Int32) (v2 : Int32) (t0 : Int32) (I : MI) (J : MJ) (H : Heap) (locs : List Loc) (ls : Array Slot), exC E → wX4_toRule_b59 (wg E) Q v1 v2 t0 I J → Wd E I J s H locs → lv_has ls 7 [(0, .ref (wa E 1 0)), (1, .int v1), (2, .int v2)] → W p l e (rmN 2 1 5 60) s m args below meth c H locs 0 0 (MQ below (QRn E Q) args s 1 5 (AA E)) (F0 m 59 ls [.int t0]) := by
  have hx := X.1.1
  have hb := X.1.2.1
  intro v1 v2 t0 I J H locs ls hex h hW hl
  refine lv_istore_n (lv' := [(3, .int t0), (0, .ref (wa E 1 0)), (1, .int v1), (2, .int v2)]) hx hb dX4_toRule_59 rfl hl (by decide) rfl (fun ls hl => ?_)
  refine lv_aload_n hx hb dX4_toRule_60 rfl (lv_at hl 1 rfl) ?_
  refine lv_iload_n hx hb dX4_toRule_61 rfl (lv_at hl 2 rfl) ?_
  refine lv_iconst (v := 1) hx hb dX4_toRule_62 (by decide) ?_
  refine lv_iadd hx hb dX4_toRule_63 ?_
  refine af_i hW (rn_V X hW (As := [.int (v1 + 1)]) (rest := []) (okS hW sc1_0) rfl rfl (kX4_codeAt h) mbX4_codeAt tw225 tw227 tp0 rfl hl.1 (Nat.le_of_ble_eq_true rfl) ⟨(Nat.le_of_ble_eq_true rfl), (Nat.le_of_ble_eq_true rfl)⟩ dX4_toRule_64) (fun r64 I64 J64 H locs h hW => ?_)
  refine lv_bipush (v := 48) hx hb dX4_toRule_67 (by decide) ?_
  refine lv_isub hx hb dX4_toRule_69 ?_
  refine lv_istore (lv' := [(4, .int (r64 - 48)), (3, .int t0), (0, .ref (wa E 1 0)), (1, .int v1), (2, .int v2)]) hx hb dX4_toRule_70 hl (by decide) rfl (fun ls hl => ?_)
  refine lv_aload_n hx hb dX4_toRule_72 rfl (lv_at hl 2 rfl) ?_
  refine lv_iload_n hx hb dX4_toRule_73 rfl (lv_at hl 3 rfl) ?_
  refine lv_iconst (v := 2) hx hb dX4_toRule_74 (by decide) ?_
  refine lv_iadd hx hb dX4_toRule_75 ?_
  refine af_i hW (rn_V X hW (As := [.int (v1 + 2)]) (rest := []) (okS hW sc1_0) rfl rfl (kX4_codeAt h) mbX4_codeAt tw225 tw227 tp0 rfl hl.1 (Nat.le_of_ble_eq_true rfl) ⟨(Nat.le_of_ble_eq_true rfl), (Nat.le_of_ble_eq_true rfl)⟩ dX4_toRule_76) (fun r76 I76 J76 H locs h hW => ?_)
  refine lv_bipush (v := 116) hx hb dX4_toRule_79 (by decide) ?_
  refine lv_icmp_ne (tgt := 88) hx hb dX4_toRule_81 (by decide) (fun c81 => ?_) (fun c81 => ?_)
  · have h := h.1 c81
    refine lv_iconst (v := 0) hx hb dX4_toRule_88 (by decide) ?_
    exact bX4_toRule_89 X v2 t0 (r64 - 48) 0 _ _ _ _ _ hex h hW (lv_sub hl [2, 4, 1, 0] rfl)
  · have h := h.2 c81
    refine lv_iconst (v := 1) hx hb dX4_toRule_84 (by decide) ?_
    refine lv_goto (tgt := 89) hx hb dX4_toRule_85 (by decide) ?_
    exact bX4_toRule_89 X v2 t0 (r64 - 48) 1 _ _ _ _ _ hex h hW (lv_sub hl [2, 4, 1, 0] rfl)
def wX4_toRule_b44 (g : GS) (Q : Int32 → Int32 → Int32 → Int32 → Int32 → MI → MJ → Prop) (v1 : Int32) (v2 : Int32) (I : MI) (J : MJ) : Prop :=
  wX4_codeAt g 0 I J (fun r46 I46 J46 => ((¬ r46 = 98 → wX4_toRule_b59 g Q v1 v2 0 I46 J46) ∧ (r46 = 98 → wX4_toRule_b59 g Q v1 v2 1 I46 J46)))
set_option maxHeartbeats 4000000 in
set_option maxRecDepth 100000 in
theorem bX4_toRule_44 {p : Program} {l : Launch} {e : Env} {s : State} {m : MethodId} {args : Array Value} {below : List Frame} {meth : Method} {c : Code} {E : WE} {Q : Int32 → Int32 → Int32 → Int32 → Int32 → MI → MJ → Prop} (X : Cx E cX4_toRule 7 RX4 ((Option.some (FieldType.object "BlackBalls$Rule"))) p s m args c meth) : ∀ (v1 : Int32) (v2 : Int32) (I : MI) (J : MJ) (H : Heap) (locs : List Loc) (ls : Array Slot), exC E → wX4_toRule_b44 (wg E) Q v1 v2 I J → Wd E I J s H locs → lv_has ls 7 [(0, .ref (wa E 1 0)), (1, .int v1), (2, .int v2)] → W p l e (rmN 2 1 5 60) s m args below meth c H locs 0 0 (MQ below (QRn E Q) args s 1 5 (AA E)) (F0 m 44 ls []) := by
  have hx := X.1.1
  have hb := X.1.2.1
  intro v1 v2 I J H locs ls hex h hW hl
  refine lv_aload_n hx hb dX4_toRule_44 rfl (lv_at hl 0 rfl) ?_
  refine lv_iconst (v := 0) hx hb dX4_toRule_45 (by decide) ?_
  refine af_i hW (rn_V X hW (As := [.int 0]) (rest := []) (okS hW sc1_0) rfl rfl (kX4_codeAt h) mbX4_codeAt tw225 tw227 tp0 rfl hl.1 (Nat.le_of_ble_eq_true rfl) ⟨(Nat.le_of_ble_eq_true rfl), (Nat.le_of_ble_eq_true rfl)⟩ dX4_toRule_46) (fun r46 I46 J46 H locs h hW => ?_)
  refine lv_bipush (v := 98) hx hb dX4_toRule_49 (by decide) ?_
  refine lv_icmp_ne (tgt := 58) hx hb dX4_toRule_51 (by decide) (fun c51 => ?_) (fun c51 => ?_)
  · have h := h.1 c51
    refine lv_iconst (v := 0) hx hb dX4_toRule_58 (by decide) ?_
    exact bX4_toRule_59 X v1 v2 0 _ _ _ _ _ hex h hW (lv_sub hl [0, 1, 2] rfl)
  · have h := h.2 c51
    refine lv_iconst (v := 1) hx hb dX4_toRule_54 (by decide) ?_
    refine lv_goto (tgt := 59) hx hb dX4_toRule_55 (by decide) ?_
    exact bX4_toRule_59 X v1 v2 1 _ _ _ _ _ hex h hW (lv_sub hl [0, 1, 2] rfl)
def wX4_toRule_b4 (g : GS) (Q : Int32 → Int32 → Int32 → Int32 → Int32 → MI → MJ → Prop) : Nat → Int32 → Int32 → MI → MJ → Prop
  | 0, _, _, _, _ => False
  | n + 1, v1, v2, I, J => (((I 1 0 1) ≤ v1 → wX4_toRule_b44 g Q v1 v2 I J) ∧ (¬ (I 1 0 1) ≤ v1 → vp_in v1 20 ∧ ((((I 2 0 (Int32.toNatClampNeg v1)) = 113 → wX4_toRule_b44 g Q v1 v2 I J) ∧ (¬ (I 2 0 (Int32.toNatClampNeg v1)) = 113 → vp_in v1 20 ∧ (wX4_toRule_b4 g Q n (v1 + 1) (((10 * v2) + (I 2 0 (Int32.toNatClampNeg v1))) - 48) I J))))))
set_option maxHeartbeats 4000000 in
set_option maxRecDepth 100000 in
theorem bX4_toRule_4 {p : Program} {l : Launch} {e : Env} {s : State} {m : MethodId} {args : Array Value} {below : List Frame} {meth : Method} {c : Code} {E : WE} {Q : Int32 → Int32 → Int32 → Int32 → Int32 → MI → MJ → Prop} (X : Cx E cX4_toRule 7 RX4 ((Option.some (FieldType.object "BlackBalls$Rule"))) p s m args c meth) (n : Nat) : ∀ (v1 : Int32) (v2 : Int32) (I : MI) (J : MJ) (H : Heap) (locs : List Loc) (ls : Array Slot), exC E → wX4_toRule_b4 (wg E) Q n v1 v2 I J → Wd E I J s H locs → lv_has ls 7 [(0, .ref (wa E 1 0)), (1, .int v1), (2, .int v2)] → W p l e (rmN 2 1 5 60) s m args below meth c H locs 0 0 (MQ below (QRn E Q) args s 1 5 (AA E)) (F0 m 4 ls []) := by
  have hx := X.1.1
  have hb := X.1.2.1
  induction n with
  | zero => intro v1 v2 I J H locs ls hex h hW hl; exact h.elim
  | succ n ih =>
    intro v1 v2 I J H locs ls hex h hW hl
    refine lv_iload_n hx hb dX4_toRule_4 rfl (lv_at hl 1 rfl) ?_
    refine lv_aload_n hx hb dX4_toRule_5 rfl (lv_at hl 0 rfl) ?_
    refine r_get X hW 1 (okS hW sc1_0) rfl rfl inX4 (Nat.le_of_ble_eq_true rfl) tw33 rfl dX4_toRule_6 ?_
    refine lv_icmp_ge (tgt := 44) hx hb dX4_toRule_9 (by decide) (fun c9 => ?_) (fun c9 => ?_)
    · have h := h.1 c9
      exact bX4_toRule_44 X v1 v2 _ _ _ _ _ hex h hW (lv_sub hl [0, 1, 2] rfl)
    · have h := h.2 c9
      refine lv_aload_n hx hb dX4_toRule_12 rfl (lv_at hl 0 rfl) ?_
      refine r_get X hW 0 (okS hW sc1_0) rfl rfl inX4 (Nat.le_of_ble_eq_true rfl) tw32 rfl dX4_toRule_13 ?_
      refine lv_iload_n hx hb dX4_toRule_16 rfl (lv_at hl 1 rfl) ?_
      refine r_iald X hW (okS hW sc2_0) rfl h.1 dX4_toRule_17 ?_
      have h := h.2
      refine lv_bipush (v := 113) hx hb dX4_toRule_18 (by decide) ?_
      refine lv_icmp_eq (tgt := 44) hx hb dX4_toRule_20 (by decide) (fun c20 => ?_) (fun c20 => ?_)
      · have h := h.1 c20
        exact bX4_toRule_44 X v1 v2 _ _ _ _ _ hex h hW (lv_sub hl [0, 1, 2] rfl)
      · have h := h.2 c20
        refine lv_bipush (v := 10) hx hb dX4_toRule_23 (by decide) ?_
        refine lv_iload_n hx hb dX4_toRule_25 rfl (lv_at hl 2 rfl) ?_
        refine lv_imul hx hb dX4_toRule_26 ?_
        refine lv_aload_n hx hb dX4_toRule_27 rfl (lv_at hl 0 rfl) ?_
        refine r_get X hW 0 (okS hW sc1_0) rfl rfl inX4 (Nat.le_of_ble_eq_true rfl) tw32 rfl dX4_toRule_28 ?_
        refine lv_iload_n hx hb dX4_toRule_31 rfl (lv_at hl 1 rfl) ?_
        refine r_iald X hW (okS hW sc2_0) rfl h.1 dX4_toRule_32 ?_
        have h := h.2
        refine lv_iadd hx hb dX4_toRule_33 ?_
        refine lv_bipush (v := 48) hx hb dX4_toRule_34 (by decide) ?_
        refine lv_isub hx hb dX4_toRule_36 ?_
        refine lv_istore_n (lv' := [(2, .int (((10 * v2) + (I 2 0 (Int32.toNatClampNeg v1))) - 48)), (0, .ref (wa E 1 0)), (1, .int v1)]) hx hb dX4_toRule_37 rfl hl (by decide) rfl (fun ls hl => ?_)
        refine lv_iinc (v := v1 + 1) (lv' := [(1, .int (v1 + 1)), (2, .int (((10 * v2) + (I 2 0 (Int32.toNatClampNeg v1))) - 48)), (0, .ref (wa E 1 0))]) hx hb dX4_toRule_38 hl (k := 2) rfl rfl (by decide) rfl (fun ls hl => ?_)
        refine lv_goto (tgt := 4) hx hb dX4_toRule_41 (by decide) ?_
        exact ih (v1 + 1) (((10 * v2) + (I 2 0 (Int32.toNatClampNeg v1))) - 48) _ _ _ _ _ hex h hW (lv_sub hl [2, 0, 1] rfl)
def wX4_toRule (g : GS) (I : MI) (J : MJ) (Q : Int32 → Int32 → Int32 → Int32 → Int32 → MI → MJ → Prop) : Prop :=
  ∃ n4, wX4_toRule_b4 g Q n4 1 0 I J
theorem mbX4_toRule : MB yX4_toRule cX4_toRule 7 ((Option.some (FieldType.object "BlackBalls$Rule"))) 0 := ⟨tw224, tw2, ⟨by decide, by decide⟩, by decide +kernel, by decide +kernel⟩
set_option maxHeartbeats 4000000 in
set_option maxRecDepth 100000 in
theorem kX4_toRule {l : Launch} {E : WE} {I : MI} {J : MJ} {Q : Int32 → Int32 → Int32 → Int32 → Int32 → MI → MJ → Prop} (hex : exC E) (h : wX4_toRule (wg E) I J Q) : Met l yX4_toRule (wsM yX4_toRule cX4_toRule 7 ((Option.some (FieldType.object "BlackBalls$Rule")))) (rmN 2 1 5 60) (va_Pc [.ref (wa E 1 0)] (Wp E I J)) (QRn E Q) 1 5 (AA E) := by
  refine m_entryA mbX4_toRule (Nat.le_of_ble_eq_true rfl) ?_
  intro p e s m args below meth c X ls hW hl
  have X : Cx E cX4_toRule 7 RX4 ((Option.some (FieldType.object "BlackBalls$Rule"))) p s m args c meth := X
  have hx := X.1.1
  have hb := X.1.2.1
  have hl : lv_has ls 7 [(0, .ref (wa E 1 0))] := hl
  refine lv_iconst (v := 1) hx hb dX4_toRule_0 (by decide) ?_
  refine lv_istore_n (lv' := [(1, .int 1), (0, .ref (wa E 1 0))]) hx hb dX4_toRule_1 rfl hl (by decide) rfl (fun ls hl => ?_)
  refine lv_iconst (v := 0) hx hb dX4_toRule_2 (by decide) ?_
  refine lv_istore_n (lv' := [(2, .int 0), (1, .int 1), (0, .ref (wa E 1 0))]) hx hb dX4_toRule_3 rfl hl (by decide) rfl (fun ls hl => ?_)
  obtain ⟨n4, h⟩ := h
  exact bX4_toRule_4 X n4 1 0 _ _ _ _ _ hex h hW (lv_sub hl [2, 1, 0] rfl)
def uX11_rule (g : GS) (I : MI) (J : MJ) (Q : Int32 → GS → MI → MJ → Prop) : Prop :=
  wX4_toRule g I J (fun v0 v1 v2 v3 v4 I1 J1 => (vp_in (I 0 0 9) 6 ∧ (I 0 0 9).toNatClampNeg = g.2.2) ∧ ∀ I2, I2 = u3 I1 43 g.2.2 (row5 v0 v1 v2 v3 v4) → wX4_wipe (g.1, g.2.1, g.2.2 + 1) I2 J1 (fun _ I3 J3 => ∀ I4, I4 = u3 I3 0 0 (upd (I3 0 0) 9 (I3 0 0 9 + 1)) → Q (I4 0 0 9 - 1) (g.1, g.2.1, g.2.2 + 1) I4 J3))
section RuleTail
variable {p : Program} {l : Launch} {e : Env} {R : Room} {s : State} {m : MethodId} {args : Array Value} {below : List Frame} {meth : Method} {c : Code} {H : Heap} {locs : List Loc} {E : WE} {I : MI} {J : MJ} {ls : Array Slot}
set_option maxHeartbeats 4000000 in
set_option maxRecDepth 100000 in
theorem rule_tail {Q : Int32 → GS → MI → MJ → Prop} (X : Cx E cX11_rule 1 RX11 (some .int) p s m args c meth) (hex : exC E) (hW : Wd E I J s H locs) (h : uX11_rule (wg E) I J Q) (hl : lv_has ls 1 [(0, .ref (wa E 0 0))]) :
    W p l e (rmN 4 1 5 140) s m args below meth c H locs 0 0 (MQ below (QG E Q) args s 1 5 (AA E)) (F0 m 25 ls []) := by
  have hx := X.1.1
  have hb := X.1.2.1
  refine lv_aload_n hx hb dX11_rule_25 rfl (lv_at hl 0 rfl) ?_
  refine r_get X hW 1 (okS hW sc0_0) rfl rfl inX11 (Nat.le_of_ble_eq_true rfl) tw133 rfl dX11_rule_26 ?_
  refine lv_aload_n hx hb dX11_rule_29 rfl (lv_at hl 0 rfl) ?_
  refine r_get X hW 9 (okS hW sc0_0) rfl rfl inX11 (Nat.le_of_ble_eq_true rfl) tw141 rfl dX11_rule_30 ?_
  refine lv_aload_n hx hb dX11_rule_33 rfl (lv_at hl 0 rfl) ?_
  refine r_get X hW 0 (okS hW sc0_0) rfl rfl inX11 (Nat.le_of_ble_eq_true rfl) tw132 rfl dX11_rule_34 ?_
  refine va_callr (rn_Vg X hW (As := []) (rest := [.int (I 0 0 9), .ref (wa E 3 0)]) (okS hW sc1_0) rfl rfl (kX4_toRule hex h) mbX4_toRule tw221 tw222 tw223 rfl hl.1 (Nat.le_of_ble_eq_true rfl) ⟨(Nat.le_of_ble_eq_true rfl), (Nat.le_of_ble_eq_true rfl)⟩ ⟨(Nat.le_of_ble_eq_true rfl), (Nat.le_of_ble_eq_true rfl)⟩ dX11_rule_37) hW.2.2.1 (fun q _ h => h) (fun q h => h) (fun u q t H locs ht hvm h hB hz hk hS => ?_)
  obtain ⟨⟨v0, v1, v2, v3, v4⟩, I1, J1⟩ := u
  obtain ⟨-, hP, -, hD, hC⟩ := hB
  rw [ht] at hP
  obtain ⟨⟨hin, hi⟩, h⟩ := h
  have X1 := X.to (E' := addR E q) ⟨rfl, rfl, rfl⟩
  have hW1 : Wd (addR E q) (u3 I1 43 (wg E).2.2 (row5 v0 v1 v2 v3 v4)) J1 s H locs := ⟨hP, hD, hS, hC⟩
  obtain ⟨I2, eI2⟩ : ∃ z, z = u3 I1 43 (wg E).2.2 (row5 v0 v1 v2 v3 v4) := ⟨_, rfl⟩
  rw [← eI2] at hW1
  have h := h I2 eI2
  have e43 : wa (addR E q) 43 (wg E).2.2 = q := by simp [wa, addR]
  have e3 : wa (addR E q) 3 0 = wa E 3 0 := by simp [wa, addR]
  have e0 : wa (addR E q) 0 0 = wa E 0 0 := by simp [wa, addR]
  have e17 : wa (addR E q) 17 0 = wa E 17 0 := by simp [wa, addR]
  refine W.eq (g2 := F0 m 40 ls [.ref (wa (addR E q) 43 (wg E).2.2), .int (I 0 0 9), .ref (wa (addR E q) 3 0)]) (by rw [e43, e3]) ?_
  rw [← e0] at hl
  refine r_astR X1 hW1 (List.mem_append_right _ List.mem_cons_self) (fun b hb => ?_) hin hi (okC_incR hW.2.2.2) dX11_rule_40 (fun H locs hW2 => ?_)
  · rcases List.mem_append.mp (show (3, b) ∈ wC E ++ [(43, (wg E).2.2)] from hb) with h1 | h1
    · exact (exC_3 hex).1 b h1
    · simp at h1
  have X2 := X.to (E' := incR (addR E q)) ⟨rfl, rfl, rfl⟩
  have hl : lv_has ls 1 [(0, .ref (wa (incR (addR E q)) 0 0))] := hl
  refine lv_aload_n hx hb dX11_rule_41 rfl (lv_at hl 0 rfl) ?_
  refine r_get X2 hW2 0 (okS hW2 sc0_0) rfl rfl inX11 (Nat.le_of_ble_eq_true rfl) tw132 rfl dX11_rule_42 ?_
  refine af_ig hW2 (rn_Vg X2 hW2 (As := []) (rest := []) (okS hW2 sc1_0) rfl rfl (kX4_wipe h) mbX4_wipe tw191 tw192 tw193 rfl hl.1 (Nat.le_of_ble_eq_true rfl) ⟨(Nat.le_of_ble_eq_true rfl), (Nat.le_of_ble_eq_true rfl)⟩ ⟨(Nat.le_of_ble_eq_true rfl), (Nat.le_of_ble_eq_true rfl)⟩ dX11_rule_45) (fun r I3 J3 H locs h hW3 => ?_)
  refine lv_pop hx hb dX11_rule_48 rfl ?_
  refine lv_aload_n hx hb dX11_rule_49 rfl (lv_at hl 0 rfl) ?_
  refine lv_dup hx hb dX11_rule_50 rfl ?_
  refine r_get X2 hW3 9 (okS hW3 sc0_0) rfl rfl inX11 (Nat.le_of_ble_eq_true rfl) tw141 rfl dX11_rule_51 ?_
  refine lv_iconst (v := 1) hx hb dX11_rule_54 (by decide) ?_
  refine lv_iadd hx hb dX11_rule_55 ?_
  refine r_putI X2 hW3 9 (okS hW3 sc0_0) rfl rfl inX11 tyX11 tyX11_ok nmX11 (Nat.le_of_ble_eq_true rfl) tw141 rfl rfl rfl rfl (Nat.le_of_ble_eq_true rfl) rfl dX11_rule_56 (fun H locs hW4 => ?_)
  obtain ⟨I4, eI4⟩ : ∃ z, z = u3 I3 0 0 (upd (I3 0 0) 9 (I3 0 0 9 + 1)) := ⟨_, rfl⟩
  rw [← eI4] at hW4
  have h := h I4 eI4
  refine lv_aload_n hx hb dX11_rule_59 rfl (lv_at hl 0 rfl) ?_
  refine r_get X2 hW4 9 (okS hW4 sc0_0) rfl rfl inX11 (Nat.le_of_ble_eq_true rfl) tw141 rfl dX11_rule_60 ?_
  refine lv_iconst (v := 1) hx hb dX11_rule_63 (by decide) ?_
  refine lv_isub hx hb dX11_rule_64 ?_
  refine W.widen (k := 1) (n := 5) (Nat.le_of_ble_eq_true rfl) (Nat.le_of_ble_eq_true rfl) ?_
  exact W.iret X.1.1 X.1.2.1 X.2.2.2.1 (fun t ht hw => ⟨⟨_, (incR (addR E q), I4, J3), rfl, ⟨h, ⟨rfl, rfl, rfl⟩, exC_incR hex, ⟨e0, e17⟩⟩, by rw [ht]; exact Nat.le_trans X.2.2.1 hW4.2.2.1.1, by rw [ht]; exact hW4.1, KK.warm hw X2.2.1, hW4.2.1, hW4.2.2.2⟩, hW4.2.2.1.F ht⟩) hW4.2.2.1.2.2 dX11_rule_65 X.2.2.2.2
end RuleTail
def wX11_rule (g : GS) (I : MI) (J : MJ) (Q : Int32 → GS → MI → MJ → Prop) : Prop :=
  wX4_isRule g I J (fun r4 I4 J4 => ((¬ r4 = 0 → (((I4 0 0 9) < 6 → uX11_rule g I4 J4 Q) ∧ (¬ (I4 0 0 9) < 6 → Q ((-104)) g I4 J4))) ∧ (r4 = 0 → Q ((-103)) g I4 J4)))
theorem mbX11_rule : MB yX11_rule cX11_rule 1 ((Option.some FieldType.int)) 0 := ⟨tw215, tw1, ⟨by decide, by decide⟩, by decide +kernel, by decide +kernel⟩
set_option maxHeartbeats 4000000 in
set_option maxRecDepth 100000 in
theorem kX11_rule {l : Launch} {E : WE} {I : MI} {J : MJ} {Q : Int32 → GS → MI → MJ → Prop} (hex : exC E) (h : wX11_rule (wg E) I J Q) : Met l yX11_rule (wsM yX11_rule cX11_rule 1 ((Option.some FieldType.int))) (rmN 4 1 5 140) (va_Pc [.ref (wa E 0 0)] (Wp E I J)) (QG E Q) 1 5 (AA E) := by
  refine m_entryA mbX11_rule (Nat.le_of_ble_eq_true rfl) ?_
  intro p e s m args below meth c X ls hW hl
  have X : Cx E cX11_rule 1 RX11 ((Option.some FieldType.int)) p s m args c meth := X
  have hx := X.1.1
  have hb := X.1.2.1
  have hl : lv_has ls 1 [(0, .ref (wa E 0 0))] := hl
  refine lv_aload_n hx hb dX11_rule_0 rfl (lv_at hl 0 rfl) ?_
  refine r_get X hW 0 (okS hW sc0_0) rfl rfl inX11 (Nat.le_of_ble_eq_true rfl) tw132 rfl dX11_rule_1 ?_
  refine af_i hW (rn_V X hW (As := []) (rest := []) (okS hW sc1_0) rfl rfl (kX4_isRule h) mbX4_isRule tw216 tw217 tw218 rfl hl.1 (Nat.le_of_ble_eq_true rfl) ⟨(Nat.le_of_ble_eq_true rfl), (Nat.le_of_ble_eq_true rfl)⟩ dX11_rule_4) (fun r4 I4 J4 H locs h hW => ?_)
  refine lv_if_ne (tgt := 13) hx hb dX11_rule_7 (by decide) (fun c7 => ?_) (fun c7 => ?_)
  · have h := h.1 c7
    refine lv_aload_n hx hb dX11_rule_13 rfl (lv_at hl 0 rfl) ?_
    refine r_get X hW 9 (okS hW sc0_0) rfl rfl inX11 (Nat.le_of_ble_eq_true rfl) tw141 rfl dX11_rule_14 ?_
    refine lv_bipush (v := 6) hx hb dX11_rule_17 (by decide) ?_
    refine lv_icmp_lt (tgt := 25) hx hb dX11_rule_19 (by decide) (fun c19 => ?_) (fun c19 => ?_)
    · have h := h.1 c19
      exact rule_tail X hex hW h (lv_sub hl [0] rfl)
    · have h := h.2 c19
      refine lv_bipush (v := (-104)) hx hb dX11_rule_22 (by decide) ?_
      exact e_g X hex hW h dX11_rule_24
  · have h := h.2 c7
    refine lv_bipush (v := (-103)) hx hb dX11_rule_10 (by decide) ?_
    exact e_g X hex hW h dX11_rule_12
