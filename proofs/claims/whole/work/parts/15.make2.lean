def awE (E E' : WE) : Prop := wa E' 0 0 = wa E 0 0 ∧ wa E' 17 0 = wa E 17 0
def row5 (v0 v1 v2 v3 v4 : Int32) : Nat → Int32 := fun j => if j = 0 then v0 else if j = 1 then v1 else if j = 2 then v2 else if j = 3 then v3 else v4
def QRn (E : WE) (Q : Int32 → Int32 → Int32 → Int32 → Int32 → MI → MJ → Prop) : Array Value → State → Outcome → State → Prop := va_Qr (S := (Int32 × Int32 × Int32 × Int32 × Int32) × MI × MJ) (fun u => Q u.1.1 u.1.2.1 u.1.2.2.1 u.1.2.2.2.1 u.1.2.2.2.2 u.2.1 u.2.2) (fun u a t => Wp (addR E a) (u3 u.2.1 43 (wg E).2.2 (row5 u.1.1 u.1.2.1 u.1.2.2.1 u.1.2.2.2.1 u.1.2.2.2.2)) u.2.2 t) (AA E)
def QPn (E : WE) (kc : Nat) (row : Nat → Int32) (I : MI) (J : MJ) : Array Value → State → Outcome → State → Prop := va_Qr (S := Nat × Nat) (fun _ => True) (fun u a t => Wp (addP E kc a u.1 u.2) (pI I (wg E).2.1 row) J t) (AA E)
def QG (E : WE) (Q : Int32 → GS → MI → MJ → Prop) : Array Value → State → Outcome → State → Prop := va_Qi (S := WE × MI × MJ) (fun r u => Q r (wg u.1) u.2.1 u.2.2 ∧ bsE E u.1 ∧ exC u.1 ∧ awE E u.1) (fun u t => Wp u.1 u.2.1 u.2.2 t) (AA E)
def kcOf (kind : Int32) : Nat := if kind = 1 then 2 else if kind = 2 then 3 else if kind = 3 then 10 else if kind = 4 then 8 else 5
def xOf (kind n : Int32) : Int32 := if kind = 2 ∨ kind = 3 ∨ kind = 4 then n else 0
theorem m_entryA {l : Launch} {E : WE} {I : MI} {J : MJ} {y : MethodName} {bytes : ByteArray} {maxL n f mc ms lo : Nat} {ret : Option FieldType} {As : List Value} {Qc : Array Value → State → Outcome → State → Prop} (hb : MB y bytes maxL ret n) (hle : (lg_sl As).length ≤ maxL)
    (body : ∀ (p : Program) (e : Env) (s : State) (m : MethodId) (args : Array Value) (below : List Frame) (meth : Method) (c : Code), Cx E bytes maxL y.cls ret p s m args c meth → ∀ ls : Array Slot, Wd E I J s s.heap [] → lv_has ls maxL (lv_args 0 As) →
      W p l e (rmN f mc ms lo) s m args below meth c s.heap [] 0 0 (MQ below Qc args s mc ms (AA E)) (F0 m 0 ls [])) : Met l y (wsM y bytes maxL ret) (rmN f mc ms lo) (va_Pc As (Wp E I J)) Qc mc ms (AA E) := by
  refine Met.ofW (cc := bytes) (maxL := maxL) (ret := ret) hb.2.2.2.2 rfl ?_
  intro p e s m args below meth c s₁ B hml hv
  obtain ⟨rfl, hN, hP, hK, hD, hC⟩ := hv
  have hts := atoms_spec (ws := wsM y bytes maxL ret) B.pre
  have hown : s.vm.findClass y.cls = some m.cls := findClass_of_methodNamed B.named
  have hl := lv_entry As (n := maxL) hle
  rw [lg_entry_eq]
  exact body p e s m _ below meth c ⟨⟨B.exec, B.bytes, hml, hown, fun w h => hts w (List.mem_cons_of_mem _ h)⟩, hK, hN, B.returns, B.notSynchronized⟩ _ ⟨hP, hD, va_S.rf, hC⟩ hl
section Make
variable {p : Program} {l : Launch} {e : Env} {R : Room} {s : State} {m : MethodId} {args : Array Value} {below : List Frame} {meth : Method} {c : Code} {H : Heap} {locs : List Loc} {cells slots : Nat}
variable {E : WE} {I : MI} {J : MJ} {cc : ByteArray} {nL : Nat} {own : String} {rt : Option FieldType} {pc : Nat} {ls : Array Slot} {rest : List Value}
theorem Wd_left {w : va_W} (hP : va_P (wD E) vwCl (wsW E I J ++ w) H) (hD : va_D (AA E) (wsW E I J ++ w)) (hS : va_S (AA E) s.heap H locs) (hC : okC E) : Wd E I J s H locs := by
  have key : ∀ (k : Nat) (q : Nat × va_E), (wsW E I J)[k]? = some q → (wsW E I J ++ w)[k]? = some q := fun k q h => by
    rw [List.getElem?_append_left (List.getElem?_eq_some_iff.mp h).1]; exact h
  exact ⟨fun k q h => hP k q (key k q h), ⟨fun i j x y hi hj => hD.1 i j x y (key i x hi) (key j y hj), fun k q h => hD.2 k q (key k q h)⟩, hS, hC⟩
theorem e_g (X : Cx E cc nL own (some .int) p s m args c meth) (hex : exC E) (hW : Wd E I J s H locs) {v : Int32} {mc ms : Nat} {Qf : Int32 → GS → MI → MJ → Prop} (h : Qf v (wg E) I J) (hdg : decode cc pc = .ok (.ireturn, 1)) : W p l e R s m args below meth c H locs 0 0 (MQ below (QG E Qf) args s mc ms (AA E)) (F0 m pc ls [.int v]) :=
  W.widen (k := mc) (n := ms) (Nat.zero_le _) (Nat.zero_le _) (W.iret X.1.1 X.1.2.1 X.2.2.2.1 (fun t ht hw => ⟨⟨v, (E, I, J), rfl, ⟨h, ⟨rfl, rfl, rfl⟩, hex, ⟨rfl, rfl⟩⟩, by rw [ht]; exact Nat.le_trans X.2.2.1 hW.2.2.1.1, by rw [ht]; exact hW.1, KK.warm hw X.2.1, hW.2.1, hW.2.2.2⟩, hW.2.2.1.F ht⟩) hW.2.2.1.2.2 hdg X.2.2.2.2)
theorem ws_setE {E' : WE} {k q q0 : Nat} {A : Nat → Prop} (hD : va_D A (wsW E I J)) (hq : (wC E)[q0]? = some (k, q)) (hC : wC E' = wC E) (ha : wa E' = wa E) (hsame : ∀ a b, (a, b) ∈ wC E → ¬ (a = k ∧ b = q) → cont E' I J a b = cont E I J a b) :
    (wsW E I J).set q0 (wa E k q, cont E' I J k q) = wsW E' I J := by
  have hl : q0 < (wsW E I J).length := by
    have := (List.getElem?_eq_some_iff.mp hq).1
    simpa [wsW] using this
  have g2 : wsW E' I J = (wC E).map (fun c => (wa E c.1 c.2, cont E' I J c.1 c.2)) := by
    unfold wsW
    rw [hC, ha]
  rw [g2]
  apply List.ext_getElem?
  intro i
  by_cases hi : i = q0
  · subst hi
    rw [List.getElem?_set_self hl]
    simp [hq]
  · rw [List.getElem?_set_ne (fun h => hi h.symm)]
    cases hc : (wC E)[i]? with
    | none => simp [wsW, hc]
    | some c =>
      obtain ⟨a, b⟩ := c
      have h1 : (wsW E I J)[i]? = some (wa E a b, cont E I J a b) := by simp [wsW, hc]
      have h2 : ((wC E).map (fun c => (wa E c.1 c.2, cont E' I J c.1 c.2)))[i]? = some (wa E a b, cont E' I J a b) := by simp [hc]
      rw [h1, h2, hsame a b (List.mem_of_getElem? hc)]
      rintro ⟨rfl, rfl⟩
      have h3 : (wsW E I J)[q0]? = some (wa E a b, cont E I J a b) := by simp [wsW, hq]
      exact hi (hD.1 i q0 _ _ h1 h3 rfl)
theorem contR_incR (i : Nat → Int32) (j : Nat → Int64) {a b : Nat} (h : a ≠ 3) : contR (incR E) i j a b = contR E i j a b := by
  unfold contR
  split <;> first | rfl | exact absurd rfl h
theorem contR_incP (i : Nat → Int32) (j : Nat → Int64) {a b : Nat} (h : a ≠ 4) : contR (incP E) i j a b = contR E i j a b := by
  unfold contR
  split <;> first | rfl | exact absurd rfl h
theorem wStat_3 : ∀ c ∈ wStat, c.1 = 3 ∨ c.1 = 4 → c.2 = 0 := by decide

set_option maxHeartbeats 4000000 in
set_option maxRecDepth 100000 in
theorem toRule_tail {v2 v3 v4 v5 v6 : Int32} {Q : Int32 → Int32 → Int32 → Int32 → Int32 → MI → MJ → Prop} (X : Cx E cX4_toRule 7 RX4 (some (.object RX6)) p s m args c meth) (hex : exC E) (hW : Wd E I J s H locs) (h5 : isB v5) (h6 : isB v6) (h : Q (if v3 = 0 then 0 else v2) (if v3 = 0 then v2 else 0) v4 v5 v6 I J) (hl : lv_has ls 7 [(2, .int v2), (3, .int v3), (4, .int v4), (5, .int v5), (6, .int v6)]) :
    W p l e (rmN 2 1 5 60) s m args below meth c H locs 0 0 (MQ below (QRn E Q) args s 1 5 (AA E)) (F0 m 113 ls []) := by
  have hx := X.1.1
  have hb := X.1.2.1
  refine va_new (ci := 6) (fs := [.int 0, .int 0, .int 0, .int 0, .int 0]) (C := RX6) (T := TX6) (N := 5) hx hb X.1.2.2.2.2 inX6 tyX6 tyX6_ok X.1.2.2.2.1 (X.1.2.2.2.2 _ tw229) (X.1.2.2.2.2 _ tw230) (X.1.2.2.2.2 _ tw8) X.2.1.1 hW.1 hW.2.1 hW.2.2.1 (fun q h => Nat.le_trans X.2.2.1 h) rfl (fun j hj => by rcases (show j = 0 ∨ j = 1 ∨ j = 2 ∨ j = 3 ∨ j = 4 by omega) with rfl | rfl | rfl | rfl | rfl <;> rfl) (Nat.le_of_ble_eq_true rfl) (Nat.le_of_ble_eq_true rfl) dX4_toRule_113 (fun q H hP hD hS => ?_)
  refine lv_dup hx hb dX4_toRule_116 rfl ?_
  refine lv_iload_n hx hb dX4_toRule_117 rfl (lv_at hl 1 rfl) ?_
  by_cases hv : v3 = 0
  · rw [if_pos hv, if_pos hv] at h
    refine lv_if_eq (tgt := 125) hx hb dX4_toRule_118 (by decide) (fun _ => ?_) (fun c9 => absurd hv c9)
    refine lv_iconst (v := 0) hx hb dX4_toRule_125 (by decide) ?_
    refine lv_iload_n hx hb dX4_toRule_126 rfl (lv_at hl 1 rfl) ?_
    refine lv_if_eq (tgt := 134) hx hb dX4_toRule_127 (by decide) (fun _ => ?_) (fun c9 => absurd hv c9)
    refine lv_iload_n hx hb dX4_toRule_134 rfl (lv_at hl 0 rfl) ?_
    refine lv_iload hx hb dX4_toRule_135 (lv_at hl 2 rfl) ?_
    refine lv_iload hx hb dX4_toRule_137 (lv_at hl 3 rfl) ?_
    refine lv_iload hx hb dX4_toRule_139 (lv_at hl 4 rfl) ?_
    refine n_call X.1 X.2.1.2.2 X.2.1.1 hP hD hS (fun q h => Nat.le_trans X.2.2.1 h) (wr := wsW E I J) (As := [.int 0, .int v2, .int v4, .int v5, .int v6]) (rest := [.ref q]) (nX6_init_6 l (wD E) q _ 0 v2 v4 v5 v6 h5 h6) mbX6_init tw231 tw232 rfl (wsW E I J).length (List.range (wsW E I J).length) (by simp) (rg_map _ _) (rg_nd _ List.nodup_range) (fun i hi => by have := List.mem_range.mp hi; simp; omega) rfl hl.1 (Nat.le_of_ble_eq_true rfl) ⟨(Nat.le_of_ble_eq_true rfl), (Nat.le_of_ble_eq_true rfl)⟩ dX4_toRule_141 ⟨(Nat.le_of_ble_eq_true rfl), (Nat.le_of_ble_eq_true rfl)⟩ (fun u H locs hK hP hD hS => ?_)
    rw [show (wsW E I J ++ [(q, Sum.inr (6, [.int 0, .int v2, .int v4, .int v5, .int v6]))] : va_W) = wsW (addR E q) (u3 I 43 (wg E).2.2 (row5 0 v2 v4 v5 v6)) J from (wsW_addR (row5 0 v2 v4 v5 v6) q (exC_r hex)).symm] at hP hD
    exact W.aret X.1.1 X.1.2.1 X.2.2.2.1 (Or.inl ⟨_, rfl⟩) (Or.inr ⟨_, rfl⟩) (fun t ht hw => ⟨⟨((0, v2, v4, v5, v6), I, J), q, rfl, h, by rw [ht]; exact Nat.le_trans X.2.2.1 hS.1, by rw [ht]; exact hP, KK.warm hw X.2.1, hD, okC_addR hW.2.2.2⟩, hS.F ht⟩) hS.2.2 dX4_toRule_144 X.2.2.2.2
  · rw [if_neg hv, if_neg hv] at h
    refine lv_if_eq (tgt := 125) hx hb dX4_toRule_118 (by decide) (fun c9 => absurd c9 hv) (fun _ => ?_)
    refine lv_iload_n hx hb dX4_toRule_121 rfl (lv_at hl 0 rfl) ?_
    refine lv_goto (tgt := 126) hx hb dX4_toRule_122 (by decide) ?_
    refine lv_iload_n hx hb dX4_toRule_126 rfl (lv_at hl 1 rfl) ?_
    refine lv_if_eq (tgt := 134) hx hb dX4_toRule_127 (by decide) (fun c9 => absurd c9 hv) (fun _ => ?_)
    refine lv_iconst (v := 0) hx hb dX4_toRule_130 (by decide) ?_
    refine lv_goto (tgt := 135) hx hb dX4_toRule_131 (by decide) ?_
    refine lv_iload hx hb dX4_toRule_135 (lv_at hl 2 rfl) ?_
    refine lv_iload hx hb dX4_toRule_137 (lv_at hl 3 rfl) ?_
    refine lv_iload hx hb dX4_toRule_139 (lv_at hl 4 rfl) ?_
    refine n_call X.1 X.2.1.2.2 X.2.1.1 hP hD hS (fun q h => Nat.le_trans X.2.2.1 h) (wr := wsW E I J) (As := [.int v2, .int 0, .int v4, .int v5, .int v6]) (rest := [.ref q]) (nX6_init_6 l (wD E) q _ v2 0 v4 v5 v6 h5 h6) mbX6_init tw231 tw232 rfl (wsW E I J).length (List.range (wsW E I J).length) (by simp) (rg_map _ _) (rg_nd _ List.nodup_range) (fun i hi => by have := List.mem_range.mp hi; simp; omega) rfl hl.1 (Nat.le_of_ble_eq_true rfl) ⟨(Nat.le_of_ble_eq_true rfl), (Nat.le_of_ble_eq_true rfl)⟩ dX4_toRule_141 ⟨(Nat.le_of_ble_eq_true rfl), (Nat.le_of_ble_eq_true rfl)⟩ (fun u H locs hK hP hD hS => ?_)
    rw [show (wsW E I J ++ [(q, Sum.inr (6, [.int v2, .int 0, .int v4, .int v5, .int v6]))] : va_W) = wsW (addR E q) (u3 I 43 (wg E).2.2 (row5 v2 0 v4 v5 v6)) J from (wsW_addR (row5 v2 0 v4 v5 v6) q (exC_r hex)).symm] at hP hD
    exact W.aret X.1.1 X.1.2.1 X.2.2.2.1 (Or.inl ⟨_, rfl⟩) (Or.inr ⟨_, rfl⟩) (fun t ht hw => ⟨⟨((v2, 0, v4, v5, v6), I, J), q, rfl, h, by rw [ht]; exact Nat.le_trans X.2.2.1 hS.1, by rw [ht]; exact hP, KK.warm hw X.2.1, hD, okC_addR hW.2.2.2⟩, hS.F ht⟩) hS.2.2 dX4_toRule_144 X.2.2.2.2

end Make
theorem mbX11_newPerson : MB yX11_newPerson cX11_newPerson 4 (some (.object RX5)) 3 := ⟨tw278, tw1, ⟨by decide, by decide⟩, by decide +kernel, by decide +kernel⟩
theorem contP (E : WE) (kc q a1 a2 : Nat) (i : Nat → Int32) (j : Nat → Int64) : (wg (addP E kc q a1 a2)).1 (wg E).2.1 = kc := by simp [wg, addP, va_up]
set_option maxHeartbeats 4000000 in
set_option maxRecDepth 100000 in
theorem kX11_newPerson {l : Launch} {E : WE} {a1 a2 a3 : Int32} {I : MI} {J : MJ} (hex : exC E) : Met l yX11_newPerson (wsM yX11_newPerson cX11_newPerson 4 (some (.object RX5))) (rmN 4 3 19 100) (va_Pc [.ref (wa E 0 0), .int a1, .int a2, .int a3] (Wp E I J)) (QPn E (kcOf a1) (pRow (I 0 0 10) a3 (xOf a1 a2)) I J) 3 19 (AA E) := by
  refine m_entryA mbX11_newPerson (Nat.le_of_ble_eq_true rfl) ?_
  intro p e s m args below meth c X ls hW hl
  have X : Cx E cX11_newPerson 4 RX11 (some (.object RX5)) p s m args c meth := X
  have hx := X.1.1
  have hb := X.1.2.1
  have hl : lv_has ls 4 [(0, .ref (wa E 0 0)), (1, .int a1), (2, .int a2), (3, .int a3)] := hl
  refine lv_iload_n hx hb dX11_newPerson_0 rfl (lv_at hl 1 rfl) ?_
  by_cases s0 : a1 = 1
  · refine sw_in (tgt := 32) (off := 31) hx hb dX11_newPerson_1 s0 (by decide) (by decide) (by decide) (by decide) ?_
    refine va_new (ci := 2) (fs := [.int 0, .null, .null, .int 0, .int 0, .int 0]) (C := RX2) (T := TX2) (N := 6) hx hb X.1.2.2.2.2 inX2 tyX2 tyX2_ok X.1.2.2.2.1 (X.1.2.2.2.2 _ tw279) (X.1.2.2.2.2 _ tw280) (X.1.2.2.2.2 _ tw10) X.2.1.1 hW.1 hW.2.1 hW.2.2.1 (fun q h => Nat.le_trans X.2.2.1 h) rfl (fun j hj => by rcases (show j = 0 ∨ j = 1 ∨ j = 2 ∨ j = 3 ∨ j = 4 ∨ j = 5 by omega) with rfl | rfl | rfl | rfl | rfl | rfl <;> rfl) (Nat.le_of_ble_eq_true rfl) (Nat.le_of_ble_eq_true rfl) dX11_newPerson_32 (fun q H hP hD hS => ?_)
    have hW2 : Wd E I J s H [] := Wd_left hP hD hS hW.2.2.2
    refine lv_dup hx hb dX11_newPerson_35 rfl ?_
    refine lv_aload_n hx hb dX11_newPerson_36 rfl (lv_at hl 0 rfl) ?_
    refine r_get X hW2 10 (okS hW2 sc0_0) rfl rfl inX11 (Nat.le_of_ble_eq_true rfl) tw142 rfl dX11_newPerson_37 ?_
    refine lv_iload_n hx hb dX11_newPerson_40 rfl (lv_at hl 3 rfl) ?_
    refine n_call X.1 X.2.1.2.2 X.2.1.1 hP hD hS (fun q h => Nat.le_trans X.2.2.1 h) (wr := wsW E I J) (As := [.int (I 0 0 10), .int a3]) (rest := [.ref q]) (nX2_init_2 l (wD E) q _ (I 0 0 10) a3) mbX2_init tw281 tw282 rfl (wsW E I J).length (List.range (wsW E I J).length) (by simp) (rg_map _ _) (rg_nd _ List.nodup_range) (fun i hi => by have := List.mem_range.mp hi; simp; omega) rfl hl.1 (Nat.le_of_ble_eq_true rfl) ⟨(Nat.le_of_ble_eq_true rfl), (Nat.le_of_ble_eq_true rfl)⟩ dX11_newPerson_41 ⟨(Nat.le_of_ble_eq_true rfl), (Nat.le_of_ble_eq_true rfl)⟩ (fun u H locs hK hP hD hS => ?_)
    have c0 : u.2 0 = wc E 1 := wc_eq X.2.1.1 hK (i := 6) rfl
    have c1 : u.2 1 = wc E 1 := wc_eq X.2.1.1 hK (i := 7) rfl
    have hk : kcOf a1 = 2 := by simp [kcOf, s0]
    have hxo : xOf a1 a2 = 0 := by simp [xOf, s0]
    rw [hk, hxo]
    have ews := wsW_addP (I := I) (J := J) (pRow (I 0 0 10) a3 0) 2 q (u.1 0) (u.1 1) hex
    rw [co2 _ _ _ (p := (wg E).2.1) (contP E 2 q (u.1 0) (u.1 1) (pRow (I 0 0 10) a3 0) (J 40 (wg E).2.1))] at ews
    have w41 : wa (addP E 2 q (u.1 0) (u.1 1)) 41 (wg E).2.1 = u.1 0 := by simp [wa, addP]
    have w42 : wa (addP E 2 q (u.1 0) (u.1 1)) 42 (wg E).2.1 = u.1 1 := by simp [wa, addP]
    rw [w41, w42, ← c0] at ews
    rw [c1, ← c0] at hP hD
    have hP : va_P (wD E) vwCl (wsW (addP E 2 q (u.1 0) (u.1 1)) (pI I (wg E).2.1 (pRow (I 0 0 10) a3 0)) J) H := by rw [ews]; exact hP
    have hD : va_D (AA E) (wsW (addP E 2 q (u.1 0) (u.1 1)) (pI I (wg E).2.1 (pRow (I 0 0 10) a3 0)) J) := by rw [ews]; exact hD
    refine W.widen (k := 3) (n := 19) (Nat.le_of_ble_eq_true rfl) (Nat.le_of_ble_eq_true rfl) ?_
    exact W.aret X.1.1 X.1.2.1 X.2.2.2.1 (Or.inl ⟨_, rfl⟩) (Or.inr ⟨_, rfl⟩) (fun t ht hw => ⟨⟨(u.1 0, u.1 1), q, rfl, trivial, by rw [ht]; exact Nat.le_trans X.2.2.1 hS.1, by rw [ht]; exact hP, KK.warm hw X.2.1, hD, okC_addP hW.2.2.2⟩, hS.F ht⟩) hS.2.2 dX11_newPerson_44 X.2.2.2.2
  by_cases s1 : a1 = 2
  · refine sw_in (tgt := 45) (off := 44) hx hb dX11_newPerson_1 s1 (by decide) (by decide) (by decide) (by decide) ?_
    refine va_new (ci := 3) (fs := [.int 0, .null, .null, .int 0, .int 0, .int 0, .int 0]) (C := RX3) (T := TX3) (N := 7) hx hb X.1.2.2.2.2 inX3 tyX3 tyX3_ok X.1.2.2.2.1 (X.1.2.2.2.2 _ tw309) (X.1.2.2.2.2 _ tw310) (X.1.2.2.2.2 _ tw11) X.2.1.1 hW.1 hW.2.1 hW.2.2.1 (fun q h => Nat.le_trans X.2.2.1 h) rfl (fun j hj => by rcases (show j = 0 ∨ j = 1 ∨ j = 2 ∨ j = 3 ∨ j = 4 ∨ j = 5 ∨ j = 6 by omega) with rfl | rfl | rfl | rfl | rfl | rfl | rfl <;> rfl) (Nat.le_of_ble_eq_true rfl) (Nat.le_of_ble_eq_true rfl) dX11_newPerson_45 (fun q H hP hD hS => ?_)
    have hW2 : Wd E I J s H [] := Wd_left hP hD hS hW.2.2.2
    refine lv_dup hx hb dX11_newPerson_48 rfl ?_
    refine lv_aload_n hx hb dX11_newPerson_49 rfl (lv_at hl 0 rfl) ?_
    refine r_get X hW2 10 (okS hW2 sc0_0) rfl rfl inX11 (Nat.le_of_ble_eq_true rfl) tw142 rfl dX11_newPerson_50 ?_
    refine lv_iload_n hx hb dX11_newPerson_53 rfl (lv_at hl 3 rfl) ?_
    refine lv_iload_n hx hb dX11_newPerson_54 rfl (lv_at hl 2 rfl) ?_
    refine n_call X.1 X.2.1.2.2 X.2.1.1 hP hD hS (fun q h => Nat.le_trans X.2.2.1 h) (wr := wsW E I J) (As := [.int (I 0 0 10), .int a3, .int a2]) (rest := [.ref q]) (nX3_init_3 l (wD E) q _ (I 0 0 10) a3 a2) mbX3_init tw311 tw312 rfl (wsW E I J).length (List.range (wsW E I J).length) (by simp) (rg_map _ _) (rg_nd _ List.nodup_range) (fun i hi => by have := List.mem_range.mp hi; simp; omega) rfl hl.1 (Nat.le_of_ble_eq_true rfl) ⟨(Nat.le_of_ble_eq_true rfl), (Nat.le_of_ble_eq_true rfl)⟩ dX11_newPerson_55 ⟨(Nat.le_of_ble_eq_true rfl), (Nat.le_of_ble_eq_true rfl)⟩ (fun u H locs hK hP hD hS => ?_)
    have c0 : u.2 0 = wc E 1 := wc_eq X.2.1.1 hK (i := 6) rfl
    have c1 : u.2 1 = wc E 1 := wc_eq X.2.1.1 hK (i := 7) rfl
    have hk : kcOf a1 = 3 := by simp [kcOf, s0, s1]
    have hxo : xOf a1 a2 = a2 := by simp [xOf, s0, s1]
    rw [hk, hxo]
    have ews := wsW_addP (I := I) (J := J) (pRow (I 0 0 10) a3 a2) 3 q (u.1 0) (u.1 1) hex
    rw [co3 _ _ _ (p := (wg E).2.1) (contP E 3 q (u.1 0) (u.1 1) (pRow (I 0 0 10) a3 a2) (J 40 (wg E).2.1))] at ews
    have w41 : wa (addP E 3 q (u.1 0) (u.1 1)) 41 (wg E).2.1 = u.1 0 := by simp [wa, addP]
    have w42 : wa (addP E 3 q (u.1 0) (u.1 1)) 42 (wg E).2.1 = u.1 1 := by simp [wa, addP]
    rw [w41, w42, ← c0] at ews
    rw [c1, ← c0] at hP hD
    have hP : va_P (wD E) vwCl (wsW (addP E 3 q (u.1 0) (u.1 1)) (pI I (wg E).2.1 (pRow (I 0 0 10) a3 a2)) J) H := by rw [ews]; exact hP
    have hD : va_D (AA E) (wsW (addP E 3 q (u.1 0) (u.1 1)) (pI I (wg E).2.1 (pRow (I 0 0 10) a3 a2)) J) := by rw [ews]; exact hD
    refine W.widen (k := 3) (n := 19) (Nat.le_of_ble_eq_true rfl) (Nat.le_of_ble_eq_true rfl) ?_
    exact W.aret X.1.1 X.1.2.1 X.2.2.2.1 (Or.inl ⟨_, rfl⟩) (Or.inr ⟨_, rfl⟩) (fun t ht hw => ⟨⟨(u.1 0, u.1 1), q, rfl, trivial, by rw [ht]; exact Nat.le_trans X.2.2.1 hS.1, by rw [ht]; exact hP, KK.warm hw X.2.1, hD, okC_addP hW.2.2.2⟩, hS.F ht⟩) hS.2.2 dX11_newPerson_58 X.2.2.2.2
  by_cases s2 : a1 = 3
  · refine sw_in (tgt := 59) (off := 58) hx hb dX11_newPerson_1 s2 (by decide) (by decide) (by decide) (by decide) ?_
    refine va_new (ci := 10) (fs := [.int 0, .null, .null, .int 0, .int 0, .int 0, .int 0]) (C := RX10) (T := TX10) (N := 7) hx hb X.1.2.2.2.2 inX10 tyX10 tyX10_ok X.1.2.2.2.1 (X.1.2.2.2.2 _ tw325) (X.1.2.2.2.2 _ tw326) (X.1.2.2.2.2 _ tw12) X.2.1.1 hW.1 hW.2.1 hW.2.2.1 (fun q h => Nat.le_trans X.2.2.1 h) rfl (fun j hj => by rcases (show j = 0 ∨ j = 1 ∨ j = 2 ∨ j = 3 ∨ j = 4 ∨ j = 5 ∨ j = 6 by omega) with rfl | rfl | rfl | rfl | rfl | rfl | rfl <;> rfl) (Nat.le_of_ble_eq_true rfl) (Nat.le_of_ble_eq_true rfl) dX11_newPerson_59 (fun q H hP hD hS => ?_)
    have hW2 : Wd E I J s H [] := Wd_left hP hD hS hW.2.2.2
    refine lv_dup hx hb dX11_newPerson_62 rfl ?_
    refine lv_aload_n hx hb dX11_newPerson_63 rfl (lv_at hl 0 rfl) ?_
    refine r_get X hW2 10 (okS hW2 sc0_0) rfl rfl inX11 (Nat.le_of_ble_eq_true rfl) tw142 rfl dX11_newPerson_64 ?_
    refine lv_iload_n hx hb dX11_newPerson_67 rfl (lv_at hl 3 rfl) ?_
    refine lv_iload_n hx hb dX11_newPerson_68 rfl (lv_at hl 2 rfl) ?_
    refine n_call X.1 X.2.1.2.2 X.2.1.1 hP hD hS (fun q h => Nat.le_trans X.2.2.1 h) (wr := wsW E I J) (As := [.int (I 0 0 10), .int a3, .int a2]) (rest := [.ref q]) (nX10_init_10 l (wD E) q _ (I 0 0 10) a3 a2) mbX10_init tw327 tw328 rfl (wsW E I J).length (List.range (wsW E I J).length) (by simp) (rg_map _ _) (rg_nd _ List.nodup_range) (fun i hi => by have := List.mem_range.mp hi; simp; omega) rfl hl.1 (Nat.le_of_ble_eq_true rfl) ⟨(Nat.le_of_ble_eq_true rfl), (Nat.le_of_ble_eq_true rfl)⟩ dX11_newPerson_69 ⟨(Nat.le_of_ble_eq_true rfl), (Nat.le_of_ble_eq_true rfl)⟩ (fun u H locs hK hP hD hS => ?_)
    have c0 : u.2 0 = wc E 1 := wc_eq X.2.1.1 hK (i := 6) rfl
    have c1 : u.2 1 = wc E 1 := wc_eq X.2.1.1 hK (i := 7) rfl
    have hk : kcOf a1 = 10 := by simp [kcOf, s0, s1, s2]
    have hxo : xOf a1 a2 = a2 := by simp [xOf, s0, s1, s2]
    rw [hk, hxo]
    have ews := wsW_addP (I := I) (J := J) (pRow (I 0 0 10) a3 a2) 10 q (u.1 0) (u.1 1) hex
    rw [co10 _ _ _ (p := (wg E).2.1) (contP E 10 q (u.1 0) (u.1 1) (pRow (I 0 0 10) a3 a2) (J 40 (wg E).2.1))] at ews
    have w41 : wa (addP E 10 q (u.1 0) (u.1 1)) 41 (wg E).2.1 = u.1 0 := by simp [wa, addP]
    have w42 : wa (addP E 10 q (u.1 0) (u.1 1)) 42 (wg E).2.1 = u.1 1 := by simp [wa, addP]
    rw [w41, w42, ← c0] at ews
    rw [c1, ← c0] at hP hD
    have hP : va_P (wD E) vwCl (wsW (addP E 10 q (u.1 0) (u.1 1)) (pI I (wg E).2.1 (pRow (I 0 0 10) a3 a2)) J) H := by rw [ews]; exact hP
    have hD : va_D (AA E) (wsW (addP E 10 q (u.1 0) (u.1 1)) (pI I (wg E).2.1 (pRow (I 0 0 10) a3 a2)) J) := by rw [ews]; exact hD
    refine W.widen (k := 3) (n := 19) (Nat.le_of_ble_eq_true rfl) (Nat.le_of_ble_eq_true rfl) ?_
    exact W.aret X.1.1 X.1.2.1 X.2.2.2.1 (Or.inl ⟨_, rfl⟩) (Or.inr ⟨_, rfl⟩) (fun t ht hw => ⟨⟨(u.1 0, u.1 1), q, rfl, trivial, by rw [ht]; exact Nat.le_trans X.2.2.1 hS.1, by rw [ht]; exact hP, KK.warm hw X.2.1, hD, okC_addP hW.2.2.2⟩, hS.F ht⟩) hS.2.2 dX11_newPerson_72 X.2.2.2.2
  by_cases s3 : a1 = 4
  · refine sw_in (tgt := 73) (off := 72) hx hb dX11_newPerson_1 s3 (by decide) (by decide) (by decide) (by decide) ?_
    refine va_new (ci := 8) (fs := [.int 0, .int 0, .null, .null, .int 0, .int 0, .int 0]) (C := RX8) (T := TX8) (N := 7) hx hb X.1.2.2.2.2 inX8 tyX8 tyX8_ok X.1.2.2.2.1 (X.1.2.2.2.2 _ tw341) (X.1.2.2.2.2 _ tw342) (X.1.2.2.2.2 _ tw13) X.2.1.1 hW.1 hW.2.1 hW.2.2.1 (fun q h => Nat.le_trans X.2.2.1 h) rfl (fun j hj => by rcases (show j = 0 ∨ j = 1 ∨ j = 2 ∨ j = 3 ∨ j = 4 ∨ j = 5 ∨ j = 6 by omega) with rfl | rfl | rfl | rfl | rfl | rfl | rfl <;> rfl) (Nat.le_of_ble_eq_true rfl) (Nat.le_of_ble_eq_true rfl) dX11_newPerson_73 (fun q H hP hD hS => ?_)
    have hW2 : Wd E I J s H [] := Wd_left hP hD hS hW.2.2.2
    refine lv_dup hx hb dX11_newPerson_76 rfl ?_
    refine lv_aload_n hx hb dX11_newPerson_77 rfl (lv_at hl 0 rfl) ?_
    refine r_get X hW2 10 (okS hW2 sc0_0) rfl rfl inX11 (Nat.le_of_ble_eq_true rfl) tw142 rfl dX11_newPerson_78 ?_
    refine lv_iload_n hx hb dX11_newPerson_81 rfl (lv_at hl 3 rfl) ?_
    refine lv_iload_n hx hb dX11_newPerson_82 rfl (lv_at hl 2 rfl) ?_
    refine n_call X.1 X.2.1.2.2 X.2.1.1 hP hD hS (fun q h => Nat.le_trans X.2.2.1 h) (wr := wsW E I J) (As := [.int (I 0 0 10), .int a3, .int a2]) (rest := [.ref q]) (nX8_init_8 l (wD E) q _ (I 0 0 10) a3 a2) mbX8_init tw343 tw344 rfl (wsW E I J).length (List.range (wsW E I J).length) (by simp) (rg_map _ _) (rg_nd _ List.nodup_range) (fun i hi => by have := List.mem_range.mp hi; simp; omega) rfl hl.1 (Nat.le_of_ble_eq_true rfl) ⟨(Nat.le_of_ble_eq_true rfl), (Nat.le_of_ble_eq_true rfl)⟩ dX11_newPerson_83 ⟨(Nat.le_of_ble_eq_true rfl), (Nat.le_of_ble_eq_true rfl)⟩ (fun u H locs hK hP hD hS => ?_)
    have c0 : u.2 0 = wc E 1 := wc_eq X.2.1.1 hK (i := 6) rfl
    have c1 : u.2 1 = wc E 1 := wc_eq X.2.1.1 hK (i := 7) rfl
    have hk : kcOf a1 = 8 := by simp [kcOf, s0, s1, s2, s3]
    have hxo : xOf a1 a2 = a2 := by simp [xOf, s0, s1, s2, s3]
    rw [hk, hxo]
    have ews := wsW_addP (I := I) (J := J) (pRow (I 0 0 10) a3 a2) 8 q (u.1 0) (u.1 1) hex
    rw [co8 _ _ _ (p := (wg E).2.1) (contP E 8 q (u.1 0) (u.1 1) (pRow (I 0 0 10) a3 a2) (J 40 (wg E).2.1))] at ews
    have w41 : wa (addP E 8 q (u.1 0) (u.1 1)) 41 (wg E).2.1 = u.1 0 := by simp [wa, addP]
    have w42 : wa (addP E 8 q (u.1 0) (u.1 1)) 42 (wg E).2.1 = u.1 1 := by simp [wa, addP]
    rw [w41, w42, ← c0] at ews
    rw [c1, ← c0] at hP hD
    have hP : va_P (wD E) vwCl (wsW (addP E 8 q (u.1 0) (u.1 1)) (pI I (wg E).2.1 (pRow (I 0 0 10) a3 a2)) J) H := by rw [ews]; exact hP
    have hD : va_D (AA E) (wsW (addP E 8 q (u.1 0) (u.1 1)) (pI I (wg E).2.1 (pRow (I 0 0 10) a3 a2)) J) := by rw [ews]; exact hD
    refine W.widen (k := 3) (n := 19) (Nat.le_of_ble_eq_true rfl) (Nat.le_of_ble_eq_true rfl) ?_
    exact W.aret X.1.1 X.1.2.1 X.2.2.2.1 (Or.inl ⟨_, rfl⟩) (Or.inr ⟨_, rfl⟩) (fun t ht hw => ⟨⟨(u.1 0, u.1 1), q, rfl, trivial, by rw [ht]; exact Nat.le_trans X.2.2.1 hS.1, by rw [ht]; exact hP, KK.warm hw X.2.1, hD, okC_addP hW.2.2.2⟩, hS.F ht⟩) hS.2.2 dX11_newPerson_86 X.2.2.2.2
  have z1 : Int32.toInt a1 < 1 ∨ 4 < Int32.toInt a1 := by
    have := ne_ti s0 (a := 1) (by decide)
    have := ne_ti s1 (a := 2) (by decide)
    have := ne_ti s2 (a := 3) (by decide)
    have := ne_ti s3 (a := 4) (by decide)
    omega
  refine lv_tableOut (tgt := 87) hx hb dX11_newPerson_1 z1 (by decide) ?_
  refine va_new (ci := 5) (fs := [.int 0, .null, .null, .int 0, .int 0, .int 0]) (C := RX5) (T := TX5) (N := 6) hx hb X.1.2.2.2.2 inX5 tyX5 tyX5_ok X.1.2.2.2.1 (X.1.2.2.2.2 _ tw43) (X.1.2.2.2.2 _ tw355) (X.1.2.2.2.2 _ tw9) X.2.1.1 hW.1 hW.2.1 hW.2.2.1 (fun q h => Nat.le_trans X.2.2.1 h) rfl (fun j hj => by rcases (show j = 0 ∨ j = 1 ∨ j = 2 ∨ j = 3 ∨ j = 4 ∨ j = 5 by omega) with rfl | rfl | rfl | rfl | rfl | rfl <;> rfl) (Nat.le_of_ble_eq_true rfl) (Nat.le_of_ble_eq_true rfl) dX11_newPerson_87 (fun q H hP hD hS => ?_)
  have hW2 : Wd E I J s H [] := Wd_left hP hD hS hW.2.2.2
  refine lv_dup hx hb dX11_newPerson_90 rfl ?_
  refine lv_aload_n hx hb dX11_newPerson_91 rfl (lv_at hl 0 rfl) ?_
  refine r_get X hW2 10 (okS hW2 sc0_0) rfl rfl inX11 (Nat.le_of_ble_eq_true rfl) tw142 rfl dX11_newPerson_92 ?_
  refine lv_iload_n hx hb dX11_newPerson_95 rfl (lv_at hl 3 rfl) ?_
  refine n_call X.1 X.2.1.2.2 X.2.1.1 hP hD hS (fun q h => Nat.le_trans X.2.2.1 h) (wr := wsW E I J) (As := [.int (I 0 0 10), .int a3]) (rest := [.ref q]) (nX5_init_5 l (wD E) q _ (I 0 0 10) a3) mbX5_init tw356 tw285 rfl (wsW E I J).length (List.range (wsW E I J).length) (by simp) (rg_map _ _) (rg_nd _ List.nodup_range) (fun i hi => by have := List.mem_range.mp hi; simp; omega) rfl hl.1 (Nat.le_of_ble_eq_true rfl) ⟨(Nat.le_of_ble_eq_true rfl), (Nat.le_of_ble_eq_true rfl)⟩ dX11_newPerson_96 ⟨(Nat.le_of_ble_eq_true rfl), (Nat.le_of_ble_eq_true rfl)⟩ (fun u H locs hK hP hD hS => ?_)
  have c0 : u.2 0 = wc E 1 := wc_eq X.2.1.1 hK (i := 6) rfl
  have c1 : u.2 1 = wc E 1 := wc_eq X.2.1.1 hK (i := 7) rfl
  have hk : kcOf a1 = 5 := by simp [kcOf, s0, s1, s2, s3]
  have hxo : xOf a1 a2 = 0 := by simp [xOf, s0, s1, s2, s3]
  rw [hk, hxo]
  have ews := wsW_addP (I := I) (J := J) (pRow (I 0 0 10) a3 0) 5 q (u.1 0) (u.1 1) hex
  rw [co5 _ _ _ (p := (wg E).2.1) ⟨by rw [(contP E 5 q (u.1 0) (u.1 1) (pRow (I 0 0 10) a3 0) (J 40 (wg E).2.1))]; decide, by rw [(contP E 5 q (u.1 0) (u.1 1) (pRow (I 0 0 10) a3 0) (J 40 (wg E).2.1))]; decide, by rw [(contP E 5 q (u.1 0) (u.1 1) (pRow (I 0 0 10) a3 0) (J 40 (wg E).2.1))]; decide, by rw [(contP E 5 q (u.1 0) (u.1 1) (pRow (I 0 0 10) a3 0) (J 40 (wg E).2.1))]; decide⟩] at ews
  have w41 : wa (addP E 5 q (u.1 0) (u.1 1)) 41 (wg E).2.1 = u.1 0 := by simp [wa, addP]
  have w42 : wa (addP E 5 q (u.1 0) (u.1 1)) 42 (wg E).2.1 = u.1 1 := by simp [wa, addP]
  rw [w41, w42, ← c0] at ews
  rw [c1, ← c0] at hP hD
  have hP : va_P (wD E) vwCl (wsW (addP E 5 q (u.1 0) (u.1 1)) (pI I (wg E).2.1 (pRow (I 0 0 10) a3 0)) J) H := by rw [ews]; exact hP
  have hD : va_D (AA E) (wsW (addP E 5 q (u.1 0) (u.1 1)) (pI I (wg E).2.1 (pRow (I 0 0 10) a3 0)) J) := by rw [ews]; exact hD
  refine W.widen (k := 3) (n := 19) (Nat.le_of_ble_eq_true rfl) (Nat.le_of_ble_eq_true rfl) ?_
  exact W.aret X.1.1 X.1.2.1 X.2.2.2.1 (Or.inl ⟨_, rfl⟩) (Or.inr ⟨_, rfl⟩) (fun t ht hw => ⟨⟨(u.1 0, u.1 1), q, rfl, trivial, by rw [ht]; exact Nat.le_trans X.2.2.1 hS.1, by rw [ht]; exact hP, KK.warm hw X.2.1, hD, okC_addP hW.2.2.2⟩, hS.F ht⟩) hS.2.2 dX11_newPerson_99 X.2.2.2.2
