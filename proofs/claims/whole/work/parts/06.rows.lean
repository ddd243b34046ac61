def isB (v : Int32) : Prop := v = 0 ∨ v = 1
theorem isB_n {v : Int32} (h : isB v) : narrow .boolean (.int v) = .int v := by
  rcases h with rfl | rfl <;> rfl
theorem isB_f {v : Int32} (h : isB v) : fits .boolean (.int v) = true := by
  rcases h with rfl | rfl <;> rfl
theorem isB0 : isB 0 := Or.inl rfl
theorem isB1 : isB 1 := Or.inr rfl
/-- whether an object of kind k is of the class t -/
def isK (k t : Nat) : Int32 := if k = t ∨ (k = 8 ∧ t = 10) then 1 else 0
theorem ne_ti {x v : Int32} {a : Int} (h : ¬ x = v) (hv : v.toInt = a) : x.toInt ≠ a := fun h2 => h (Int32.toInt_inj.mp (h2.trans hv.symm))
section Rows6
variable {p : Program} {l : Launch} {e : Env} {R : Room} {s : State} {m : MethodId} {args : Array Value} {below : List Frame} {meth : Method} {c : Code} {H : Heap} {locs : List Loc} {cells slots : Nat} {Q : State → Prop}
variable {E : WE} {I : MI} {J : MJ} {cc : ByteArray} {nL : Nat} {own : String} {rt : Option FieldType} {pc : Nat} {ls : Array Slot} {rest : List Value}
theorem sw_in (hx : p.tables.exec = Jvm.exec) (hb : c.code = cc) {dflt lo hi : Int} {offs : Array Int} {len : Nat} {x v : Int32} {off : Int} {tgt : Nat} (hdg : decode cc pc = .ok (.tableswitch dflt lo hi offs, len)) (hv : x = v) (h1 : ¬ v.toInt < lo) (h2 : ¬ hi < v.toInt) (ho : offs[(v.toInt - lo).toNat]? = some off) (ht : (pc : Int) + off = (tgt : Int))
    (k : W p l e R s m args below meth c H locs cells slots Q (F0 m tgt ls rest)) : W p l e R s m args below meth c H locs cells slots Q (F0 m pc ls (.int x :: rest)) := by
  subst hv
  exact lv_tableIn hx hb hdg h1 h2 ho ht k
theorem r_copy (X : Cx E cc nL own rt p s m args c meth) (hW : Wd E I J s H locs) (hsz : ls.size = nL) {k0 p0 k1 p1 n0 n1 index : Nat} (hlink : Cond.methodLink own index arraycopyName ∈ lwt) (hc0 : (k0, p0) ∈ wC E) (hc1 : (k1, p1) ∈ wC E) (he0 : cont E I J k0 p0 = .inl (wc E 1, n0, .inl (I k0 p0))) (he1 : ∀ f, contR E f (J k1 p1) k1 p1 = .inl (wc E 1, n1, .inl f))
    {sp dp n : Int32} (hh : ¬ sp < 0 ∧ ¬ dp < 0 ∧ ¬ n < 0 ∧ sp.toNatClampNeg + n.toNatClampNeg ≤ n0 ∧ dp.toNatClampNeg + n.toNatClampNeg ≤ n1) (hfr : 1 ≤ R.frames) (hlo : (rest.map fun v => v.category).sum + 18 ≤ R.locals) (hdg : decode cc pc = .ok (.invokestatic index, 3))
    (kk : ∀ (H1 : Heap) (locs1 : List Loc), Wd E (u3 I k1 p1 (va_cpy (I k0 p0) (I k1 p1) sp.toNatClampNeg dp.toNatClampNeg n.toNatClampNeg)) J s H1 locs1 → W p l e R s m args below meth c H1 locs1 cells slots Q (F0 m (pc + 3) ls rest)) : W p l e R s m args below meth c H locs cells slots Q (F0 m pc ls (.int n :: .int dp :: .ref (wa E k1 p1) :: .int sp :: .ref (wa E k0 p0) :: rest)) := by
  obtain ⟨q0, -, hq0⟩ := ws_at I J hc0
  obtain ⟨q1, hq, hq1⟩ := ws_at I J hc1
  have e1 : cont E I J k1 p1 = .inl (wc E 1, n1, .inl (I k1 p1)) := he1 (I k1 p1)
  rw [he0] at hq0
  rw [e1] at hq1
  have hset := ws_set (I' := u3 I k1 p1 (va_cpy (I k0 p0) (I k1 p1) sp.toNatClampNeg dp.toNatClampNeg n.toNatClampNeg)) (J' := J) hW.2.1 hq (cont_I _)
  rw [cont_uI, he1] at hset
  refine va_copyi (D := wD E) X.1.1 X.1.2.1 (X.1.2.2.1.trans hsz.symm) X.1.2.2.2.1 (X.1.2.2.2.2 _ hlink) (X.1.2.2.2.2 _ tw741) (X.1.2.2.2.2 _ tw740) (X.1.2.2.2.2 _ tw17) X.2.1.1 hW.1 hW.2.1 hW.2.2.1 q0 q1 1 1 (ty := .int) hq0 hq1 rfl rfl rfl hh.1 hh.2.1 hh.2.2.1 hh.2.2.2.1 hh.2.2.2.2 (fun _ _ => rfl) hfr hlo hdg (fun H1 locs1 hP hD hS => ?_)
  rw [hset] at hP hD
  exact kk H1 locs1 ⟨hP, hD, hS, hW.2.2.2⟩
theorem kd_cases (q : Nat) : q = 2 ∨ q = 3 ∨ q = 8 ∨ q = 10 ∨ (¬ q = 2 ∧ ¬ q = 3 ∧ ¬ q = 8 ∧ ¬ q = 10) := by omega
theorem co2 (E : WE) (i : Nat → Int32) (j : Nat → Int64) {p : Nat} (h : (wg E).1 p = 2) : contR E i j 40 p = .inr (2, [.int (i 0), .ref (wa E 41 p), .ref (wa E 42 p), .int (i 3), .int (i 4), .int (i 5)]) := by simp [contR, h]
theorem co3 (E : WE) (i : Nat → Int32) (j : Nat → Int64) {p : Nat} (h : (wg E).1 p = 3) : contR E i j 40 p = .inr (3, [.int (i 0), .ref (wa E 41 p), .ref (wa E 42 p), .int (i 3), .int (i 4), .int (i 5), .int (i 6)]) := by simp [contR, h]
theorem co8 (E : WE) (i : Nat → Int32) (j : Nat → Int64) {p : Nat} (h : (wg E).1 p = 8) : contR E i j 40 p = .inr (8, [.int (i 6), .int (i 0), .ref (wa E 41 p), .ref (wa E 42 p), .int (i 3), .int (i 4), .int (i 5)]) := by simp [contR, h]
theorem co10 (E : WE) (i : Nat → Int32) (j : Nat → Int64) {p : Nat} (h : (wg E).1 p = 10) : contR E i j 40 p = .inr (10, [.int (i 0), .ref (wa E 41 p), .ref (wa E 42 p), .int (i 3), .int (i 4), .int (i 5), .int (i 6)]) := by simp [contR, h]
theorem co5 (E : WE) (i : Nat → Int32) (j : Nat → Int64) {p : Nat} (h : ¬ (wg E).1 p = 2 ∧ ¬ (wg E).1 p = 3 ∧ ¬ (wg E).1 p = 8 ∧ ¬ (wg E).1 p = 10) : contR E i j 40 p = .inr (5, [.int (i 0), .ref (wa E 41 p), .ref (wa E 42 p), .int (i 3), .int (i 4), .int (i 5)]) := by simp [contR, h.1, h.2.1, h.2.2.1, h.2.2.2]
theorem r_getP0 (X : Cx E cc nL own rt p s m args c meth) (hW : Wd E I J s H locs) {q index : Nat} (hp : q < (wg E).2.1) (hlink : Cond.fieldLink own index RX5 "number" "I" ∈ lwt) (hdg : decode cc pc = .ok (.getfield index, 3))
    (kk : W p l e R s m args below meth c H locs cells slots Q (F0 m (pc + 3) ls (.int (I 40 q 0) :: rest))) : W p l e R s m args below meth c H locs cells slots Q (F0 m pc ls (.ref (wa E 40 q) :: rest)) := by
  rcases kd_cases ((wg E).1 q) with hk | hk | hk | hk | hk
  · exact r_get X hW 0 (okP hW hp).1 (co2 E _ _ hk) rfl inX2 (Nat.le_of_ble_eq_true rfl) hlink rfl hdg kk
  · exact r_get X hW 0 (okP hW hp).1 (co3 E _ _ hk) rfl inX3 (Nat.le_of_ble_eq_true rfl) hlink rfl hdg kk
  · exact r_get X hW 1 (okP hW hp).1 (co8 E _ _ hk) rfl inX8 (Nat.le_of_ble_eq_true rfl) hlink rfl hdg kk
  · exact r_get X hW 0 (okP hW hp).1 (co10 E _ _ hk) rfl inX10 (Nat.le_of_ble_eq_true rfl) hlink rfl hdg kk
  · exact r_get X hW 0 (okP hW hp).1 (co5 E _ _ hk) rfl inX5 (Nat.le_of_ble_eq_true rfl) hlink rfl hdg kk
theorem r_getP1 (X : Cx E cc nL own rt p s m args c meth) (hW : Wd E I J s H locs) {q index : Nat} (hp : q < (wg E).2.1) (hlink : Cond.fieldLink own index RX5 "mindsEach" "[I" ∈ lwt) (hdg : decode cc pc = .ok (.getfield index, 3))
    (kk : W p l e R s m args below meth c H locs cells slots Q (F0 m (pc + 3) ls (.ref (wa E 41 q) :: rest))) : W p l e R s m args below meth c H locs cells slots Q (F0 m pc ls (.ref (wa E 40 q) :: rest)) := by
  rcases kd_cases ((wg E).1 q) with hk | hk | hk | hk | hk
  · exact r_get X hW 1 (okP hW hp).1 (co2 E _ _ hk) rfl inX2 (Nat.le_of_ble_eq_true rfl) hlink rfl hdg kk
  · exact r_get X hW 1 (okP hW hp).1 (co3 E _ _ hk) rfl inX3 (Nat.le_of_ble_eq_true rfl) hlink rfl hdg kk
  · exact r_get X hW 2 (okP hW hp).1 (co8 E _ _ hk) rfl inX8 (Nat.le_of_ble_eq_true rfl) hlink rfl hdg kk
  · exact r_get X hW 1 (okP hW hp).1 (co10 E _ _ hk) rfl inX10 (Nat.le_of_ble_eq_true rfl) hlink rfl hdg kk
  · exact r_get X hW 1 (okP hW hp).1 (co5 E _ _ hk) rfl inX5 (Nat.le_of_ble_eq_true rfl) hlink rfl hdg kk
theorem r_getP2 (X : Cx E cc nL own rt p s m args c meth) (hW : Wd E I J s H locs) {q index : Nat} (hp : q < (wg E).2.1) (hlink : Cond.fieldLink own index RX5 "keptMinds" "[I" ∈ lwt) (hdg : decode cc pc = .ok (.getfield index, 3))
    (kk : W p l e R s m args below meth c H locs cells slots Q (F0 m (pc + 3) ls (.ref (wa E 42 q) :: rest))) : W p l e R s m args below meth c H locs cells slots Q (F0 m pc ls (.ref (wa E 40 q) :: rest)) := by
  rcases kd_cases ((wg E).1 q) with hk | hk | hk | hk | hk
  · exact r_get X hW 2 (okP hW hp).1 (co2 E _ _ hk) rfl inX2 (Nat.le_of_ble_eq_true rfl) hlink rfl hdg kk
  · exact r_get X hW 2 (okP hW hp).1 (co3 E _ _ hk) rfl inX3 (Nat.le_of_ble_eq_true rfl) hlink rfl hdg kk
  · exact r_get X hW 3 (okP hW hp).1 (co8 E _ _ hk) rfl inX8 (Nat.le_of_ble_eq_true rfl) hlink rfl hdg kk
  · exact r_get X hW 2 (okP hW hp).1 (co10 E _ _ hk) rfl inX10 (Nat.le_of_ble_eq_true rfl) hlink rfl hdg kk
  · exact r_get X hW 2 (okP hW hp).1 (co5 E _ _ hk) rfl inX5 (Nat.le_of_ble_eq_true rfl) hlink rfl hdg kk
theorem r_getP3 (X : Cx E cc nL own rt p s m args c meth) (hW : Wd E I J s H locs) {q index : Nat} (hp : q < (wg E).2.1) (hlink : Cond.fieldLink own index RX5 "comesTenths" "I" ∈ lwt) (hdg : decode cc pc = .ok (.getfield index, 3))
    (kk : W p l e R s m args below meth c H locs cells slots Q (F0 m (pc + 3) ls (.int (I 40 q 3) :: rest))) : W p l e R s m args below meth c H locs cells slots Q (F0 m pc ls (.ref (wa E 40 q) :: rest)) := by
  rcases kd_cases ((wg E).1 q) with hk | hk | hk | hk | hk
  · exact r_get X hW 3 (okP hW hp).1 (co2 E _ _ hk) rfl inX2 (Nat.le_of_ble_eq_true rfl) hlink rfl hdg kk
  · exact r_get X hW 3 (okP hW hp).1 (co3 E _ _ hk) rfl inX3 (Nat.le_of_ble_eq_true rfl) hlink rfl hdg kk
  · exact r_get X hW 4 (okP hW hp).1 (co8 E _ _ hk) rfl inX8 (Nat.le_of_ble_eq_true rfl) hlink rfl hdg kk
  · exact r_get X hW 3 (okP hW hp).1 (co10 E _ _ hk) rfl inX10 (Nat.le_of_ble_eq_true rfl) hlink rfl hdg kk
  · exact r_get X hW 3 (okP hW hp).1 (co5 E _ _ hk) rfl inX5 (Nat.le_of_ble_eq_true rfl) hlink rfl hdg kk
theorem r_getP4 (X : Cx E cc nL own rt p s m args c meth) (hW : Wd E I J s H locs) {q index : Nat} (hp : q < (wg E).2.1) (hlink : Cond.fieldLink own index RX5 "keptComes" "I" ∈ lwt) (hdg : decode cc pc = .ok (.getfield index, 3))
    (kk : W p l e R s m args below meth c H locs cells slots Q (F0 m (pc + 3) ls (.int (I 40 q 4) :: rest))) : W p l e R s m args below meth c H locs cells slots Q (F0 m pc ls (.ref (wa E 40 q) :: rest)) := by
  rcases kd_cases ((wg E).1 q) with hk | hk | hk | hk | hk
  · exact r_get X hW 4 (okP hW hp).1 (co2 E _ _ hk) rfl inX2 (Nat.le_of_ble_eq_true rfl) hlink rfl hdg kk
  · exact r_get X hW 4 (okP hW hp).1 (co3 E _ _ hk) rfl inX3 (Nat.le_of_ble_eq_true rfl) hlink rfl hdg kk
  · exact r_get X hW 5 (okP hW hp).1 (co8 E _ _ hk) rfl inX8 (Nat.le_of_ble_eq_true rfl) hlink rfl hdg kk
  · exact r_get X hW 4 (okP hW hp).1 (co10 E _ _ hk) rfl inX10 (Nat.le_of_ble_eq_true rfl) hlink rfl hdg kk
  · exact r_get X hW 4 (okP hW hp).1 (co5 E _ _ hk) rfl inX5 (Nat.le_of_ble_eq_true rfl) hlink rfl hdg kk
theorem r_getP5 (X : Cx E cc nL own rt p s m args c meth) (hW : Wd E I J s H locs) {q index : Nat} (hp : q < (wg E).2.1) (hlink : Cond.fieldLink own index RX5 "keptCandidates" "I" ∈ lwt) (hdg : decode cc pc = .ok (.getfield index, 3))
    (kk : W p l e R s m args below meth c H locs cells slots Q (F0 m (pc + 3) ls (.int (I 40 q 5) :: rest))) : W p l e R s m args below meth c H locs cells slots Q (F0 m pc ls (.ref (wa E 40 q) :: rest)) := by
  rcases kd_cases ((wg E).1 q) with hk | hk | hk | hk | hk
  · exact r_get X hW 5 (okP hW hp).1 (co2 E _ _ hk) rfl inX2 (Nat.le_of_ble_eq_true rfl) hlink rfl hdg kk
  · exact r_get X hW 5 (okP hW hp).1 (co3 E _ _ hk) rfl inX3 (Nat.le_of_ble_eq_true rfl) hlink rfl hdg kk
  · exact r_get X hW 6 (okP hW hp).1 (co8 E _ _ hk) rfl inX8 (Nat.le_of_ble_eq_true rfl) hlink rfl hdg kk
  · exact r_get X hW 5 (okP hW hp).1 (co10 E _ _ hk) rfl inX10 (Nat.le_of_ble_eq_true rfl) hlink rfl hdg kk
  · exact r_get X hW 5 (okP hW hp).1 (co5 E _ _ hk) rfl inX5 (Nat.le_of_ble_eq_true rfl) hlink rfl hdg kk
theorem r_getP0N (X : Cx E cc nL own rt p s m args c meth) (hW : Wd E I J s H locs) {q index : Nat} {host : String} (hp : q < (wg E).2.1) (hlink : Cond.fieldLinkNest own index RX5 "number" "I" host ∈ nestW) (hdg : decode cc pc = .ok (.getfield index, 3))
    (kk : W p l e R s m args below meth c H locs cells slots Q (F0 m (pc + 3) ls (.int (I 40 q 0) :: rest))) : W p l e R s m args below meth c H locs cells slots Q (F0 m pc ls (.ref (wa E 40 q) :: rest)) := by
  rcases kd_cases ((wg E).1 q) with hk | hk | hk | hk | hk
  · exact r_getN X hW 0 (okP hW hp).1 (co2 E _ _ hk) rfl inX2 (Nat.le_of_ble_eq_true rfl) hlink rfl hdg kk
  · exact r_getN X hW 0 (okP hW hp).1 (co3 E _ _ hk) rfl inX3 (Nat.le_of_ble_eq_true rfl) hlink rfl hdg kk
  · exact r_getN X hW 1 (okP hW hp).1 (co8 E _ _ hk) rfl inX8 (Nat.le_of_ble_eq_true rfl) hlink rfl hdg kk
  · exact r_getN X hW 0 (okP hW hp).1 (co10 E _ _ hk) rfl inX10 (Nat.le_of_ble_eq_true rfl) hlink rfl hdg kk
  · exact r_getN X hW 0 (okP hW hp).1 (co5 E _ _ hk) rfl inX5 (Nat.le_of_ble_eq_true rfl) hlink rfl hdg kk
theorem r_getP3N (X : Cx E cc nL own rt p s m args c meth) (hW : Wd E I J s H locs) {q index : Nat} {host : String} (hp : q < (wg E).2.1) (hlink : Cond.fieldLinkNest own index RX5 "comesTenths" "I" host ∈ nestW) (hdg : decode cc pc = .ok (.getfield index, 3))
    (kk : W p l e R s m args below meth c H locs cells slots Q (F0 m (pc + 3) ls (.int (I 40 q 3) :: rest))) : W p l e R s m args below meth c H locs cells slots Q (F0 m pc ls (.ref (wa E 40 q) :: rest)) := by
  rcases kd_cases ((wg E).1 q) with hk | hk | hk | hk | hk
  · exact r_getN X hW 3 (okP hW hp).1 (co2 E _ _ hk) rfl inX2 (Nat.le_of_ble_eq_true rfl) hlink rfl hdg kk
  · exact r_getN X hW 3 (okP hW hp).1 (co3 E _ _ hk) rfl inX3 (Nat.le_of_ble_eq_true rfl) hlink rfl hdg kk
  · exact r_getN X hW 4 (okP hW hp).1 (co8 E _ _ hk) rfl inX8 (Nat.le_of_ble_eq_true rfl) hlink rfl hdg kk
  · exact r_getN X hW 3 (okP hW hp).1 (co10 E _ _ hk) rfl inX10 (Nat.le_of_ble_eq_true rfl) hlink rfl hdg kk
  · exact r_getN X hW 3 (okP hW hp).1 (co5 E _ _ hk) rfl inX5 (Nat.le_of_ble_eq_true rfl) hlink rfl hdg kk
theorem r_putP3 (X : Cx E cc nL own rt p s m args c meth) (hW : Wd E I J s H locs) {q index : Nat} {x : Int32} (hp : q < (wg E).2.1) (hlink : Cond.fieldLink own index RX5 "comesTenths" "I" ∈ lwt) (hdg : decode cc pc = .ok (.putfield index, 3))
    (kk : ∀ (H1 : Heap) (locs1 : List Loc), Wd E (u3 I 40 q (upd (I 40 q) 3 x)) J s H1 locs1 → W p l e R s m args below meth c H1 locs1 cells slots Q (F0 m (pc + 3) ls rest)) : W p l e R s m args below meth c H locs cells slots Q (F0 m pc ls (.int x :: .ref (wa E 40 q) :: rest)) := by
  rcases kd_cases ((wg E).1 q) with hk | hk | hk | hk | hk
  · exact r_put X hW 3 (okP hW hp).1 (co2 E _ _ hk) rfl inX2 tyX2 tyX2_ok nmX2 (Nat.le_of_ble_eq_true rfl) hlink rfl (tyX2_ok 3 (Nat.le_of_ble_eq_true rfl)) rfl rfl (Nat.le_of_ble_eq_true rfl) (by rw [cont_uI]; exact (co2 E _ _ hk)) (cont_I _) hdg kk
  · exact r_put X hW 3 (okP hW hp).1 (co3 E _ _ hk) rfl inX3 tyX3 tyX3_ok nmX3 (Nat.le_of_ble_eq_true rfl) hlink rfl (tyX3_ok 3 (Nat.le_of_ble_eq_true rfl)) rfl rfl (Nat.le_of_ble_eq_true rfl) (by rw [cont_uI]; exact (co3 E _ _ hk)) (cont_I _) hdg kk
  · exact r_put X hW 4 (okP hW hp).1 (co8 E _ _ hk) rfl inX8 tyX8 tyX8_ok nmX8 (Nat.le_of_ble_eq_true rfl) hlink rfl (tyX8_ok 4 (Nat.le_of_ble_eq_true rfl)) rfl rfl (Nat.le_of_ble_eq_true rfl) (by rw [cont_uI]; exact (co8 E _ _ hk)) (cont_I _) hdg kk
  · exact r_put X hW 3 (okP hW hp).1 (co10 E _ _ hk) rfl inX10 tyX10 tyX10_ok nmX10 (Nat.le_of_ble_eq_true rfl) hlink rfl (tyX10_ok 3 (Nat.le_of_ble_eq_true rfl)) rfl rfl (Nat.le_of_ble_eq_true rfl) (by rw [cont_uI]; exact (co10 E _ _ hk)) (cont_I _) hdg kk
  · exact r_put X hW 3 (okP hW hp).1 (co5 E _ _ hk) rfl inX5 tyX5 tyX5_ok nmX5 (Nat.le_of_ble_eq_true rfl) hlink rfl (tyX5_ok 3 (Nat.le_of_ble_eq_true rfl)) rfl rfl (Nat.le_of_ble_eq_true rfl) (by rw [cont_uI]; exact (co5 E _ _ hk)) (cont_I _) hdg kk
theorem r_putP4 (X : Cx E cc nL own rt p s m args c meth) (hW : Wd E I J s H locs) {q index : Nat} {x : Int32} (hp : q < (wg E).2.1) (hlink : Cond.fieldLink own index RX5 "keptComes" "I" ∈ lwt) (hdg : decode cc pc = .ok (.putfield index, 3))
    (kk : ∀ (H1 : Heap) (locs1 : List Loc), Wd E (u3 I 40 q (upd (I 40 q) 4 x)) J s H1 locs1 → W p l e R s m args below meth c H1 locs1 cells slots Q (F0 m (pc + 3) ls rest)) : W p l e R s m args below meth c H locs cells slots Q (F0 m pc ls (.int x :: .ref (wa E 40 q) :: rest)) := by
  rcases kd_cases ((wg E).1 q) with hk | hk | hk | hk | hk
  · exact r_put X hW 4 (okP hW hp).1 (co2 E _ _ hk) rfl inX2 tyX2 tyX2_ok nmX2 (Nat.le_of_ble_eq_true rfl) hlink rfl (tyX2_ok 4 (Nat.le_of_ble_eq_true rfl)) rfl rfl (Nat.le_of_ble_eq_true rfl) (by rw [cont_uI]; exact (co2 E _ _ hk)) (cont_I _) hdg kk
  · exact r_put X hW 4 (okP hW hp).1 (co3 E _ _ hk) rfl inX3 tyX3 tyX3_ok nmX3 (Nat.le_of_ble_eq_true rfl) hlink rfl (tyX3_ok 4 (Nat.le_of_ble_eq_true rfl)) rfl rfl (Nat.le_of_ble_eq_true rfl) (by rw [cont_uI]; exact (co3 E _ _ hk)) (cont_I _) hdg kk
  · exact r_put X hW 5 (okP hW hp).1 (co8 E _ _ hk) rfl inX8 tyX8 tyX8_ok nmX8 (Nat.le_of_ble_eq_true rfl) hlink rfl (tyX8_ok 5 (Nat.le_of_ble_eq_true rfl)) rfl rfl (Nat.le_of_ble_eq_true rfl) (by rw [cont_uI]; exact (co8 E _ _ hk)) (cont_I _) hdg kk
  · exact r_put X hW 4 (okP hW hp).1 (co10 E _ _ hk) rfl inX10 tyX10 tyX10_ok nmX10 (Nat.le_of_ble_eq_true rfl) hlink rfl (tyX10_ok 4 (Nat.le_of_ble_eq_true rfl)) rfl rfl (Nat.le_of_ble_eq_true rfl) (by rw [cont_uI]; exact (co10 E _ _ hk)) (cont_I _) hdg kk
  · exact r_put X hW 4 (okP hW hp).1 (co5 E _ _ hk) rfl inX5 tyX5 tyX5_ok nmX5 (Nat.le_of_ble_eq_true rfl) hlink rfl (tyX5_ok 4 (Nat.le_of_ble_eq_true rfl)) rfl rfl (Nat.le_of_ble_eq_true rfl) (by rw [cont_uI]; exact (co5 E _ _ hk)) (cont_I _) hdg kk
theorem r_putP5 (X : Cx E cc nL own rt p s m args c meth) (hW : Wd E I J s H locs) {q index : Nat} {x : Int32} (hp : q < (wg E).2.1) (hlink : Cond.fieldLink own index RX5 "keptCandidates" "I" ∈ lwt) (hdg : decode cc pc = .ok (.putfield index, 3))
    (kk : ∀ (H1 : Heap) (locs1 : List Loc), Wd E (u3 I 40 q (upd (I 40 q) 5 x)) J s H1 locs1 → W p l e R s m args below meth c H1 locs1 cells slots Q (F0 m (pc + 3) ls rest)) : W p l e R s m args below meth c H locs cells slots Q (F0 m pc ls (.int x :: .ref (wa E 40 q) :: rest)) := by
  rcases kd_cases ((wg E).1 q) with hk | hk | hk | hk | hk
  · exact r_put X hW 5 (okP hW hp).1 (co2 E _ _ hk) rfl inX2 tyX2 tyX2_ok nmX2 (Nat.le_of_ble_eq_true rfl) hlink rfl (tyX2_ok 5 (Nat.le_of_ble_eq_true rfl)) rfl rfl (Nat.le_of_ble_eq_true rfl) (by rw [cont_uI]; exact (co2 E _ _ hk)) (cont_I _) hdg kk
  · exact r_put X hW 5 (okP hW hp).1 (co3 E _ _ hk) rfl inX3 tyX3 tyX3_ok nmX3 (Nat.le_of_ble_eq_true rfl) hlink rfl (tyX3_ok 5 (Nat.le_of_ble_eq_true rfl)) rfl rfl (Nat.le_of_ble_eq_true rfl) (by rw [cont_uI]; exact (co3 E _ _ hk)) (cont_I _) hdg kk
  · exact r_put X hW 6 (okP hW hp).1 (co8 E _ _ hk) rfl inX8 tyX8 tyX8_ok nmX8 (Nat.le_of_ble_eq_true rfl) hlink rfl (tyX8_ok 6 (Nat.le_of_ble_eq_true rfl)) rfl rfl (Nat.le_of_ble_eq_true rfl) (by rw [cont_uI]; exact (co8 E _ _ hk)) (cont_I _) hdg kk
  · exact r_put X hW 5 (okP hW hp).1 (co10 E _ _ hk) rfl inX10 tyX10 tyX10_ok nmX10 (Nat.le_of_ble_eq_true rfl) hlink rfl (tyX10_ok 5 (Nat.le_of_ble_eq_true rfl)) rfl rfl (Nat.le_of_ble_eq_true rfl) (by rw [cont_uI]; exact (co10 E _ _ hk)) (cont_I _) hdg kk
  · exact r_put X hW 5 (okP hW hp).1 (co5 E _ _ hk) rfl inX5 tyX5 tyX5_ok nmX5 (Nat.le_of_ble_eq_true rfl) hlink rfl (tyX5_ok 5 (Nat.le_of_ble_eq_true rfl)) rfl rfl (Nat.le_of_ble_eq_true rfl) (by rw [cont_uI]; exact (co5 E _ _ hk)) (cont_I _) hdg kk
theorem r_putP3N (X : Cx E cc nL own rt p s m args c meth) (hW : Wd E I J s H locs) {q index : Nat} {x : Int32} {host : String} (hp : q < (wg E).2.1) (hlink : Cond.fieldLinkNest own index RX5 "comesTenths" "I" host ∈ nestW) (hdg : decode cc pc = .ok (.putfield index, 3))
    (kk : ∀ (H1 : Heap) (locs1 : List Loc), Wd E (u3 I 40 q (upd (I 40 q) 3 x)) J s H1 locs1 → W p l e R s m args below meth c H1 locs1 cells slots Q (F0 m (pc + 3) ls rest)) : W p l e R s m args below meth c H locs cells slots Q (F0 m pc ls (.int x :: .ref (wa E 40 q) :: rest)) := by
  rcases kd_cases ((wg E).1 q) with hk | hk | hk | hk | hk
  · exact r_putN X hW 3 (okP hW hp).1 (co2 E _ _ hk) rfl inX2 tyX2 tyX2_ok nmX2 (Nat.le_of_ble_eq_true rfl) hlink rfl (tyX2_ok 3 (Nat.le_of_ble_eq_true rfl)) rfl rfl (Nat.le_of_ble_eq_true rfl) (by rw [cont_uI]; exact (co2 E _ _ hk)) (cont_I _) hdg kk
  · exact r_putN X hW 3 (okP hW hp).1 (co3 E _ _ hk) rfl inX3 tyX3 tyX3_ok nmX3 (Nat.le_of_ble_eq_true rfl) hlink rfl (tyX3_ok 3 (Nat.le_of_ble_eq_true rfl)) rfl rfl (Nat.le_of_ble_eq_true rfl) (by rw [cont_uI]; exact (co3 E _ _ hk)) (cont_I _) hdg kk
  · exact r_putN X hW 4 (okP hW hp).1 (co8 E _ _ hk) rfl inX8 tyX8 tyX8_ok nmX8 (Nat.le_of_ble_eq_true rfl) hlink rfl (tyX8_ok 4 (Nat.le_of_ble_eq_true rfl)) rfl rfl (Nat.le_of_ble_eq_true rfl) (by rw [cont_uI]; exact (co8 E _ _ hk)) (cont_I _) hdg kk
  · exact r_putN X hW 3 (okP hW hp).1 (co10 E _ _ hk) rfl inX10 tyX10 tyX10_ok nmX10 (Nat.le_of_ble_eq_true rfl) hlink rfl (tyX10_ok 3 (Nat.le_of_ble_eq_true rfl)) rfl rfl (Nat.le_of_ble_eq_true rfl) (by rw [cont_uI]; exact (co10 E _ _ hk)) (cont_I _) hdg kk
  · exact r_putN X hW 3 (okP hW hp).1 (co5 E _ _ hk) rfl inX5 tyX5 tyX5_ok nmX5 (Nat.le_of_ble_eq_true rfl) hlink rfl (tyX5_ok 3 (Nat.le_of_ble_eq_true rfl)) rfl rfl (Nat.le_of_ble_eq_true rfl) (by rw [cont_uI]; exact (co5 E _ _ hk)) (cont_I _) hdg kk
theorem r_getSlips (X : Cx E cc nL own rt p s m args c meth) (hW : Wd E I J s H locs) {q index : Nat} (hp : q < (wg E).2.1) (hk : (wg E).1 q = 3) (hlink : Cond.fieldLink own index RX3 "slips" "I" ∈ lwt) (hdg : decode cc pc = .ok (.getfield index, 3))
    (kk : W p l e R s m args below meth c H locs cells slots Q (F0 m (pc + 3) ls (.int (I 40 q 6) :: rest))) : W p l e R s m args below meth c H locs cells slots Q (F0 m pc ls (.ref (wa E 40 q) :: rest)) :=
  r_get X hW 6 (okP hW hp).1 (co3 E _ _ hk) rfl inX3 (Nat.le_of_ble_eq_true rfl) hlink rfl hdg kk
theorem r_getOther (X : Cx E cc nL own rt p s m args c meth) (hW : Wd E I J s H locs) {q index : Nat} (hp : q < (wg E).2.1) (hk : (wg E).1 q = 10 ∨ (wg E).1 q = 8) (hlink : Cond.fieldLink own index RX10 "other" "I" ∈ lwt) (hdg : decode cc pc = .ok (.getfield index, 3))
    (kk : W p l e R s m args below meth c H locs cells slots Q (F0 m (pc + 3) ls (.int (I 40 q 6) :: rest))) : W p l e R s m args below meth c H locs cells slots Q (F0 m pc ls (.ref (wa E 40 q) :: rest)) := by
  rcases hk with hk | hk
  · exact r_get X hW 6 (okP hW hp).1 (co10 E _ _ hk) rfl inX10 (Nat.le_of_ble_eq_true rfl) hlink rfl hdg kk
  · exact r_get X hW 0 (okP hW hp).1 (co8 E _ _ hk) rfl inX8 (Nat.le_of_ble_eq_true rfl) hlink rfl hdg kk
theorem rn_P {y : MethodName} {bytes : ByteArray} {maxL n index f lo q : Nat} {ret : Option FieldType} {As : List Value} {Qc : Array Value → State → Outcome → State → Prop} (X : Cx E cc nL own rt p s m args c meth) (hW : Wd E I J s H locs) (hp : q < (wg E).2.1) (hM : Met l y (wsM y bytes maxL ret) (rmO f lo) (va_Pc (.ref (wa E 40 q) :: As) (Wp E I J)) Qc 0 0 (AA E)) (hb : MB y bytes maxL ret n) (hlk : Cond.methodLink own index y ∈ lwt) (hin : Cond.instanceMethod y ∈ lwt) (h2 : Cond.selects RX2 y y ∈ lwt) (h3 : Cond.selects RX3 y y ∈ lwt) (h8 : Cond.selects RX8 y y ∈ lwt) (h10 : Cond.selects RX10 y y ∈ lwt) (h5 : Cond.selects RX5 y y ∈ lwt) (hn : As.length = n) (hsz : ls.size = nL) (hcat : (rest.map fun v => v.category).sum ≤ 8) (hR : f + 1 ≤ R.frames ∧ 8 + (maxL + 11) + lo ≤ R.locals) (hdg : decode cc pc = .ok (.invokevirtual index, 3)) :
    va_Run p l e R s m args below meth c H locs 0 0 0 0 (F0 m pc ls (As.reverse ++ .ref (wa E 40 q) :: rest)) rest (Qc (.ref (wa E 40 q) :: As).toArray) (AA E) := by
  rcases kd_cases ((wg E).1 q) with hk | hk | hk | hk | hk
  · exact rn_V X hW (okP hW hp).1 (co2 E _ _ hk) rfl hM hb hlk hin h2 hn hsz hcat hR hdg
  · exact rn_V X hW (okP hW hp).1 (co3 E _ _ hk) rfl hM hb hlk hin h3 hn hsz hcat hR hdg
  · exact rn_V X hW (okP hW hp).1 (co8 E _ _ hk) rfl hM hb hlk hin h8 hn hsz hcat hR hdg
  · exact rn_V X hW (okP hW hp).1 (co10 E _ _ hk) rfl hM hb hlk hin h10 hn hsz hcat hR hdg
  · exact rn_V X hW (okP hW hp).1 (co5 E _ _ hk) rfl hM hb hlk hin h5 hn hsz hcat hR hdg
theorem r_inst (X : Cx E cc nL RX11 rt p s m args c meth) (hW : Wd E I J s H locs) {q index t : Nat} (hp : q < (wg E).2.1) (ht : (index = 324 ∧ t = 2) ∨ (index = 328 ∧ t = 3) ∨ (index = 333 ∧ t = 10) ∨ (index = 336 ∧ t = 8)) (hdg : decode cc pc = .ok (.instanceof index, 3))
    (kk : W p l e R s m args below meth c H locs cells slots Q (F0 m (pc + 3) ls (.int (isK ((wg E).1 q) t) :: rest))) : W p l e R s m args below meth c H locs cells slots Q (F0 m pc ls (.ref (wa E 40 q) :: rest)) := by
  obtain ⟨q0, -, hq⟩ := ws_at I J (okP hW hp).1
  unfold cont at hq
  rcases kd_cases ((wg E).1 q) with hk | hk | hk | hk | hk
  · rw [co2 E _ _ hk] at hq
    have hr := va_recv X.2.1.1 hW.1 (ci := 2) rfl hq
    rcases ht with ⟨rfl, rfl⟩ | ⟨rfl, rfl⟩ | ⟨rfl, rfl⟩ | ⟨rfl, rfl⟩
    · have e1 : isK ((wg E).1 q) 2 = 1 := by simp [isK, hk]
      rw [e1] at kk
      exact va_instS (nm := RX2) X.1.1 X.1.2.1 X.1.2.2.2.1 (X.1.2.2.2.2 _ tw279) (X.2.1.1.1 2 _ rfl).2 hr hdg kk
    · have e1 : isK ((wg E).1 q) 3 = 0 := by simp [isK, hk]
      rw [e1] at kk
      exact va_instNo (C := RX2) (nm := RX3) X.1.1 X.1.2.1 X.1.2.2.2.1 (X.1.2.2.2.2 _ tw309) (X.2.1.2.1 (RX2, RX3) (by decide)) hr hdg kk
    · have e1 : isK ((wg E).1 q) 10 = 0 := by simp [isK, hk]
      rw [e1] at kk
      exact va_instNo (C := RX2) (nm := RX10) X.1.1 X.1.2.1 X.1.2.2.2.1 (X.1.2.2.2.2 _ tw325) (X.2.1.2.1 (RX2, RX10) (by decide)) hr hdg kk
    · have e1 : isK ((wg E).1 q) 8 = 0 := by simp [isK, hk]
      rw [e1] at kk
      exact va_instNo (C := RX2) (nm := RX8) X.1.1 X.1.2.1 X.1.2.2.2.1 (X.1.2.2.2.2 _ tw341) (X.2.1.2.1 (RX2, RX8) (by decide)) hr hdg kk
  · rw [co3 E _ _ hk] at hq
    have hr := va_recv X.2.1.1 hW.1 (ci := 3) rfl hq
    rcases ht with ⟨rfl, rfl⟩ | ⟨rfl, rfl⟩ | ⟨rfl, rfl⟩ | ⟨rfl, rfl⟩
    · have e1 : isK ((wg E).1 q) 2 = 0 := by simp [isK, hk]
      rw [e1] at kk
      exact va_instNo (C := RX3) (nm := RX2) X.1.1 X.1.2.1 X.1.2.2.2.1 (X.1.2.2.2.2 _ tw279) (X.2.1.2.1 (RX3, RX2) (by decide)) hr hdg kk
    · have e1 : isK ((wg E).1 q) 3 = 1 := by simp [isK, hk]
      rw [e1] at kk
      exact va_instS (nm := RX3) X.1.1 X.1.2.1 X.1.2.2.2.1 (X.1.2.2.2.2 _ tw309) (X.2.1.1.1 3 _ rfl).2 hr hdg kk
    · have e1 : isK ((wg E).1 q) 10 = 0 := by simp [isK, hk]
      rw [e1] at kk
      exact va_instNo (C := RX3) (nm := RX10) X.1.1 X.1.2.1 X.1.2.2.2.1 (X.1.2.2.2.2 _ tw325) (X.2.1.2.1 (RX3, RX10) (by decide)) hr hdg kk
    · have e1 : isK ((wg E).1 q) 8 = 0 := by simp [isK, hk]
      rw [e1] at kk
      exact va_instNo (C := RX3) (nm := RX8) X.1.1 X.1.2.1 X.1.2.2.2.1 (X.1.2.2.2.2 _ tw341) (X.2.1.2.1 (RX3, RX8) (by decide)) hr hdg kk
  · rw [co8 E _ _ hk] at hq
    have hr := va_recv X.2.1.1 hW.1 (ci := 8) rfl hq
    rcases ht with ⟨rfl, rfl⟩ | ⟨rfl, rfl⟩ | ⟨rfl, rfl⟩ | ⟨rfl, rfl⟩
    · have e1 : isK ((wg E).1 q) 2 = 0 := by simp [isK, hk]
      rw [e1] at kk
      exact va_instNo (C := RX8) (nm := RX2) X.1.1 X.1.2.1 X.1.2.2.2.1 (X.1.2.2.2.2 _ tw279) (X.2.1.2.1 (RX8, RX2) (by decide)) hr hdg kk
    · have e1 : isK ((wg E).1 q) 3 = 0 := by simp [isK, hk]
      rw [e1] at kk
      exact va_instNo (C := RX8) (nm := RX3) X.1.1 X.1.2.1 X.1.2.2.2.1 (X.1.2.2.2.2 _ tw309) (X.2.1.2.1 (RX8, RX3) (by decide)) hr hdg kk
    · have e1 : isK ((wg E).1 q) 10 = 1 := by simp [isK, hk]
      rw [e1] at kk
      exact va_instY (C := RX8) (nm := RX10) X.1.1 X.1.2.1 X.1.2.2.2.1 (X.1.2.2.2.2 _ tw325) (X.2.1.2.2.1 _ nw1258) hr hdg kk
    · have e1 : isK ((wg E).1 q) 8 = 1 := by simp [isK, hk]
      rw [e1] at kk
      exact va_instS (nm := RX8) X.1.1 X.1.2.1 X.1.2.2.2.1 (X.1.2.2.2.2 _ tw341) (X.2.1.1.1 8 _ rfl).2 hr hdg kk
  · rw [co10 E _ _ hk] at hq
    have hr := va_recv X.2.1.1 hW.1 (ci := 10) rfl hq
    rcases ht with ⟨rfl, rfl⟩ | ⟨rfl, rfl⟩ | ⟨rfl, rfl⟩ | ⟨rfl, rfl⟩
    · have e1 : isK ((wg E).1 q) 2 = 0 := by simp [isK, hk]
      rw [e1] at kk
      exact va_instNo (C := RX10) (nm := RX2) X.1.1 X.1.2.1 X.1.2.2.2.1 (X.1.2.2.2.2 _ tw279) (X.2.1.2.1 (RX10, RX2) (by decide)) hr hdg kk
    · have e1 : isK ((wg E).1 q) 3 = 0 := by simp [isK, hk]
      rw [e1] at kk
      exact va_instNo (C := RX10) (nm := RX3) X.1.1 X.1.2.1 X.1.2.2.2.1 (X.1.2.2.2.2 _ tw309) (X.2.1.2.1 (RX10, RX3) (by decide)) hr hdg kk
    · have e1 : isK ((wg E).1 q) 10 = 1 := by simp [isK, hk]
      rw [e1] at kk
      exact va_instS (nm := RX10) X.1.1 X.1.2.1 X.1.2.2.2.1 (X.1.2.2.2.2 _ tw325) (X.2.1.1.1 10 _ rfl).2 hr hdg kk
    · have e1 : isK ((wg E).1 q) 8 = 0 := by simp [isK, hk]
      rw [e1] at kk
      exact va_instNo (C := RX10) (nm := RX8) X.1.1 X.1.2.1 X.1.2.2.2.1 (X.1.2.2.2.2 _ tw341) (X.2.1.2.1 (RX10, RX8) (by decide)) hr hdg kk
  · rw [co5 E _ _ hk] at hq
    have hr := va_recv X.2.1.1 hW.1 (ci := 5) rfl hq
    rcases ht with ⟨rfl, rfl⟩ | ⟨rfl, rfl⟩ | ⟨rfl, rfl⟩ | ⟨rfl, rfl⟩
    · have e1 : isK ((wg E).1 q) 2 = 0 := by simp [isK, hk]
      rw [e1] at kk
      exact va_instNo (C := RX5) (nm := RX2) X.1.1 X.1.2.1 X.1.2.2.2.1 (X.1.2.2.2.2 _ tw279) (X.2.1.2.1 (RX5, RX2) (by decide)) hr hdg kk
    · have e1 : isK ((wg E).1 q) 3 = 0 := by simp [isK, hk]
      rw [e1] at kk
      exact va_instNo (C := RX5) (nm := RX3) X.1.1 X.1.2.1 X.1.2.2.2.1 (X.1.2.2.2.2 _ tw309) (X.2.1.2.1 (RX5, RX3) (by decide)) hr hdg kk
    · have e1 : isK ((wg E).1 q) 10 = 0 := by simp [isK, hk]
      rw [e1] at kk
      exact va_instNo (C := RX5) (nm := RX10) X.1.1 X.1.2.1 X.1.2.2.2.1 (X.1.2.2.2.2 _ tw325) (X.2.1.2.1 (RX5, RX10) (by decide)) hr hdg kk
    · have e1 : isK ((wg E).1 q) 8 = 0 := by simp [isK, hk]
      rw [e1] at kk
      exact va_instNo (C := RX5) (nm := RX8) X.1.1 X.1.2.1 X.1.2.2.2.1 (X.1.2.2.2.2 _ tw341) (X.2.1.2.1 (RX5, RX8) (by decide)) hr hdg kk
end Rows6
