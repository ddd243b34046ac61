abbrev MI : Type := Nat → Nat → Nat → Int32
abbrev MJ : Type := Nat → Nat → Nat → Int64
/-- kinds of the persons (places in vwCl), how many persons, how many rules stand in the arrays -/
abbrev GS : Type := (Nat → Nat) × Nat × Nat
/-- tables, array classes, the heap's size at the law's start, addresses of cells, the cells that are there, GS -/
abbrev WE : Type := va_G × (Nat → ClassId) × Nat × (Nat → Nat → Nat) × List (Nat × Nat) × GS
abbrev wD (E : WE) : va_G := E.1
abbrev wc (E : WE) : Nat → ClassId := E.2.1
abbrev wN (E : WE) : Nat := E.2.2.1
abbrev wa (E : WE) : Nat → Nat → Nat := E.2.2.2.1
abbrev wC (E : WE) : List (Nat × Nat) := E.2.2.2.2.1
abbrev wg (E : WE) : GS := E.2.2.2.2.2
def u3 {α : Type} (I : Nat → Nat → Nat → α) (k p : Nat) (f : Nat → α) : Nat → Nat → Nat → α := fun a b => if a = k ∧ b = p then f else I a b
theorem u3_same {α : Type} (I : Nat → Nat → Nat → α) (k p : Nat) (f : Nat → α) : u3 I k p f k p = f := by simp [u3]
theorem u3_ne {α : Type} (I : Nat → Nat → Nat → α) {k p a b : Nat} (f : Nat → α) (h : ¬ (a = k ∧ b = p)) : u3 I k p f a b = I a b := by simp [u3, h]
def tysW (cy : Nat → ClassId) : List (ClassId × FieldType) := [(cy 0, .byte), (cy 1, .int), (cy 2, .long), (cy 3, .boolean), (cy 4, .object RX5), (cy 5, .object RX6)]
def contR (E : WE) (i : Nat → Int32) (j : Nat → Int64) (k p : Nat) : va_E := match k with
  | 0 => .inr (11, [.ref (wa E 1 0), .ref (wa E 3 0), .ref (wa E 4 0), .ref (wa E 5 0), .ref (wa E 6 0), .ref (wa E 8 0), .ref (wa E 10 0), .ref (wa E 12 0), .ref (wa E 14 0), .int (i 9), .int (i 10), .int (i 11), .int (i 12)])
  | 1 => .inr (4, [.ref (wa E 2 0), .int (i 1)])
  | 2 => .inl (wc E 1, 20, .inl i)
  | 3 => .inl (wc E 5, 6, .inr (.inr (.inr (.inr (fun q => if q < (wg E).2.2 then some (wa E 43 q) else none)))))
  | 4 => .inl (wc E 4, 8, .inr (.inr (.inr (.inr (fun q => if q < (wg E).2.1 then some (wa E 40 q) else none)))))
  | 5 => .inl (wc E 1, 6, .inl i)
  | 6 => .inr (7, [.ref (wa E 7 0), .int (i 1), .long (j 2)])
  | 7 => .inl (wc E 2, 9, .inr (.inl j))
  | 8 => .inr (9, [.ref (wa E 9 0), .int (i 1), .long (j 2)])
  | 9 => .inl (wc E 2, 81, .inr (.inl j))
  | 10 => .inr (0, [.ref (wa E 11 p), .int (i 1), .int (i 2), .int (i 3), .int (i 4)])
  | 11 => .inl (wc E 1, 8, .inl i)
  | 12 => .inr (1, [.ref (wa E 13 0), .ref (wa E 10 1), .int (i 2), .int (i 3), .int (i 4)])
  | 13 => .inl (wc E 1, 8, .inl i)
  | 14 => .inl (wc E 2, 4, .inr (.inl j))
  | 17 => .inr (12, [.int (i 0), .ref (wa E 18 0), .ref (wa E 19 0), .ref (wa E 20 0), .int (i 4), .ref (wa E 21 0), .ref (wa E 22 0), .int (i 7), .ref (wa E 23 0), .ref (wa E 24 0), .ref (wa E 25 0), .ref (wa E 26 0), .ref (wa E 27 0), .int (i 13), .ref (wa E 28 0), .int (i 15), .int (i 16), .int (i 17), .ref (wa E 29 0), .ref (wa E 30 0), .int (i 20), .int (i 21), .int (i 22), .int (i 23), .int (i 24), .int (i 25), .int (i 26), .ref (wa E 31 0), .long (j 28), .int (i 29), .int (i 30), .int (i 31), .int (i 32), .ref (wa E 32 0), .int (i 34), .ref (wa E 33 0), .long (j 36)])
  | 18 => .inl (wc E 1, 8, .inl i)
  | 19 => .inl (wc E 1, 8, .inl i)
  | 20 => .inl (wc E 1, 8, .inl i)
  | 21 => .inl (wc E 1, 6, .inl i)
  | 22 => .inl (wc E 1, 48, .inl i)
  | 23 => .inl (wc E 1, 6, .inl i)
  | 24 => .inl (wc E 1, 6, .inl i)
  | 25 => .inl (wc E 1, 6, .inl i)
  | 26 => .inl (wc E 3, 6, .inl i)
  | 27 => .inl (wc E 3, 6, .inl i)
  | 28 => .inl (wc E 0, 20, .inl i)
  | 29 => .inl (wc E 1, 8, .inl i)
  | 30 => .inl (wc E 1, 48, .inl i)
  | 31 => .inl (wc E 2, 9, .inr (.inl j))
  | 32 => .inl (wc E 2, 36, .inr (.inl j))
  | 33 => .inl (wc E 1, 9, .inl i)
  | 40 => if (wg E).1 p = 2 then .inr (2, [.int (i 0), .ref (wa E 41 p), .ref (wa E 42 p), .int (i 3), .int (i 4), .int (i 5)]) else if (wg E).1 p = 3 then .inr (3, [.int (i 0), .ref (wa E 41 p), .ref (wa E 42 p), .int (i 3), .int (i 4), .int (i 5), .int (i 6)]) else if (wg E).1 p = 8 then .inr (8, [.int (i 6), .int (i 0), .ref (wa E 41 p), .ref (wa E 42 p), .int (i 3), .int (i 4), .int (i 5)]) else if (wg E).1 p = 10 then .inr (10, [.int (i 0), .ref (wa E 41 p), .ref (wa E 42 p), .int (i 3), .int (i 4), .int (i 5), .int (i 6)]) else .inr (5, [.int (i 0), .ref (wa E 41 p), .ref (wa E 42 p), .int (i 3), .int (i 4), .int (i 5)])
  | 41 => .inl (wc E 1, 6, .inl i)
  | 42 => .inl (wc E 1, 6, .inl i)
  | 43 => .inr (6, [.int (i 0), .int (i 1), .int (i 2), .int (i 3), .int (i 4)])
  | _ => .inr (0, [])
def cont (E : WE) (I : MI) (J : MJ) (k p : Nat) : va_E := contR E (I k p) (J k p) k p
def wsW (E : WE) (I : MI) (J : MJ) : va_W := (wC E).map (fun c => (wa E c.1 c.2, cont E I J c.1 c.2))
def AA (E : WE) : Nat → Prop := fun q => wN E ≤ q
def wStat : List (Nat × Nat) := [(0, 0), (1, 0), (2, 0), (3, 0), (4, 0), (5, 0), (6, 0), (7, 0), (8, 0), (9, 0), (10, 0), (10, 1), (11, 0), (11, 1), (12, 0), (13, 0), (14, 0), (17, 0), (18, 0), (19, 0), (20, 0), (21, 0), (22, 0), (23, 0), (24, 0), (25, 0), (26, 0), (27, 0), (28, 0), (29, 0), (30, 0), (31, 0), (32, 0), (33, 0)]
def okC (E : WE) : Prop := (∀ c ∈ wStat, c ∈ wC E) ∧ (∀ p, p < (wg E).2.1 → (40, p) ∈ wC E ∧ (41, p) ∈ wC E ∧ (42, p) ∈ wC E) ∧ ∀ r, r < (wg E).2.2 → (43, r) ∈ wC E
def ncP : List (String × String) := [(RX5, RX2), (RX3, RX2), (RX8, RX2), (RX10, RX2), (RX5, RX3), (RX2, RX3), (RX8, RX3), (RX10, RX3), (RX5, RX8), (RX2, RX8), (RX3, RX8), (RX10, RX8), (RX5, RX10), (RX2, RX10), (RX3, RX10)]
def NX (U : State) : Prop := (∀ w ∈ nestW, va_Nw w U) ∧ va_AO RX5 U ∧ va_AO RX6 U
theorem NX.warm {u U : State} (hW : u.WarmedH U.vm) (h : NX u) : NX U := ⟨nestW_warm hW h.1, va_AO.moved hW.alike h.2.1, va_AO.moved hW.alike h.2.2⟩
theorem NX.same {u U : State} (hvm : u.vm = U.vm) (h : NX u) : NX U := ⟨fun w hw => va_Nw.same (nestW_tab w hw) hvm (h.1 w hw), va_AO.moved (by rw [hvm]; exact Vm.Alike.refl _) h.2.1, va_AO.moved (by rw [hvm]; exact Vm.Alike.refl _) h.2.2⟩
def KK (E : WE) (U : State) : Prop := va_K (wD E) vwCl (tysW (wc E)) U ∧ (∀ q ∈ ncP, va_Nc q.1 q.2 U) ∧ NX U
theorem KK.warm {E : WE} {u U : State} (hW : u.WarmedH U.vm) (h : KK E u) : KK E U := ⟨va_K.moved hW.alike h.1, fun q hq => va_Nc.moved hW.alike (h.2.1 q hq), NX.warm hW h.2.2⟩
theorem KK.same {E : WE} {u U : State} (hvm : u.vm = U.vm) (h : KK E u) : KK E U := ⟨va_K.moved (by rw [hvm]; exact Vm.Alike.refl _) h.1, fun q hq => va_Nc.moved (by rw [hvm]; exact Vm.Alike.refl _) (h.2.1 q hq), NX.same hvm h.2.2⟩
def Wp (E : WE) (I : MI) (J : MJ) (U : State) : Prop := wN E ≤ U.heap.size ∧ va_P (wD E) vwCl (wsW E I J) U.heap ∧ KK E U ∧ va_D (AA E) (wsW E I J) ∧ okC E
def Wd (E : WE) (I : MI) (J : MJ) (s : State) (H : Heap) (locs : List Loc) : Prop := va_P (wD E) vwCl (wsW E I J) H ∧ va_D (AA E) (wsW E I J) ∧ va_S (AA E) s.heap H locs ∧ okC E
def Cx (E : WE) (cc : ByteArray) (nL : Nat) (own : String) (rt : Option FieldType) (p : Program) (s : State) (m : MethodId) (args : Array Value) (c : Code) (meth : Method) : Prop :=
  CallFix p m c cc nL s args lwt own ∧ KK E s ∧ wN E ≤ s.heap.size ∧ meth.sig.returnType = rt ∧ meth.locks = false
def QI (E : WE) (Q : Int32 → MI → MJ → Prop) : Array Value → State → Outcome → State → Prop := va_Qi (S := MI × MJ) (fun r u => Q r u.1 u.2) (fun u t => Wp E u.1 u.2 t) (AA E)
def QL (E : WE) (Q : Int64 → MI → MJ → Prop) : Array Value → State → Outcome → State → Prop := va_Ql (S := MI × MJ) (fun r u => Q r u.1 u.2) (fun u t => Wp E u.1 u.2 t) (AA E)
def QV (E : WE) (Q : MI → MJ → Prop) : Array Value → State → Outcome → State → Prop := va_Qv (S := MI × MJ) (fun u => Q u.1 u.2) (fun u t => Wp E u.1 u.2 t) (AA E)
/-- an answer that is null or the object of kind k at place j, below n -/
def QR (E : WE) (k n : Nat) (Q : Option Nat → MI → MJ → Prop) : Array Value → State → Outcome → State → Prop := va_Qq (S := Option Nat × MI × MJ) (fun r u => r = u.1.map (wa E k) ∧ (∀ j, u.1 = some j → j < n) ∧ Q u.1 u.2.1 u.2.2) (fun u t => Wp E u.2.1 u.2.2 t) (AA E)

theorem sc0_0 : ((0, 0) : Nat × Nat) ∈ wStat := by decide
theorem sc1_0 : ((1, 0) : Nat × Nat) ∈ wStat := by decide
theorem sc2_0 : ((2, 0) : Nat × Nat) ∈ wStat := by decide
theorem sc3_0 : ((3, 0) : Nat × Nat) ∈ wStat := by decide
theorem sc4_0 : ((4, 0) : Nat × Nat) ∈ wStat := by decide
theorem sc5_0 : ((5, 0) : Nat × Nat) ∈ wStat := by decide
theorem sc6_0 : ((6, 0) : Nat × Nat) ∈ wStat := by decide
theorem sc7_0 : ((7, 0) : Nat × Nat) ∈ wStat := by decide
theorem sc8_0 : ((8, 0) : Nat × Nat) ∈ wStat := by decide
theorem sc9_0 : ((9, 0) : Nat × Nat) ∈ wStat := by decide
theorem sc10_0 : ((10, 0) : Nat × Nat) ∈ wStat := by decide
theorem sc10_1 : ((10, 1) : Nat × Nat) ∈ wStat := by decide
theorem sc11_0 : ((11, 0) : Nat × Nat) ∈ wStat := by decide
theorem sc11_1 : ((11, 1) : Nat × Nat) ∈ wStat := by decide
theorem sc12_0 : ((12, 0) : Nat × Nat) ∈ wStat := by decide
theorem sc13_0 : ((13, 0) : Nat × Nat) ∈ wStat := by decide
theorem sc14_0 : ((14, 0) : Nat × Nat) ∈ wStat := by decide
theorem sc17_0 : ((17, 0) : Nat × Nat) ∈ wStat := by decide
theorem sc18_0 : ((18, 0) : Nat × Nat) ∈ wStat := by decide
theorem sc19_0 : ((19, 0) : Nat × Nat) ∈ wStat := by decide
theorem sc20_0 : ((20, 0) : Nat × Nat) ∈ wStat := by decide
theorem sc21_0 : ((21, 0) : Nat × Nat) ∈ wStat := by decide
theorem sc22_0 : ((22, 0) : Nat × Nat) ∈ wStat := by decide
theorem sc23_0 : ((23, 0) : Nat × Nat) ∈ wStat := by decide
theorem sc24_0 : ((24, 0) : Nat × Nat) ∈ wStat := by decide
theorem sc25_0 : ((25, 0) : Nat × Nat) ∈ wStat := by decide
theorem sc26_0 : ((26, 0) : Nat × Nat) ∈ wStat := by decide
theorem sc27_0 : ((27, 0) : Nat × Nat) ∈ wStat := by decide
theorem sc28_0 : ((28, 0) : Nat × Nat) ∈ wStat := by decide
theorem sc29_0 : ((29, 0) : Nat × Nat) ∈ wStat := by decide
theorem sc30_0 : ((30, 0) : Nat × Nat) ∈ wStat := by decide
theorem sc31_0 : ((31, 0) : Nat × Nat) ∈ wStat := by decide
theorem sc32_0 : ((32, 0) : Nat × Nat) ∈ wStat := by decide
theorem sc33_0 : ((33, 0) : Nat × Nat) ∈ wStat := by decide
theorem ws_at {E : WE} (I : MI) (J : MJ) {k p : Nat} (h : (k, p) ∈ wC E) : ∃ q0 : Nat, (wC E)[q0]? = some (k, p) ∧ (wsW E I J)[q0]? = some (wa E k p, cont E I J k p) := by
  obtain ⟨q0, hq⟩ := List.getElem?_of_mem h
  exact ⟨q0, hq, by simp [wsW, hq]⟩
theorem ws_set {E : WE} {I I' : MI} {J J' : MJ} {k p q0 : Nat} {A : Nat → Prop} (hD : va_D A (wsW E I J)) (hq : (wC E)[q0]? = some (k, p)) (hsame : ∀ a b, ¬ (a = k ∧ b = p) → cont E I' J' a b = cont E I J a b) :
    (wsW E I J).set q0 (wa E k p, cont E I' J' k p) = wsW E I' J' := by
  have hl : q0 < (wsW E I J).length := by
    have := (List.getElem?_eq_some_iff.mp hq).1
    simpa [wsW] using this
  apply List.ext_getElem?
  intro i
  by_cases hi : i = q0
  · subst hi
    rw [List.getElem?_set_self hl]
    simp [wsW, hq]
  · rw [List.getElem?_set_ne (fun h => hi h.symm)]
    cases hc : (wC E)[i]? with
    | none => simp [wsW, hc]
    | some c =>
      obtain ⟨a, b⟩ := c
      have h1 : (wsW E I J)[i]? = some (wa E a b, cont E I J a b) := by simp [wsW, hc]
      have h2 : (wsW E I' J')[i]? = some (wa E a b, cont E I' J' a b) := by simp [wsW, hc]
      rw [h1, h2, hsame a b]
      rintro ⟨rfl, rfl⟩
      have h3 : (wsW E I J)[q0]? = some (wa E a b, cont E I J a b) := by simp [wsW, hq]
      exact hi (hD.1 i q0 _ _ h1 h3 rfl)
theorem okS {E : WE} {I : MI} {J : MJ} {s : State} {H : Heap} {locs : List Loc} (hW : Wd E I J s H locs) {c : Nat × Nat} (h : c ∈ wStat) : c ∈ wC E := hW.2.2.2.1 c h
theorem okP {E : WE} {I : MI} {J : MJ} {s : State} {H : Heap} {locs : List Loc} (hW : Wd E I J s H locs) {p : Nat} (h : p < (wg E).2.1) : (40, p) ∈ wC E ∧ (41, p) ∈ wC E ∧ (42, p) ∈ wC E := hW.2.2.2.2.1 p h
theorem okR {E : WE} {I : MI} {J : MJ} {s : State} {H : Heap} {locs : List Loc} (hW : Wd E I J s H locs) {p : Nat} (h : p < (wg E).2.2) : (43, p) ∈ wC E := hW.2.2.2.2.2 p h
theorem okB {E : WE} {I : MI} {J : MJ} {s : State} {H : Heap} {locs : List Loc} (hW : Wd E I J s H locs) {p : Nat} (h : p < 2) : (10, p) ∈ wC E ∧ (11, p) ∈ wC E := by
  rcases (show p = 0 ∨ p = 1 by omega) with rfl | rfl
  · exact ⟨okS hW sc10_0, okS hW sc11_0⟩
  · exact ⟨okS hW sc10_1, okS hW sc11_1⟩
/-- what changes in I at one cell changes no other cell -/
theorem cont_I {E : WE} {I : MI} {J : MJ} {k p : Nat} (f : Nat → Int32) : ∀ a b, ¬ (a = k ∧ b = p) → cont E (u3 I k p f) J a b = cont E I J a b := by
  intro a b h
  unfold cont
  rw [u3_ne I f h]
theorem cont_J {E : WE} {I : MI} {J : MJ} {k p : Nat} (f : Nat → Int64) : ∀ a b, ¬ (a = k ∧ b = p) → cont E I (u3 J k p f) a b = cont E I J a b := by
  intro a b h
  unfold cont
  rw [u3_ne J f h]
theorem cont_uI {E : WE} {I : MI} {J : MJ} {k p : Nat} (f : Nat → Int32) : cont E (u3 I k p f) J k p = contR E f (J k p) k p := by
  unfold cont
  rw [u3_same]
theorem cont_uJ {E : WE} {I : MI} {J : MJ} {k p : Nat} (f : Nat → Int64) : cont E I (u3 J k p f) k p = contR E (I k p) f k p := by
  unfold cont
  rw [u3_same]
section Rows
variable {p : Program} {l : Launch} {e : Env} {R : Room} {s : State} {m : MethodId} {args : Array Value} {below : List Frame} {meth : Method} {c : Code} {H : Heap} {locs : List Loc} {cells slots : Nat} {Q : State → Prop}
variable {E : WE} {I I' : MI} {J J' : MJ} {cc : ByteArray} {nL : Nat} {own : String} {rt : Option FieldType} {pc : Nat} {ls : Array Slot} {rest : List Value}
theorem r_get (X : Cx E cc nL own rt p s m args c meth) (hW : Wd E I J s H locs) {k pp ci index N : Nat} {fs : List Value} {Cn : String} {T : u_T} {v : Value} (j : Nat) (hc : (k, pp) ∈ wC E) (he : cont E I J k pp = .inr (ci, fs)) (hcl : vwCl[ci]? = some (Cn, T, N)) (hin : ∀ w ∈ u_ws Cn T N, w ∈ lwt) (hj : j < N)
    (hlink : Cond.fieldLink own index (T j).1 (T j).2.1 (T j).2.2.1 ∈ lwt) (hv : fs[j]? = some v) (hdg : decode cc pc = .ok (.getfield index, 3)) (kk : W p l e R s m args below meth c H locs cells slots Q (F0 m (pc + 3) ls (v :: rest))) : W p l e R s m args below meth c H locs cells slots Q (F0 m pc ls (.ref (wa E k pp) :: rest)) := by
  obtain ⟨q0, -, hq⟩ := ws_at I J hc
  rw [he] at hq
  exact va_get (D := wD E) X.1.1 X.1.2.1 X.1.2.2.2.2 hin X.1.2.2.2.1 X.2.1.1 hW.1 q0 hq hcl j hj (X.1.2.2.2.2 _ hlink) (fun _ h => h) hv hdg kk
theorem r_getN (X : Cx E cc nL own rt p s m args c meth) (hW : Wd E I J s H locs) {k pp ci index N : Nat} {fs : List Value} {Cn host : String} {T : u_T} {v : Value} (j : Nat) (hc : (k, pp) ∈ wC E) (he : cont E I J k pp = .inr (ci, fs)) (hcl : vwCl[ci]? = some (Cn, T, N)) (hin : ∀ w ∈ u_ws Cn T N, w ∈ lwt) (hj : j < N)
    (hlink : Cond.fieldLinkNest own index (T j).1 (T j).2.1 (T j).2.2.1 host ∈ nestW) (hv : fs[j]? = some v) (hdg : decode cc pc = .ok (.getfield index, 3)) (kk : W p l e R s m args below meth c H locs cells slots Q (F0 m (pc + 3) ls (v :: rest))) : W p l e R s m args below meth c H locs cells slots Q (F0 m pc ls (.ref (wa E k pp) :: rest)) := by
  obtain ⟨q0, -, hq⟩ := ws_at I J hc
  rw [he] at hq
  exact va_getN (D := wD E) X.1.1 X.1.2.1 X.1.2.2.2.2 hin X.1.2.2.2.1 X.2.1.1 hW.1 q0 hq hcl j hj (va_Nw.use rfl (X.2.1.2.2.1 _ hlink)) (fun _ h => h) hv hdg kk
theorem r_put (X : Cx E cc nL own rt p s m args c meth) (hW : Wd E I J s H locs) {k pp ci index N : Nat} {fs : List Value} {Cn : String} {T : u_T} {v : Value} {ty : FieldType} (j : Nat) (hc : (k, pp) ∈ wC E) (he : cont E I J k pp = .inr (ci, fs)) (hcl : vwCl[ci]? = some (Cn, T, N)) (hin : ∀ w ∈ u_ws Cn T N, w ∈ lwt) (ty0 : Nat → FieldType) (hty : ∀ k, k < N → parseFieldDescriptor (T k).2.2.1 = some (ty0 k)) (hnm : ∀ a, a < N → ∀ b, b < N → a ≠ b → (T a).2.1 ≠ (T b).2.1) (hj : j < N)
    (hlink : Cond.fieldLink own index (T j).1 (T j).2.1 (T j).2.2.1 ∈ lwt) (hfin : (T j).2.2.2 = false) (hd : parseFieldDescriptor (T j).2.2.1 = some ty) (hn : narrow ty v = v) (hfit : fits ty v = true) (hl : j < fs.length) (he' : cont E I' J' k pp = .inr (ci, fs.set j v)) (hsame : ∀ a b, ¬ (a = k ∧ b = pp) → cont E I' J' a b = cont E I J a b)
    (hdg : decode cc pc = .ok (.putfield index, 3)) (kk : ∀ (H1 : Heap) (locs1 : List Loc), Wd E I' J' s H1 locs1 → W p l e R s m args below meth c H1 locs1 cells slots Q (F0 m (pc + 3) ls rest)) : W p l e R s m args below meth c H locs cells slots Q (F0 m pc ls (v :: .ref (wa E k pp) :: rest)) := by
  obtain ⟨q0, hq1, hq⟩ := ws_at I J hc
  have hset := ws_set (I' := I') (J' := J') hW.2.1 hq1 hsame
  rw [he'] at hset
  rw [he] at hq
  refine va_put (D := wD E) X.1.1 X.1.2.1 X.1.2.2.2.2 hin ty0 hty hnm X.1.2.2.2.1 X.2.1.1 hW.1 hW.2.1 hW.2.2.1 q0 hq hcl j hj (X.1.2.2.2.2 _ hlink) (fun _ h => h) hfin hd hn hfit hl hdg (fun H1 locs1 hP hD hS => ?_)
  rw [hset] at hP hD
  exact kk H1 locs1 ⟨hP, hD, hS, hW.2.2.2⟩
theorem r_putN (X : Cx E cc nL own rt p s m args c meth) (hW : Wd E I J s H locs) {k pp ci index N : Nat} {fs : List Value} {Cn host : String} {T : u_T} {v : Value} {ty : FieldType} (j : Nat) (hc : (k, pp) ∈ wC E) (he : cont E I J k pp = .inr (ci, fs)) (hcl : vwCl[ci]? = some (Cn, T, N)) (hin : ∀ w ∈ u_ws Cn T N, w ∈ lwt) (ty0 : Nat → FieldType) (hty : ∀ k, k < N → parseFieldDescriptor (T k).2.2.1 = some (ty0 k)) (hnm : ∀ a, a < N → ∀ b, b < N → a ≠ b → (T a).2.1 ≠ (T b).2.1) (hj : j < N)
    (hlink : Cond.fieldLinkNest own index (T j).1 (T j).2.1 (T j).2.2.1 host ∈ nestW) (hfin : (T j).2.2.2 = false) (hd : parseFieldDescriptor (T j).2.2.1 = some ty) (hn : narrow ty v = v) (hfit : fits ty v = true) (hl : j < fs.length) (he' : cont E I' J' k pp = .inr (ci, fs.set j v)) (hsame : ∀ a b, ¬ (a = k ∧ b = pp) → cont E I' J' a b = cont E I J a b)
    (hdg : decode cc pc = .ok (.putfield index, 3)) (kk : ∀ (H1 : Heap) (locs1 : List Loc), Wd E I' J' s H1 locs1 → W p l e R s m args below meth c H1 locs1 cells slots Q (F0 m (pc + 3) ls rest)) : W p l e R s m args below meth c H locs cells slots Q (F0 m pc ls (v :: .ref (wa E k pp) :: rest)) := by
  obtain ⟨q0, hq1, hq⟩ := ws_at I J hc
  have hset := ws_set (I' := I') (J' := J') hW.2.1 hq1 hsame
  rw [he'] at hset
  rw [he] at hq
  refine va_putN (D := wD E) X.1.1 X.1.2.1 X.1.2.2.2.2 hin ty0 hty hnm X.1.2.2.2.1 X.2.1.1 hW.1 hW.2.1 hW.2.2.1 q0 hq hcl j hj (va_Nw.use rfl (X.2.1.2.2.1 _ hlink)) (fun _ h => h) hfin hd hn hfit hl hdg (fun H1 locs1 hP hD hS => ?_)
  rw [hset] at hP hD
  exact kk H1 locs1 ⟨hP, hD, hS, hW.2.2.2⟩
theorem r_iald (X : Cx E cc nL own rt p s m args c meth) (hW : Wd E I J s H locs) {k pp n : Nat} (hc : (k, pp) ∈ wC E) (he : cont E I J k pp = .inl (wc E 1, n, .inl (I k pp))) {i : Int32} (hin : vp_in i n) (hdg : decode cc pc = .ok (.iaload, 1))
    (kk : W p l e R s m args below meth c H locs cells slots Q (F0 m (pc + 1) ls (.int (I k pp i.toNatClampNeg) :: rest))) : W p l e R s m args below meth c H locs cells slots Q (F0 m pc ls (.int i :: .ref (wa E k pp) :: rest)) := by
  obtain ⟨q0, -, hq⟩ := ws_at I J hc
  rw [he] at hq
  exact va_iald (D := wD E) X.1.1 X.1.2.1 X.2.1.1 hW.1 q0 1 hq rfl hin hdg kk
theorem r_bald (X : Cx E cc nL own rt p s m args c meth) (hW : Wd E I J s H locs) {k pp n : Nat} (hc : (k, pp) ∈ wC E) (he : cont E I J k pp = .inl (wc E 0, n, .inl (I k pp))) {i : Int32} (hin : vp_in i n) (hdg : decode cc pc = .ok (.baload, 1))
    (kk : W p l e R s m args below meth c H locs cells slots Q (F0 m (pc + 1) ls (.int (I k pp i.toNatClampNeg) :: rest))) : W p l e R s m args below meth c H locs cells slots Q (F0 m pc ls (.int i :: .ref (wa E k pp) :: rest)) := by
  obtain ⟨q0, -, hq⟩ := ws_at I J hc
  rw [he] at hq
  exact va_bald (D := wD E) X.1.1 X.1.2.1 X.2.1.1 hW.1 q0 0 hq rfl hin hdg kk
theorem r_zald (X : Cx E cc nL own rt p s m args c meth) (hW : Wd E I J s H locs) {k pp n : Nat} (hc : (k, pp) ∈ wC E) (he : cont E I J k pp = .inl (wc E 3, n, .inl (I k pp))) {i : Int32} (hin : vp_in i n) (hdg : decode cc pc = .ok (.baload, 1))
    (kk : W p l e R s m args below meth c H locs cells slots Q (F0 m (pc + 1) ls (.int (I k pp i.toNatClampNeg) :: rest))) : W p l e R s m args below meth c H locs cells slots Q (F0 m pc ls (.int i :: .ref (wa E k pp) :: rest)) := by
  obtain ⟨q0, -, hq⟩ := ws_at I J hc
  rw [he] at hq
  exact va_zald (D := wD E) X.1.1 X.1.2.1 X.2.1.1 hW.1 q0 3 hq rfl hin hdg kk
theorem r_lald (X : Cx E cc nL own rt p s m args c meth) (hW : Wd E I J s H locs) {k pp n : Nat} (hc : (k, pp) ∈ wC E) (he : cont E I J k pp = .inl (wc E 2, n, .inr (.inl (J k pp)))) {i : Int32} (hin : vp_in i n) (hdg : decode cc pc = .ok (.laload, 1))
    (kk : W p l e R s m args below meth c H locs cells slots Q (F0 m (pc + 1) ls (.long (J k pp i.toNatClampNeg) :: rest))) : W p l e R s m args below meth c H locs cells slots Q (F0 m pc ls (.int i :: .ref (wa E k pp) :: rest)) := by
  obtain ⟨q0, -, hq⟩ := ws_at I J hc
  rw [he] at hq
  exact va_lald (D := wD E) X.1.1 X.1.2.1 X.2.1.1 hW.1 q0 2 hq rfl hin hdg kk
theorem r_iast (X : Cx E cc nL own rt p s m args c meth) (hW : Wd E I J s H locs) {k pp n : Nat} (hc : (k, pp) ∈ wC E) (he : ∀ f, contR E f (J k pp) k pp = .inl (wc E 1, n, .inl f)) {i : Int32} {x : Int32} (hin : vp_in i n) (hdg : decode cc pc = .ok (.iastore, 1))
    (kk : ∀ (H1 : Heap) (locs1 : List Loc), Wd E (u3 I k pp (upd (I k pp) i.toNatClampNeg x)) J s H1 locs1 → W p l e R s m args below meth c H1 locs1 cells slots Q (F0 m (pc + 1) ls rest)) : W p l e R s m args below meth c H locs cells slots Q (F0 m pc ls (.int x :: .int i :: .ref (wa E k pp) :: rest)) := by
  obtain ⟨q0, hq1, hq⟩ := ws_at I J hc
  have he0 : cont E I J k pp = .inl (wc E 1, n, .inl (I k pp)) := by
    exact he (I k pp)
  rw [he0] at hq
  have hset := ws_set (I' := (u3 I k pp (upd (I k pp) i.toNatClampNeg x))) (J' := J) hW.2.1 hq1 (cont_I _)
  rw [cont_uI, he] at hset
  refine va_iast (D := wD E) X.1.1 X.1.2.1 X.2.1.1 hW.1 hW.2.1 hW.2.2.1 q0 1 hq rfl hin hdg (fun H1 locs1 hP hD hS => ?_)
  rw [hset] at hP hD
  exact kk H1 locs1 ⟨hP, hD, hS, hW.2.2.2⟩
theorem r_bast (X : Cx E cc nL own rt p s m args c meth) (hW : Wd E I J s H locs) {k pp n : Nat} (hc : (k, pp) ∈ wC E) (he : ∀ f, contR E f (J k pp) k pp = .inl (wc E 0, n, .inl f)) {i : Int32} {x : Int32} (hin : vp_in i n) (hdg : decode cc pc = .ok (.bastore, 1))
    (kk : ∀ (H1 : Heap) (locs1 : List Loc), Wd E (u3 I k pp (upd (I k pp) i.toNatClampNeg (vp_nar .byte x))) J s H1 locs1 → W p l e R s m args below meth c H1 locs1 cells slots Q (F0 m (pc + 1) ls rest)) : W p l e R s m args below meth c H locs cells slots Q (F0 m pc ls (.int x :: .int i :: .ref (wa E k pp) :: rest)) := by
  obtain ⟨q0, hq1, hq⟩ := ws_at I J hc
  have he0 : cont E I J k pp = .inl (wc E 0, n, .inl (I k pp)) := by
    exact he (I k pp)
  rw [he0] at hq
  have hset := ws_set (I' := (u3 I k pp (upd (I k pp) i.toNatClampNeg (vp_nar .byte x)))) (J' := J) hW.2.1 hq1 (cont_I _)
  rw [cont_uI, he] at hset
  refine va_bast (D := wD E) X.1.1 X.1.2.1 X.2.1.1 hW.1 hW.2.1 hW.2.2.1 q0 0 hq rfl hin hdg (fun H1 locs1 hP hD hS => ?_)
  rw [hset] at hP hD
  exact kk H1 locs1 ⟨hP, hD, hS, hW.2.2.2⟩
theorem r_zast (X : Cx E cc nL own rt p s m args c meth) (hW : Wd E I J s H locs) {k pp n : Nat} (hc : (k, pp) ∈ wC E) (he : ∀ f, contR E f (J k pp) k pp = .inl (wc E 3, n, .inl f)) {i : Int32} {x : Int32} (hin : vp_in i n) (hdg : decode cc pc = .ok (.bastore, 1))
    (kk : ∀ (H1 : Heap) (locs1 : List Loc), Wd E (u3 I k pp (upd (I k pp) i.toNatClampNeg (vp_nar .boolean x))) J s H1 locs1 → W p l e R s m args below meth c H1 locs1 cells slots Q (F0 m (pc + 1) ls rest)) : W p l e R s m args below meth c H locs cells slots Q (F0 m pc ls (.int x :: .int i :: .ref (wa E k pp) :: rest)) := by
  obtain ⟨q0, hq1, hq⟩ := ws_at I J hc
  have he0 : cont E I J k pp = .inl (wc E 3, n, .inl (I k pp)) := by
    exact he (I k pp)
  rw [he0] at hq
  have hset := ws_set (I' := (u3 I k pp (upd (I k pp) i.toNatClampNeg (vp_nar .boolean x)))) (J' := J) hW.2.1 hq1 (cont_I _)
  rw [cont_uI, he] at hset
  refine va_zast (D := wD E) X.1.1 X.1.2.1 X.2.1.1 hW.1 hW.2.1 hW.2.2.1 q0 3 hq rfl hin hdg (fun H1 locs1 hP hD hS => ?_)
  rw [hset] at hP hD
  exact kk H1 locs1 ⟨hP, hD, hS, hW.2.2.2⟩
theorem r_last (X : Cx E cc nL own rt p s m args c meth) (hW : Wd E I J s H locs) {k pp n : Nat} (hc : (k, pp) ∈ wC E) (he : ∀ f, contR E (I k pp) f k pp = .inl (wc E 2, n, .inr (.inl f))) {i : Int32} {x : Int64} (hin : vp_in i n) (hdg : decode cc pc = .ok (.lastore, 1))
    (kk : ∀ (H1 : Heap) (locs1 : List Loc), Wd E I (u3 J k pp (vp_updL (J k pp) i.toNatClampNeg x)) s H1 locs1 → W p l e R s m args below meth c H1 locs1 cells slots Q (F0 m (pc + 1) ls rest)) : W p l e R s m args below meth c H locs cells slots Q (F0 m pc ls (.long x :: .int i :: .ref (wa E k pp) :: rest)) := by
  obtain ⟨q0, hq1, hq⟩ := ws_at I J hc
  have he0 : cont E I J k pp = .inl (wc E 2, n, .inr (.inl (J k pp))) := by
    exact he (J k pp)
  rw [he0] at hq
  have hset := ws_set (I' := I) (J' := (u3 J k pp (vp_updL (J k pp) i.toNatClampNeg x))) hW.2.1 hq1 (cont_J _)
  rw [cont_uJ, he] at hset
  refine va_last (D := wD E) X.1.1 X.1.2.1 X.2.1.1 hW.1 hW.2.1 hW.2.2.1 q0 2 hq rfl hin hdg (fun H1 locs1 hP hD hS => ?_)
  rw [hset] at hP hD
  exact kk H1 locs1 ⟨hP, hD, hS, hW.2.2.2⟩
theorem r_aaP (X : Cx E cc nL own rt p s m args c meth) (hW : Wd E I J s H locs) {i : Int32} (hin : vp_in i 8) (hdg : decode cc pc = .ok (.aaload, 1))
    (kn : ¬ i.toNatClampNeg < (wg E).2.1 → W p l e R s m args below meth c H locs cells slots Q (F0 m (pc + 1) ls (.null :: rest))) (kr : i.toNatClampNeg < (wg E).2.1 → W p l e R s m args below meth c H locs cells slots Q (F0 m (pc + 1) ls (.ref (wa E 40 i.toNatClampNeg) :: rest))) : W p l e R s m args below meth c H locs cells slots Q (F0 m pc ls (.int i :: .ref (wa E 4 0) :: rest)) := by
  obtain ⟨q0, -, hq⟩ := ws_at I J (okS hW sc4_0)
  refine va_aldq (D := wD E) (C := RX5) X.1.1 X.1.2.1 X.2.1.1 hW.1 q0 4 hq rfl hin hdg ?_
  by_cases hi : i.toNatClampNeg < (wg E).2.1
  · simp only [hi, if_true]
    exact kr hi
  · simp only [hi, if_false]
    exact kn hi
theorem r_aaR (X : Cx E cc nL own rt p s m args c meth) (hW : Wd E I J s H locs) {i : Int32} (hin : vp_in i 6) (hdg : decode cc pc = .ok (.aaload, 1))
    (kn : ¬ i.toNatClampNeg < (wg E).2.2 → W p l e R s m args below meth c H locs cells slots Q (F0 m (pc + 1) ls (.null :: rest))) (kr : i.toNatClampNeg < (wg E).2.2 → W p l e R s m args below meth c H locs cells slots Q (F0 m (pc + 1) ls (.ref (wa E 43 i.toNatClampNeg) :: rest))) : W p l e R s m args below meth c H locs cells slots Q (F0 m pc ls (.int i :: .ref (wa E 3 0) :: rest)) := by
  obtain ⟨q0, -, hq⟩ := ws_at I J (okS hW sc3_0)
  refine va_aldq (D := wD E) (C := RX6) X.1.1 X.1.2.1 X.2.1.1 hW.1 q0 5 hq rfl hin hdg ?_
  by_cases hi : i.toNatClampNeg < (wg E).2.2
  · simp only [hi, if_true]
    exact kr hi
  · simp only [hi, if_false]
    exact kn hi
theorem r_putI (X : Cx E cc nL own rt p s m args c meth) (hW : Wd E I J s H locs) {k pp ci index N : Nat} {fs : List Value} {Cn : String} {T : u_T} {x : Int32} {ty : FieldType} (j : Nat) (hc : (k, pp) ∈ wC E) (he : cont E I J k pp = .inr (ci, fs)) (hcl : vwCl[ci]? = some (Cn, T, N)) (hin : ∀ w ∈ u_ws Cn T N, w ∈ lwt) (ty0 : Nat → FieldType) (hty : ∀ k, k < N → parseFieldDescriptor (T k).2.2.1 = some (ty0 k)) (hnm : ∀ a, a < N → ∀ b, b < N → a ≠ b → (T a).2.1 ≠ (T b).2.1) (hj : j < N)
    (hlink : Cond.fieldLink own index (T j).1 (T j).2.1 (T j).2.2.1 ∈ lwt) (hfin : (T j).2.2.2 = false) (hd : ty0 j = ty) (hn : narrow ty (.int x) = .int x) (hfit : fits ty (.int x) = true) (hl : j < fs.length) (he' : contR E (upd (I k pp) j x) (J k pp) k pp = .inr (ci, fs.set j (.int x)))
    (hdg : decode cc pc = .ok (.putfield index, 3)) (kk : ∀ (H1 : Heap) (locs1 : List Loc), Wd E (u3 I k pp (upd (I k pp) j x)) J s H1 locs1 → W p l e R s m args below meth c H1 locs1 cells slots Q (F0 m (pc + 3) ls rest)) : W p l e R s m args below meth c H locs cells slots Q (F0 m pc ls (.int x :: .ref (wa E k pp) :: rest)) :=
  r_put X hW j hc he hcl hin ty0 hty hnm hj hlink hfin (hd ▸ hty j hj) hn hfit hl (by rw [cont_uI]; exact he') (cont_I _) hdg kk
theorem r_putL (X : Cx E cc nL own rt p s m args c meth) (hW : Wd E I J s H locs) {k pp ci index N : Nat} {fs : List Value} {Cn : String} {T : u_T} {x : Int64} {ty : FieldType} (j : Nat) (hc : (k, pp) ∈ wC E) (he : cont E I J k pp = .inr (ci, fs)) (hcl : vwCl[ci]? = some (Cn, T, N)) (hin : ∀ w ∈ u_ws Cn T N, w ∈ lwt) (ty0 : Nat → FieldType) (hty : ∀ k, k < N → parseFieldDescriptor (T k).2.2.1 = some (ty0 k)) (hnm : ∀ a, a < N → ∀ b, b < N → a ≠ b → (T a).2.1 ≠ (T b).2.1) (hj : j < N)
    (hlink : Cond.fieldLink own index (T j).1 (T j).2.1 (T j).2.2.1 ∈ lwt) (hfin : (T j).2.2.2 = false) (hd : ty0 j = ty) (hn : narrow ty (.long x) = .long x) (hfit : fits ty (.long x) = true) (hl : j < fs.length) (he' : contR E (I k pp) (vp_updL (J k pp) j x) k pp = .inr (ci, fs.set j (.long x)))
    (hdg : decode cc pc = .ok (.putfield index, 3)) (kk : ∀ (H1 : Heap) (locs1 : List Loc), Wd E I (u3 J k pp (vp_updL (J k pp) j x)) s H1 locs1 → W p l e R s m args below meth c H1 locs1 cells slots Q (F0 m (pc + 3) ls rest)) : W p l e R s m args below meth c H locs cells slots Q (F0 m pc ls (.long x :: .ref (wa E k pp) :: rest)) :=
  r_put X hW j hc he hcl hin ty0 hty hnm hj hlink hfin (hd ▸ hty j hj) hn hfit hl (by rw [cont_uJ]; exact he') (cont_J _) hdg kk
theorem r_putIN (X : Cx E cc nL own rt p s m args c meth) (hW : Wd E I J s H locs) {k pp ci index N : Nat} {fs : List Value} {Cn host : String} {T : u_T} {x : Int32} {ty : FieldType} (j : Nat) (hc : (k, pp) ∈ wC E) (he : cont E I J k pp = .inr (ci, fs)) (hcl : vwCl[ci]? = some (Cn, T, N)) (hin : ∀ w ∈ u_ws Cn T N, w ∈ lwt) (ty0 : Nat → FieldType) (hty : ∀ k, k < N → parseFieldDescriptor (T k).2.2.1 = some (ty0 k)) (hnm : ∀ a, a < N → ∀ b, b < N → a ≠ b → (T a).2.1 ≠ (T b).2.1) (hj : j < N)
    (hlink : Cond.fieldLinkNest own index (T j).1 (T j).2.1 (T j).2.2.1 host ∈ nestW) (hfin : (T j).2.2.2 = false) (hd : ty0 j = ty) (hn : narrow ty (.int x) = .int x) (hfit : fits ty (.int x) = true) (hl : j < fs.length) (he' : contR E (upd (I k pp) j x) (J k pp) k pp = .inr (ci, fs.set j (.int x)))
    (hdg : decode cc pc = .ok (.putfield index, 3)) (kk : ∀ (H1 : Heap) (locs1 : List Loc), Wd E (u3 I k pp (upd (I k pp) j x)) J s H1 locs1 → W p l e R s m args below meth c H1 locs1 cells slots Q (F0 m (pc + 3) ls rest)) : W p l e R s m args below meth c H locs cells slots Q (F0 m pc ls (.int x :: .ref (wa E k pp) :: rest)) :=
  r_putN X hW j hc he hcl hin ty0 hty hnm hj hlink hfin (hd ▸ hty j hj) hn hfit hl (by rw [cont_uI]; exact he') (cont_I _) hdg kk
end Rows
