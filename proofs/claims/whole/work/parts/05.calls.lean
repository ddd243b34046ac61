abbrev rmO (f lo : Nat) : Room := { frames := f, cells := 0, slots := 0, locals := lo }
abbrev wsM (y : MethodName) (bytes : ByteArray) (maxL : Nat) (ret : Option FieldType) : List Cond := Cond.code y bytes maxL ret :: lwt
/-- what a call needs to know of a method: its code is in the tables, its class is initialised, its descriptor has n parameters -/
def MB (y : MethodName) (bytes : ByteArray) (maxL : Nat) (ret : Option FieldType) (n : Nat) : Prop := Cond.code y bytes maxL ret ∈ lwt ∧ Cond.initialized y.cls ∈ lwt ∧ (y.cls ≠ "java/lang/invoke/MethodHandle" ∧ y.cls ≠ "java/lang/invoke/VarHandle") ∧ (parseMethodDescriptor y.desc).map (fun d => d.parameters.length) = some n ∧ plainName y.cls = true
theorem goodM {y : MethodName} {bytes : ByteArray} {maxL : Nat} {ret : Option FieldType} (h : Cond.code y bytes maxL ret ∈ lwt) : GoodIn lwt (wsM y bytes maxL ret) := fun w hw => by
  rcases List.mem_cons.mp hw with rfl | h2
  · exact ⟨h, tblG h⟩
  · exact ⟨h2, tblG h2⟩
section Entry
variable {l : Launch} {E : WE} {I : MI} {J : MJ}
theorem m_entry {y : MethodName} {bytes : ByteArray} {maxL n f lo : Nat} {ret : Option FieldType} {As : List Value} {Qc : Array Value → State → Outcome → State → Prop} (hb : MB y bytes maxL ret n) (hle : (lg_sl As).length ≤ maxL)
    (body : ∀ (p : Program) (e : Env) (s : State) (m : MethodId) (args : Array Value) (below : List Frame) (meth : Method) (c : Code), Cx E bytes maxL y.cls ret p s m args c meth → ∀ ls : Array Slot, Wd E I J s s.heap [] → lv_has ls maxL (lv_args 0 As) →
      W p l e (rmO f lo) s m args below meth c s.heap [] 0 0 (MQ below Qc args s 0 0 (AA E)) (F0 m 0 ls [])) : Met l y (wsM y bytes maxL ret) (rmO f lo) (va_Pc As (Wp E I J)) Qc 0 0 (AA E) := by
  refine Met.ofW (cc := bytes) (maxL := maxL) (ret := ret) hb.2.2.2.2 rfl ?_
  intro p e s m args below meth c s₁ B hml hv
  obtain ⟨rfl, hN, hP, hK, hD, hC⟩ := hv
  have hts := atoms_spec (ws := wsM y bytes maxL ret) B.pre
  have hown : s.vm.findClass y.cls = some m.cls := findClass_of_methodNamed B.named
  have hl := lv_entry As (n := maxL) hle
  rw [lg_entry_eq]
  exact body p e s m _ below meth c ⟨⟨B.exec, B.bytes, hml, hown, fun w h => hts w (List.mem_cons_of_mem _ h)⟩, hK, hN, B.returns, B.notSynchronized⟩ _ ⟨hP, hD, va_S.rf, hC⟩ hl
end Entry
section Calls
variable {p : Program} {l : Launch} {e : Env} {R : Room} {s : State} {m : MethodId} {args : Array Value} {below : List Frame} {meth : Method} {c : Code} {H : Heap} {locs : List Loc} {Q : State → Prop}
variable {E : WE} {I : MI} {J : MJ} {cc : ByteArray} {nL : Nat} {own : String} {rt : Option FieldType} {pc : Nat} {ls : Array Slot} {rest st0 : List Value} {a : Array Value}
theorem blind {As : List Value} : FrameBlind (va_Pc As (Wp E I J)) := fun a U g mk q => ⟨q.1, q.2.1, q.2.2.1, KK.same (u := U) (U := U.calling g mk a) rfl q.2.2.2.1, q.2.2.2.2⟩
theorem preS (X : Cx E cc nL own rt p s m args c meth) (hW : Wd E I J s H locs) (As : List Value) : PreS s H (va_Pc As (Wp E I J)) As := ⟨blind, fun U hU hw => ⟨rfl, by rw [hU]; exact Nat.le_trans X.2.2.1 hW.2.2.1.1, by rw [hU]; exact hW.1, KK.warm hw X.2.1, hW.2.1, hW.2.2.2⟩⟩
theorem preV (X : Cx E cc nL own rt p s m args c meth) (hW : Wd E I J s H locs) (As : List Value) {k pp ci N : Nat} {fs : List Value} {Cn : String} {T : u_T} (hc : (k, pp) ∈ wC E) (he : cont E I J k pp = .inr (ci, fs)) (hcl : vwCl[ci]? = some (Cn, T, N)) : PreV s H Cn (wa E k pp) (va_Pc (.ref (wa E k pp) :: As) (Wp E I J)) As := by
  obtain ⟨q0, -, hq⟩ := ws_at I J hc
  rw [he] at hq
  exact ⟨blind, va_recv X.2.1.1 hW.1 hcl hq, (preS X hW (.ref (wa E k pp) :: As)).2⟩
theorem cB (X : Cx E cc nL own rt p s m args c meth) {y : MethodName} {bytes : ByteArray} {maxL n index f lo : Nat} {ret : Option FieldType} (hM : MB y bytes maxL ret n) (hl : Cond.methodLink own index y ∈ lwt) (hR : f + 1 ≤ R.frames ∧ 8 + (maxL + 11) + lo ≤ R.locals) : CallB R s args own index y bytes maxL ret (wsM y bytes maxL ret) (rmO f lo) 0 0 n :=
  callB_of n X.1.2.2.2.2 (goodM hM.1) rfl rfl rfl (X.1.2.2.2.2 _ hM.2.1) (X.1.2.2.2.2 _ hl) ⟨hM.2.2.1.1, hM.2.2.1.2, hM.2.2.2.1⟩ hR
theorem cBN (X : Cx E cc nL own rt p s m args c meth) {y : MethodName} {bytes : ByteArray} {host : String} {maxL n index f lo : Nat} {ret : Option FieldType} (hM : MB y bytes maxL ret n) (hl : Cond.methodLinkNest own index y host ∈ nestW) (hR : f + 1 ≤ R.frames ∧ 8 + (maxL + 11) + lo ≤ R.locals) : va_CN R s args own index y host bytes maxL ret (wsM y bytes maxL ret) (rmO f lo) 0 0 n :=
  va_cnB n X.1.2.2.2.2 (goodM hM.1) rfl rfl rfl (X.2.1.2.2.1 _ hl) (X.1.2.2.2.2 _ hM.2.1) ⟨hM.2.2.1.1, hM.2.2.1.2, hM.2.2.2.1⟩ hR
theorem af_i (hW : Wd E I J s H locs) {Qf : Int32 → MI → MJ → Prop} (hr : va_Run p l e R s m args below meth c H locs 0 0 0 0 (F0 m pc ls st0) rest (QI E Qf a) (AA E))
    (kk : ∀ (r : Int32) (I1 : MI) (J1 : MJ) (H1 : Heap) (locs1 : List Loc), Qf r I1 J1 → Wd E I1 J1 s H1 locs1 → W p l e R s m args below meth c H1 locs1 0 0 Q (F0 m (pc + 3) ls (.int r :: rest))) : W p l e R s m args below meth c H locs 0 0 Q (F0 m pc ls st0) := by
  refine va_calli hr hW.2.2.1 (fun q _ h => h) (fun q h => h) (fun r u t H1 locs1 ht hvm hq hB hz hk hS => ?_)
  obtain ⟨-, hP, -, hD, hC⟩ := hB
  rw [ht] at hP
  exact kk r u.1 u.2 H1 locs1 hq ⟨hP, hD, hS, hC⟩
theorem af_l (hW : Wd E I J s H locs) {Qf : Int64 → MI → MJ → Prop} (hr : va_Run p l e R s m args below meth c H locs 0 0 0 0 (F0 m pc ls st0) rest (QL E Qf a) (AA E))
    (kk : ∀ (r : Int64) (I1 : MI) (J1 : MJ) (H1 : Heap) (locs1 : List Loc), Qf r I1 J1 → Wd E I1 J1 s H1 locs1 → W p l e R s m args below meth c H1 locs1 0 0 Q (F0 m (pc + 3) ls (.long r :: rest))) : W p l e R s m args below meth c H locs 0 0 Q (F0 m pc ls st0) := by
  refine va_calll hr hW.2.2.1 (fun q _ h => h) (fun q h => h) (fun r u t H1 locs1 ht hvm hq hB hz hk hS => ?_)
  obtain ⟨-, hP, -, hD, hC⟩ := hB
  rw [ht] at hP
  exact kk r u.1 u.2 H1 locs1 hq ⟨hP, hD, hS, hC⟩
theorem af_v (hW : Wd E I J s H locs) {Qf : MI → MJ → Prop} (hr : va_Run p l e R s m args below meth c H locs 0 0 0 0 (F0 m pc ls st0) rest (QV E Qf a) (AA E))
    (kk : ∀ (I1 : MI) (J1 : MJ) (H1 : Heap) (locs1 : List Loc), Qf I1 J1 → Wd E I1 J1 s H1 locs1 → W p l e R s m args below meth c H1 locs1 0 0 Q (F0 m (pc + 3) ls rest)) : W p l e R s m args below meth c H locs 0 0 Q (F0 m pc ls st0) := by
  refine va_callv hr hW.2.2.1 (fun q _ h => h) (fun q h => h) (fun u t H1 locs1 ht hvm hq hB hz hk hS => ?_)
  obtain ⟨-, hP, -, hD, hC⟩ := hB
  rw [ht] at hP
  exact kk u.1 u.2 H1 locs1 hq ⟨hP, hD, hS, hC⟩
theorem af_r (hW : Wd E I J s H locs) {k n : Nat} {Qf : Option Nat → MI → MJ → Prop} (hr : va_Run p l e R s m args below meth c H locs 0 0 0 0 (F0 m pc ls st0) rest (QR E k n Qf a) (AA E))
    (kn : ∀ (I1 : MI) (J1 : MJ) (H1 : Heap) (locs1 : List Loc), Qf none I1 J1 → Wd E I1 J1 s H1 locs1 → W p l e R s m args below meth c H1 locs1 0 0 Q (F0 m (pc + 3) ls (.null :: rest)))
    (kr : ∀ (j : Nat) (I1 : MI) (J1 : MJ) (H1 : Heap) (locs1 : List Loc), j < n → Qf (some j) I1 J1 → Wd E I1 J1 s H1 locs1 → W p l e R s m args below meth c H1 locs1 0 0 Q (F0 m (pc + 3) ls (.ref (wa E k j) :: rest))) : W p l e R s m args below meth c H locs 0 0 Q (F0 m pc ls st0) := by
  refine va_callq hr hW.2.2.1 (fun q _ h => h) (fun q h => h) (fun r u t H1 locs1 ht hvm hq hB hz hk hS => ?_)
  obtain ⟨-, hP, -, hD, hC⟩ := hB
  rw [ht] at hP
  obtain ⟨o, I1, J1⟩ := u
  obtain ⟨he, hb, hq⟩ := hq
  cases o with
  | none => subst he; exact kn I1 J1 H1 locs1 hq ⟨hP, hD, hS, hC⟩
  | some j => subst he; exact kr j I1 J1 H1 locs1 (hb j rfl) hq ⟨hP, hD, hS, hC⟩
section Runs
variable {y : MethodName} {bytes : ByteArray} {maxL n index f lo : Nat} {ret : Option FieldType} {As : List Value} {Qc : Array Value → State → Outcome → State → Prop}
theorem rn_S (X : Cx E cc nL own rt p s m args c meth) (hW : Wd E I J s H locs) (hM : Met l y (wsM y bytes maxL ret) (rmO f lo) (va_Pc As (Wp E I J)) Qc 0 0 (AA E)) (hb : MB y bytes maxL ret n) (hlk : Cond.methodLink own index y ∈ lwt) (hst : Cond.static y ∈ lwt) (hn : As.length = n) (hsz : ls.size = nL) (hcat : (rest.map fun v => v.category).sum ≤ 8) (hR : f + 1 ≤ R.frames ∧ 8 + (maxL + 11) + lo ≤ R.locals) (hdg : decode cc pc = .ok (.invokestatic index, 3)) :
    va_Run p l e R s m args below meth c H locs 0 0 0 0 (F0 m pc ls (As.reverse ++ rest)) rest (Qc As.toArray) (AA E) :=
  va_runS X.1 hM ⟨cB X hb hlk hR, X.1.2.2.2.2 _ hst⟩ (preS X hW As) rfl hn hsz rfl (lv_room hcat) hdg ⟨Nat.zero_le _, Nat.zero_le _⟩
theorem rn_SN {host : String} (X : Cx E cc nL own rt p s m args c meth) (hW : Wd E I J s H locs) (hM : Met l y (wsM y bytes maxL ret) (rmO f lo) (va_Pc As (Wp E I J)) Qc 0 0 (AA E)) (hb : MB y bytes maxL ret n) (hlk : Cond.methodLinkNest own index y host ∈ nestW) (hst : Cond.static y ∈ lwt) (hn : As.length = n) (hsz : ls.size = nL) (hcat : (rest.map fun v => v.category).sum ≤ 8) (hR : f + 1 ≤ R.frames ∧ 8 + (maxL + 11) + lo ≤ R.locals) (hdg : decode cc pc = .ok (.invokestatic index, 3)) :
    va_Run p l e R s m args below meth c H locs 0 0 0 0 (F0 m pc ls (As.reverse ++ rest)) rest (Qc As.toArray) (AA E) :=
  va_runSN X.1 hM ⟨cBN X hb hlk hR, X.1.2.2.2.2 _ hst, trivial⟩ (preS X hW As) rfl hn hsz rfl (lv_room hcat) hdg ⟨Nat.zero_le _, Nat.zero_le _⟩
theorem rn_V {k pp ci N : Nat} {fs : List Value} {Cn : String} {T : u_T} (X : Cx E cc nL own rt p s m args c meth) (hW : Wd E I J s H locs) (hc : (k, pp) ∈ wC E) (he : cont E I J k pp = .inr (ci, fs)) (hcl : vwCl[ci]? = some (Cn, T, N)) (hM : Met l y (wsM y bytes maxL ret) (rmO f lo) (va_Pc (.ref (wa E k pp) :: As) (Wp E I J)) Qc 0 0 (AA E)) (hb : MB y bytes maxL ret n) (hlk : Cond.methodLink own index y ∈ lwt) (hin : Cond.instanceMethod y ∈ lwt) (hsel : Cond.selects Cn y y ∈ lwt) (hn : As.length = n) (hsz : ls.size = nL) (hcat : (rest.map fun v => v.category).sum ≤ 8) (hR : f + 1 ≤ R.frames ∧ 8 + (maxL + 11) + lo ≤ R.locals) (hdg : decode cc pc = .ok (.invokevirtual index, 3)) :
    va_Run p l e R s m args below meth c H locs 0 0 0 0 (F0 m pc ls (As.reverse ++ .ref (wa E k pp) :: rest)) rest (Qc (.ref (wa E k pp) :: As).toArray) (AA E) :=
  va_runV X.1 hM ⟨cB X hb hlk hR, X.1.2.2.2.2 _ hin, X.1.2.2.2.2 _ hsel⟩ (preV X hW As hc he hcl) rfl hn hsz rfl (lv_room hcat) hdg ⟨Nat.zero_le _, Nat.zero_le _⟩
/-- an overriding or inherited method y, by the name x that its owner declares -/
theorem rn_O {k pp ci N m0 : Nat} {fs : List Value} {Cn owner : String} {T : u_T} {x : MethodName} {b0 : ByteArray} {r0 : Option FieldType} (X : Cx E cc nL own rt p s m args c meth) (hW : Wd E I J s H locs) (hc : (k, pp) ∈ wC E) (he : cont E I J k pp = .inr (ci, fs)) (hcl : vwCl[ci]? = some (Cn, T, N)) (hM : Met l y (wsM y bytes maxL ret) (rmO f lo) (va_Pc (.ref (wa E k pp) :: As) (Wp E I J)) Qc 0 0 (AA E)) (hb : MB y bytes maxL ret n) (hlk : Cond.methodLink own index x ∈ lwt) (hsame : Cond.sameMethod x.cls owner x.name x.desc ∈ lwt) (hino : Cond.instanceMethod ⟨owner, x.name, x.desc⟩ ∈ lwt) (hin : Cond.instanceMethod y ∈ lwt) (hsel : Cond.selects Cn x y ∈ lwt) (h0 : Cond.code ⟨owner, x.name, x.desc⟩ b0 m0 r0 ∈ lwt) (hd : owner ≠ "java/lang/invoke/MethodHandle" ∧ owner ≠ "java/lang/invoke/VarHandle" ∧ (parseMethodDescriptor x.desc).map (fun d => d.parameters.length) = some n) (hn : As.length = n) (hsz : ls.size = nL) (hcat : (rest.map fun v => v.category).sum ≤ 8) (hR : f + 1 ≤ R.frames ∧ 8 + (maxL + 11) + lo ≤ R.locals) (hdg : decode cc pc = .ok (.invokevirtual index, 3)) :
    va_Run p l e R s m args below meth c H locs 0 0 0 0 (F0 m pc ls (As.reverse ++ .ref (wa E k pp) :: rest)) rest (Qc (.ref (wa E k pp) :: As).toArray) (AA E) := by
  refine va_runU X.1 hM (va_cwO (owner := owner) n X.1.2.2.2.2 ?_ rfl rfl rfl h0 hd hR) (preV X hW As hc he hcl) rfl hn hsz rfl (lv_room hcat) hdg ⟨Nat.zero_le _, Nat.zero_le _⟩
  intro w hw
  have key : w ∈ lwt := by
    rcases List.mem_append.mp hw with h | h
    · simp only [List.mem_cons, List.not_mem_nil, or_false] at h
      rcases h with rfl | rfl | rfl | rfl | rfl | rfl
      · exact hlk
      · exact hsame
      · exact hino
      · exact hsel
      · exact hin
      · exact hb.2.1
    · exact (goodM hb.1 w h).1
  exact ⟨key, tblG key⟩
end Runs
section Ends
variable {free : Addr → Prop}
theorem e_i (X : Cx E cc nL own (some .int) p s m args c meth) (hW : Wd E I J s H locs) {v : Int32} {Qf : Int32 → MI → MJ → Prop} (h : Qf v I J) (hdg : decode cc pc = .ok (.ireturn, 1)) : W p l e R s m args below meth c H locs 0 0 (MQ below (QI E Qf) args s 0 0 (AA E)) (F0 m pc ls [.int v]) :=
  W.iret X.1.1 X.1.2.1 X.2.2.2.1 (fun t ht hw => ⟨⟨v, (I, J), rfl, h, by rw [ht]; exact Nat.le_trans X.2.2.1 hW.2.2.1.1, by rw [ht]; exact hW.1, KK.warm hw X.2.1, hW.2.1, hW.2.2.2⟩, hW.2.2.1.F ht⟩) hW.2.2.1.2.2 hdg X.2.2.2.2
theorem e_z (X : Cx E cc nL own (some .boolean) p s m args c meth) (hW : Wd E I J s H locs) {v : Int32} {Qf : Int32 → MI → MJ → Prop} (hn : narrow .boolean (.int v) = .int v) (h : Qf v I J) (hdg : decode cc pc = .ok (.ireturn, 1)) : W p l e R s m args below meth c H locs 0 0 (MQ below (QI E Qf) args s 0 0 (AA E)) (F0 m pc ls [.int v]) :=
  W.zret X.1.1 X.1.2.1 X.2.2.2.1 hn (fun t ht hw => ⟨⟨v, (I, J), rfl, h, by rw [ht]; exact Nat.le_trans X.2.2.1 hW.2.2.1.1, by rw [ht]; exact hW.1, KK.warm hw X.2.1, hW.2.1, hW.2.2.2⟩, hW.2.2.1.F ht⟩) hW.2.2.1.2.2 hdg X.2.2.2.2
theorem e_l (X : Cx E cc nL own (some .long) p s m args c meth) (hW : Wd E I J s H locs) {v : Int64} {Qf : Int64 → MI → MJ → Prop} (h : Qf v I J) (hdg : decode cc pc = .ok (.lreturn, 1)) : W p l e R s m args below meth c H locs 0 0 (MQ below (QL E Qf) args s 0 0 (AA E)) (F0 m pc ls [.long v]) :=
  W.lret X.1.1 X.1.2.1 X.2.2.2.1 (fun t ht hw => ⟨⟨v, (I, J), rfl, h, by rw [ht]; exact Nat.le_trans X.2.2.1 hW.2.2.1.1, by rw [ht]; exact hW.1, KK.warm hw X.2.1, hW.2.1, hW.2.2.2⟩, hW.2.2.1.F ht⟩) hW.2.2.1.2.2 hdg X.2.2.2.2
theorem e_v (X : Cx E cc nL own none p s m args c meth) (hW : Wd E I J s H locs) {Qf : MI → MJ → Prop} (h : Qf I J) (hdg : decode cc pc = .ok (.return_, 1)) : W p l e R s m args below meth c H locs 0 0 (MQ below (QV E Qf) args s 0 0 (AA E)) (F0 m pc ls []) :=
  W.vret X.1.1 X.1.2.1 X.2.2.2.1 (fun t ht hw => ⟨⟨(I, J), rfl, h, by rw [ht]; exact Nat.le_trans X.2.2.1 hW.2.2.1.1, by rw [ht]; exact hW.1, KK.warm hw X.2.1, hW.2.1, hW.2.2.2⟩, hW.2.2.1.F ht⟩) hW.2.2.1.2.2 hdg X.2.2.2.2
theorem e_rn {C : String} (X : Cx E cc nL own (some (.object C)) p s m args c meth) (hW : Wd E I J s H locs) {k n : Nat} {Qf : Option Nat → MI → MJ → Prop} (h : Qf none I J) (hdg : decode cc pc = .ok (.areturn, 1)) : W p l e R s m args below meth c H locs 0 0 (MQ below (QR E k n Qf) args s 0 0 (AA E)) (F0 m pc ls [.null]) :=
  W.aret X.1.1 X.1.2.1 X.2.2.2.1 (Or.inl ⟨_, rfl⟩) (Or.inl rfl) (fun t ht hw => ⟨⟨none, (none, I, J), rfl, ⟨rfl, fun j h => (by cases h), h⟩, by rw [ht]; exact Nat.le_trans X.2.2.1 hW.2.2.1.1, by rw [ht]; exact hW.1, KK.warm hw X.2.1, hW.2.1, hW.2.2.2⟩, hW.2.2.1.F ht⟩) hW.2.2.1.2.2 hdg X.2.2.2.2
theorem e_rs {C : String} (X : Cx E cc nL own (some (.object C)) p s m args c meth) (hW : Wd E I J s H locs) {k n j : Nat} {Qf : Option Nat → MI → MJ → Prop} (hj : j < n) (h : Qf (some j) I J) (hdg : decode cc pc = .ok (.areturn, 1)) : W p l e R s m args below meth c H locs 0 0 (MQ below (QR E k n Qf) args s 0 0 (AA E)) (F0 m pc ls [.ref (wa E k j)]) :=
  W.aret X.1.1 X.1.2.1 X.2.2.2.1 (Or.inl ⟨_, rfl⟩) (Or.inr ⟨_, rfl⟩) (fun t ht hw => ⟨⟨some (wa E k j), (some j, I, J), rfl, ⟨rfl, fun i h => (by cases h; exact hj), h⟩, by rw [ht]; exact Nat.le_trans X.2.2.1 hW.2.2.1.1, by rw [ht]; exact hW.1, KK.warm hw X.2.1, hW.2.1, hW.2.2.2⟩, hW.2.2.1.F ht⟩) hW.2.2.1.2.2 hdg X.2.2.2.2
end Ends
end Calls
