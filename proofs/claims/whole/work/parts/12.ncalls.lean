/-! constructors: worlds of their own cells alone (the kit's way) -/
abbrev NU : Type := (Nat → Nat) × (Nat → ClassId)
def PN (D : va_G) (ws : va_W) (sz : Nat) : State → Prop := fun U => U.heap.size = sz ∧ va_P D vwCl ws U.heap ∧ va_K D vwCl [] U ∧ va_D (fun _ => True) ws ∧ NX U
def QN (D : va_G) (A : Nat → Prop) (F : NU → va_W) (T : NU → List (ClassId × FieldType)) : Array Value → State → Outcome → State → Prop := va_Qv (S := NU) (fun _ => True) (fun u t => va_P D vwCl (F u) t.heap ∧ va_K D vwCl (T u) t ∧ va_D A (F u)) A
abbrev rmN (f mc ms lo : Nat) : Room := { frames := f, cells := mc, slots := ms, locals := lo }
theorem PN.blind {D : va_G} {ws : va_W} {sz : Nat} {As : List Value} : FrameBlind (va_Pc As (PN D ws sz)) := fun a U g mk q => ⟨q.1, q.2.1, q.2.2.1, va_K.moved (u := U) (U := U.calling g mk a) (Vm.Alike.refl U.vm) q.2.2.2.1, q.2.2.2.2.1, NX.same (u := U) (U := U.calling g mk a) rfl q.2.2.2.2.2⟩
theorem n_entry {l : Launch} {D : va_G} {y : MethodName} {bytes : ByteArray} {maxL n mc ms f lo sz : Nat} {As : List Value} {ws0 : va_W} {F : NU → va_W} {T : NU → List (ClassId × FieldType)} (hb : MB y bytes maxL none n) (hi : y.name = "<init>") (hle : (lg_sl As).length ≤ maxL)
    (body : ∀ (p : Program) (e : Env) (s : State) (m : MethodId) (args : Array Value) (below : List Frame) (meth : Method) (c : Code) (A : Nat → Prop) (ls : Array Slot), CallFix p m c bytes maxL s args lwt y.cls → meth.sig.returnType = none → meth.locks = false → meth.name = "<init>" → NX s → va_K D vwCl [] s → va_D A ws0 → (∀ q : Nat, s.heap.size ≤ q → A q) → va_P D vwCl ws0 s.heap → lv_has ls maxL (lv_args 0 As) →
      W p l e (rmN f mc ms lo) s m args below meth c s.heap [] 0 0 (MQ below (QN D A F T) args s mc ms A) (F0 m 0 ls [])) : Met l y (wsM y bytes maxL none) (rmN f mc ms lo) (va_Pc As (PN D ws0 sz)) (QN D (va_A ws0 sz) F T) mc ms (va_A ws0 sz) := by
  refine Met.ofW (cc := bytes) (maxL := maxL) (ret := none) hb.2.2.2.2 rfl ?_
  intro p e s m args below meth c s₁ B hml hv
  obtain ⟨rfl, hsz, hP, hK, hD0, hN⟩ := hv
  have hts := atoms_spec (ws := wsM y bytes maxL none) B.pre
  have hown : s.vm.findClass y.cls = some m.cls := findClass_of_methodNamed B.named
  have hin : meth.name = "<init>" := (name_of_methodNamed B.named B.method).1.trans hi
  subst hsz
  have hD := hD0.self (sz := s.heap.size)
  have hl := lv_entry As (n := maxL) hle
  rw [lg_entry_eq]
  exact body p e s m _ below meth c _ _ ⟨B.exec, B.bytes, hml, hown, fun w h => hts w (List.mem_cons_of_mem _ h)⟩ B.returns B.notSynchronized hin hN hK hD (fun q h => Or.inr h) hP hl
theorem n_pre {D : va_G} {s : State} {H : Heap} {wc : va_W} {tys : List (ClassId × FieldType)} {A : Nat → Prop} {a : Nat} {As : List Value} (hN : NX s) (hK : va_K D vwCl tys s) (hP : va_P D vwCl wc H) (hD : va_D A wc) : PreS s H (va_Pc (.ref a :: As) (PN D wc H.size)) (.ref a :: As) :=
  ⟨PN.blind, fun U hU hw => ⟨rfl, by rw [hU], by rw [hU]; exact hP, va_K.moved hw.alike (hK.sub [] rfl), hD.weaken (fun _ _ _ _ => trivial), NX.warm hw hN⟩⟩
section NCalls
variable {p : Program} {l : Launch} {e : Env} {R : Room} {s : State} {m : MethodId} {args : Array Value} {below : List Frame} {meth : Method} {c : Code} {H H0 : Heap} {locs : List Loc} {Q : State → Prop}
variable {cc : ByteArray} {nL cells slots : Nat} {own : String} {pc : Nat} {ls : Array Slot} {rest : List Value} {D : va_G} {A : Nat → Prop}
/-- a constructor is called on the cell at place k of the list; behind it its cells stand at the list's end -/
theorem n_call {y : MethodName} {bytes : ByteArray} {maxL n mc ms f lo index : Nat} {As : List Value} {a : Nat} {ent : va_E} {ws wr : va_W} {tys : List (ClassId × FieldType)} {F : NU → va_W} {T : NU → List (ClassId × FieldType)} (S : CallFix p m c cc nL s args lwt own) (hN : NX s) (hK : va_K D vwCl tys s) (hP : va_P D vwCl ws H) (hD : va_D A ws) (hS : va_S A H0 H locs) (hA : ∀ q : Nat, H0.size ≤ q → A q)
    (hM : Met l y (wsM y bytes maxL none) (rmN f mc ms lo) (va_Pc (.ref a :: As) (PN D [(a, ent)] H.size)) (QN D (va_A [(a, ent)] H.size) F T) mc ms (va_A [(a, ent)] H.size)) (hb : MB y bytes maxL none n) (hlk : Cond.methodLink own index y ∈ lwt) (hin : Cond.instanceMethod y ∈ lwt) (hi : y.name = "<init>")
    (k : Nat) (isR : List Nat) (hk : [k].map (fun i => ws[i]?) = [some (a, ent)]) (hR : isR.map (fun i => ws[i]?) = wr.map some) (hnd : va_nd isR = true) (hdis : ∀ i ∈ isR, i ∉ [k]) (hn : As.length = n) (hsz : ls.size = nL) (hcat : (rest.map fun v => v.category).sum ≤ 8) (hRm : f + 1 ≤ R.frames ∧ 8 + (maxL + 11) + lo ≤ R.locals) (hdg : decode cc pc = .ok (.invokespecial index, 3)) (hf : cells + mc ≤ R.cells ∧ slots + ms ≤ R.slots)
    (kk : ∀ (u : NU) (H1 : Heap) (locs1 : List Loc), va_K D vwCl (tys ++ T u) s → va_P D vwCl (wr ++ F u) H1 → va_D A (wr ++ F u) → va_S A H0 H1 locs1 → W p l e R s m args below meth c H1 locs1 (cells + mc) (slots + ms) Q (F0 m (pc + 3) ls rest)) : W p l e R s m args below meth c H locs cells slots Q (F0 m pc ls (As.reverse ++ .ref a :: rest)) := by
  have hPc : va_P D vwCl [(a, ent)] H := hP.sub [k] (by
    have h1 : ws[k]? = some (a, ent) := by simpa using hk
    simp [h1])
  have hDc : va_D A [(a, ent)] := hD.sub [k] (by simp [va_nd]) hk
  have hFc := va_free (wc := [(a, ent)]) hD hS hA [k] hk
  refine va_callv (va_runI S hM ⟨callB_of n S.2.2.2.2 (goodM hb.1) rfl rfl rfl (S.2.2.2.2 _ hb.2.1) (S.2.2.2.2 _ hlk) ⟨hb.2.2.1.1, hb.2.2.1.2, hb.2.2.2.1⟩ hRm, hi, S.2.2.2.2 _ hin⟩ (n_pre hN hK hPc hDc) rfl hn hsz rfl (lv_room hcat) hdg hf) hS (fun q _ h => hFc q h) hFc (fun u t H1 locs1 ht hvm _ hB hz1 hk1 hS1 => ?_)
  obtain ⟨hP1, hK1, hD1⟩ := hB
  rw [ht] at hP1
  have hK1 := va_K.moved hvm.symm hK1
  obtain ⟨hP2, hD2⟩ := va_join (wc := [(a, ent)]) (wr := wr) (w1 := F u) hP hD [k] isR hk hR hnd hdis hk1 hFc hP1 hD1
  exact kk u H1 locs1 (hK.app hK1) hP2 hD2 hS1
theorem n_callN {y : MethodName} {bytes : ByteArray} {host : String} {maxL n mc ms f lo index : Nat} {As : List Value} {a : Nat} {ent : va_E} {ws wr : va_W} {tys : List (ClassId × FieldType)} {F : NU → va_W} {T : NU → List (ClassId × FieldType)} (S : CallFix p m c cc nL s args lwt own) (hN : NX s) (hK : va_K D vwCl tys s) (hP : va_P D vwCl ws H) (hD : va_D A ws) (hS : va_S A H0 H locs) (hA : ∀ q : Nat, H0.size ≤ q → A q)
    (hM : Met l y (wsM y bytes maxL none) (rmN f mc ms lo) (va_Pc (.ref a :: As) (PN D [(a, ent)] H.size)) (QN D (va_A [(a, ent)] H.size) F T) mc ms (va_A [(a, ent)] H.size)) (hb : MB y bytes maxL none n) (hlk : Cond.methodLinkNest own index y host ∈ nestW) (hin : Cond.instanceMethod y ∈ lwt) (hi : y.name = "<init>")
    (k : Nat) (isR : List Nat) (hk : [k].map (fun i => ws[i]?) = [some (a, ent)]) (hR : isR.map (fun i => ws[i]?) = wr.map some) (hnd : va_nd isR = true) (hdis : ∀ i ∈ isR, i ∉ [k]) (hn : As.length = n) (hsz : ls.size = nL) (hcat : (rest.map fun v => v.category).sum ≤ 8) (hRm : f + 1 ≤ R.frames ∧ 8 + (maxL + 11) + lo ≤ R.locals) (hdg : decode cc pc = .ok (.invokespecial index, 3)) (hf : cells + mc ≤ R.cells ∧ slots + ms ≤ R.slots)
    (kk : ∀ (u : NU) (H1 : Heap) (locs1 : List Loc), va_K D vwCl (tys ++ T u) s → va_P D vwCl (wr ++ F u) H1 → va_D A (wr ++ F u) → va_S A H0 H1 locs1 → W p l e R s m args below meth c H1 locs1 (cells + mc) (slots + ms) Q (F0 m (pc + 3) ls rest)) : W p l e R s m args below meth c H locs cells slots Q (F0 m pc ls (As.reverse ++ .ref a :: rest)) := by
  have hPc : va_P D vwCl [(a, ent)] H := hP.sub [k] (by
    have h1 : ws[k]? = some (a, ent) := by simpa using hk
    simp [h1])
  have hDc : va_D A [(a, ent)] := hD.sub [k] (by simp [va_nd]) hk
  have hFc := va_free (wc := [(a, ent)]) hD hS hA [k] hk
  refine va_callv (va_runIN S hM ⟨va_cnB n S.2.2.2.2 (goodM hb.1) rfl rfl rfl (hN.1 _ hlk) (S.2.2.2.2 _ hb.2.1) ⟨hb.2.2.1.1, hb.2.2.1.2, hb.2.2.2.1⟩ hRm, hi, S.2.2.2.2 _ hin⟩ (n_pre hN hK hPc hDc) rfl hn hsz rfl (lv_room hcat) hdg hf) hS (fun q _ h => hFc q h) hFc (fun u t H1 locs1 ht hvm _ hB hz1 hk1 hS1 => ?_)
  obtain ⟨hP1, hK1, hD1⟩ := hB
  rw [ht] at hP1
  have hK1 := va_K.moved hvm.symm hK1
  obtain ⟨hP2, hD2⟩ := va_join (wc := [(a, ent)]) (wr := wr) (w1 := F u) hP hD [k] isR hk hR hnd hdis hk1 hFc hP1 hD1
  exact kk u H1 locs1 (hK.app hK1) hP2 hD2 hS1
theorem n_ret {Fw : NU → va_W} {T : NU → List (ClassId × FieldType)} (S : CallFix p m c cc nL s args lwt own) (hr : meth.sig.returnType = none) (hlocks : meth.locks = false) (u : NU) (hK : va_K D vwCl (T u) s) (hP : va_P D vwCl (Fw u) H) (hD : va_D A (Fw u)) (hS : va_S A s.heap H locs) (hdg : decode cc pc = .ok (.return_, 1)) : W p l e R s m args below meth c H locs cells slots (MQ below (QN D A Fw T) args s cells slots A) (F0 m pc ls []) :=
  W.vret S.1 S.2.1 hr (fun t ht hw => ⟨⟨u, rfl, trivial, by rw [ht]; exact hP, va_K.moved hw.alike hK, hD⟩, hS.F ht⟩) hS.2.2 hdg hlocks
end NCalls
