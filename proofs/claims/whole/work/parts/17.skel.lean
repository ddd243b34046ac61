/-! THE CLAIM OUT OF ONE WALK OF THE LAW'S BODY. Your part is whole_start (and what it stands on); all else here is the same for every law, but numbers. -/
def R_law : String := "BlackBallsLaw"
def lw_P (b : Addr) (xs : List Int32) (args : Array Value) (s : State) : Prop := args = #[.ref b] ∧ s.IntsAt b xs ∧ xs.length ≤ 4096 ∧ (Jvm.Cond.and given_1 narrow_1).before args s = true
def lw_Q (_ : Array Value) (s : State) (o : Outcome) (t : State) : Prop := o = .returned (some (.int 1)) ∧ Framed s o t [] 662955 7113384
def lw_Z (below : List Frame) (a : Array Value) (s : State) : State → Prop := fun t => ∃ o, t.status = .running ∧ Ended t below o ∧ lw_Q a s o t
/-- the law's own end, with 1 on the stack, nothing written that was there before, its room as the claim has it -/
theorem lw_ret {p : Program} {l : Launch} {e : Env} {s : State} {m : MethodId} {below : List Frame} {meth : Method} {c : Code} {b : Nat} (hx : p.tables.exec = Jvm.exec) (hb : c.code = code) (hr : meth.sig.returnType = ret) (hlocks : meth.locks = false) {pc : Nat} {H : Heap} {ls : Array Slot} (hdg : decode code pc = .ok (.ireturn, 1)) : W p l e room_1 s m #[Value.ref b] below meth c H [] 662955 7113384 (lw_Z below #[Value.ref b] s) (F0 m pc ls [.int 1]) := by
  intro T hT X
  obtain ⟨fs, hret, hrun, hended, hW, hframe⟩ := X.leave (v := some (.int 1)) (hlocks := hlocks) (fun h => by rw [hr] at h; cases h)
  have hmeth' : T.vm.method? m = some meth := X.method'
  refine ⟨T.setFrames fs, ?_, .returned (some (.int 1)), hrun, hended, rfl, ⟨_, rfl⟩, hW, hframe⟩
  jvm_step X.here [X.here.top, hx, hb, hdg, hmeth', hr, ret, narrow_b1]
  (try refine ⟨rfl, ?_⟩); (try refine ⟨rfl, ?_⟩)
  first | (intro acts; rw [hret _ acts rfl rfl rfl]) | rw [hret _ _ rfl rfl rfl]
  exact Steps.refl _
/-- what holds at the law's entry: the machine, the code, the tables' words (any of lw_tbl by 'hts w (by decide +kernel)'), the script of L ints xs at the cell b, what the Statement gives of the start (any of its parts by flat_of_before) -/
def lw_At (p : Program) (s : State) (m : MethodId) (meth : Method) (c : Code) (b L : Nat) (xs : Nat → Int32) : Prop :=
  p.tables.exec = Jvm.exec ∧ c.code = code ∧ meth.sig.returnType = ret ∧ c.maxLocals = 4 ∧ s.vm.findClass R_law = some m.cls ∧ (∀ w ∈ lw_tbl, w.before #[Value.ref b] s = true) ∧ va_X b L xs s s.heap ∧ b < s.heap.size ∧ meth.locks = false ∧ (Jvm.Cond.and given_1 narrow_1).before #[Value.ref b] s = true

section Law
variable {p : Program} {l : Launch} {e : Env} {R : Room} {s : State} {m : MethodId} {args : Array Value} {below : List Frame} {meth : Method} {c : Code} {H : Heap} {locs : List Loc} {cells slots : Nat} {Q : State → Prop}
variable {E : WE} {I : MI} {J : MJ} {cc : ByteArray} {nL : Nat} {own : String} {rt : Option FieldType} {pc : Nat} {ls : Array Slot} {rest st0 : List Value} {a : Array Value}
theorem af_lg (hW : Wd E I J s H locs) {Qf : Int64 → MI → MJ → Prop} (hr : va_Run p l e R s m args below meth c H locs cells slots 0 0 (F0 m pc ls st0) rest (QL E Qf a) (AA E))
    (kk : ∀ (r : Int64) (I1 : MI) (J1 : MJ) (H1 : Heap) (locs1 : List Loc), Qf r I1 J1 → Wd E I1 J1 s H1 locs1 → W p l e R s m args below meth c H1 locs1 cells slots Q (F0 m (pc + 3) ls (.long r :: rest))) : W p l e R s m args below meth c H locs cells slots Q (F0 m pc ls st0) := by
  refine va_calll hr hW.2.2.1 (fun q _ h => h) (fun q h => h) (fun r u t H1 locs1 ht hvm hq hB hz hk hS => ?_)
  obtain ⟨-, hP, -, hD, hC⟩ := hB
  rw [ht] at hP
  exact kk r u.1 u.2 H1 locs1 hq ⟨hP, hD, hS, hC⟩
theorem af_g (hW : Wd E I J s H locs) {mc ms : Nat} {Qf : Int32 → GS → MI → MJ → Prop} (hr : va_Run p l e R s m args below meth c H locs cells slots mc ms (F0 m pc ls st0) rest (QG E Qf a) (AA E))
    (kk : ∀ (r : Int32) (E1 : WE) (I1 : MI) (J1 : MJ) (H1 : Heap) (locs1 : List Loc), Qf r (wg E1) I1 J1 → bsE E E1 → exC E1 → awE E E1 → Wd E1 I1 J1 s H1 locs1 → W p l e R s m args below meth c H1 locs1 (cells + mc) (slots + ms) Q (F0 m (pc + 3) ls (.int r :: rest))) : W p l e R s m args below meth c H locs cells slots Q (F0 m pc ls st0) := by
  refine va_calli hr hW.2.2.1 (fun q _ h => h) (fun q h => h) (fun r u t H1 locs1 ht hvm hq hB hz hk hS => ?_)
  obtain ⟨E1, I1, J1⟩ := u
  obtain ⟨hq, hbs, hx1, haw⟩ := hq
  obtain ⟨-, hP, -, hD, hC⟩ := hB
  rw [ht] at hP
  have eA : AA E1 = AA E := by unfold AA; rw [show wN E1 = wN E from hbs.2.2]
  exact kk r E1 I1 J1 H1 locs1 hq hbs hx1 haw ⟨hP, hD, by rw [eA]; exact hS, hC⟩
theorem lg_self (x : Int64) : lg_cmp x x = 0 := by
  unfold lg_cmp
  rw [if_neg (by simp), if_pos rfl]
end Law

def op0 (Inv : GS → MI → MJ → Prop) : Prop := ∀ (g : GS) (I : MI) (J : MJ) (a1 : Int64), Inv g I J → wX11_letters g a1 I J (fun r I1 J1 => wX12_letters g a1 I1 J1 (fun r2 I2 J2 => r = r2 ∧ Inv g I2 J2))
def op1 (Inv : GS → MI → MJ → Prop) : Prop := ∀ (g : GS) (I : MI) (J : MJ), Inv g I J → wX11_blank g I J (fun r I1 J1 => wX12_blank g I1 J1 (fun r2 I2 J2 => r = r2 ∧ Inv g I2 J2))
def op2 (Inv : GS → MI → MJ → Prop) : Prop := ∀ (g : GS) (I : MI) (J : MJ), Inv g I J → wX11_fault g I J (fun r I1 J1 => wX12_fault g I1 J1 (fun r2 I2 J2 => r = r2 ∧ Inv g I2 J2))
def op3 (Inv : GS → MI → MJ → Prop) : Prop := ∀ (g : GS) (I : MI) (J : MJ), Inv g I J → wX11_rule g I J (fun r g1 I1 J1 => wX12_rule g1 I1 J1 (fun r2 I2 J2 => r = r2 ∧ Inv g1 I2 J2))
def op4 (Inv : GS → MI → MJ → Prop) : Prop := ∀ (g : GS) (I : MI) (J : MJ) (a1 : Int32) (a2 : Int32), Inv g I J → wX11_ruleTold g a1 a2 I J (fun r I1 J1 => wX12_ruleTold g a1 a2 I1 J1 (fun r2 I2 J2 => r = r2 ∧ Inv g I2 J2))
def op5 (Inv : GS → MI → MJ → Prop) : Prop := ∀ (g : GS) (I : MI) (J : MJ) (a1 : Int32) (a2 : Int32) (a3 : Int32), Inv g I J → wX11_member g a1 a2 a3 I J (fun r g1 I1 J1 => wX12_member g1 a1 a2 a3 I1 J1 (fun r2 I2 J2 => r = r2 ∧ Inv g1 I2 J2))
def op6 (Inv : GS → MI → MJ → Prop) : Prop := ∀ (g : GS) (I : MI) (J : MJ) (a1 : Int32) (a2 : Int32), Inv g I J → wX11_as g a1 a2 I J (fun r I1 J1 => wX12_as g a1 a2 I1 J1 (fun r2 I2 J2 => r = r2 ∧ Inv g I2 J2))
def op7 (Inv : GS → MI → MJ → Prop) : Prop := ∀ (g : GS) (I : MI) (J : MJ) (a1 : Int32) (a2 : Int32), Inv g I J → wX11_about g a1 a2 I J (fun r I1 J1 => wX12_about g a1 a2 I1 J1 (fun r2 I2 J2 => r = r2 ∧ Inv g I2 J2))
def op8 (Inv : GS → MI → MJ → Prop) : Prop := ∀ (g : GS) (I : MI) (J : MJ) (a1 : Int32) (a2 : Int32), Inv g I J → wX11_comes g a1 a2 I J (fun r I1 J1 => wX12_comes g a1 a2 I1 J1 (fun r2 I2 J2 => r = r2 ∧ Inv g I2 J2))
def op9 (Inv : GS → MI → MJ → Prop) : Prop := ∀ (g : GS) (I : MI) (J : MJ) (a1 : Int32), Inv g I J → wX11_candidate g a1 I J (fun r I1 J1 => wX12_candidate g a1 I1 J1 (fun r2 I2 J2 => r = r2 ∧ Inv g I2 J2))
def op10 (Inv : GS → MI → MJ → Prop) : Prop := ∀ (g : GS) (I : MI) (J : MJ) (a1 : Int32) (a2 : Int32) (a3 : Int32), Inv g I J → wX11_minds g a1 a2 a3 I J (fun r I1 J1 => wX12_minds g a1 a2 a3 I1 J1 (fun r2 I2 J2 => r = r2 ∧ Inv g I2 J2))
def op11 (Inv : GS → MI → MJ → Prop) : Prop := ∀ (g : GS) (I : MI) (J : MJ) (a1 : Int32) (a2 : Int32), Inv g I J → wX11_friend g a1 a2 I J (fun r I1 J1 => wX12_friend g a1 a2 I1 J1 (fun r2 I2 J2 => r = r2 ∧ Inv g I2 J2))
def op12 (Inv : GS → MI → MJ → Prop) : Prop := ∀ (g : GS) (I : MI) (J : MJ) (a1 : Int32) (a2 : Int32) (a3 : Int32) (a4 : Int32), Inv g I J → wX11_black g a1 a2 a3 a4 I J (fun r I1 J1 => wX12_black g a1 a2 a3 a4 I1 J1 (fun r2 I2 J2 => r = r2 ∧ Inv g I2 J2))
def op13 (Inv : GS → MI → MJ → Prop) : Prop := ∀ (g : GS) (I : MI) (J : MJ) (a1 : Int32) (a2 : Int32) (a3 : Int32) (a4 : Int32) (a5 : Int32), Inv g I J → wX11_balls g a1 a2 a3 a4 a5 I J (fun r I1 J1 => wX12_balls g a1 a2 a3 a4 a5 I1 J1 (fun r2 I2 J2 => r = r2 ∧ Inv g I2 J2))
def op14 (Inv : GS → MI → MJ → Prop) : Prop := ∀ (g : GS) (I : MI) (J : MJ) (a1 : Int32) (a2 : Int32) (a3 : Int32) (a4 : Int32), Inv g I J → wX11_in g a1 a2 a3 a4 I J (fun r I1 J1 => wX12_in g a1 a2 a3 a4 I1 J1 (fun r2 I2 J2 => r = r2 ∧ Inv g I2 J2))
def op15 (Inv : GS → MI → MJ → Prop) : Prop := ∀ (g : GS) (I : MI) (J : MJ) (a1 : Int32) (a2 : Int32) (a3 : Int32), Inv g I J → wX11_large g a1 a2 a3 I J (fun r I1 J1 => wX12_large g a1 a2 a3 I1 J1 (fun r2 I2 J2 => r = r2 ∧ Inv g I2 J2))
def op16 (Inv : GS → MI → MJ → Prop) : Prop := ∀ (g : GS) (I : MI) (J : MJ) (a1 : Int32) (a2 : Int32), Inv g I J → wX11_wrong g a1 a2 I J (fun r I1 J1 => wX12_wrong g a1 a2 I1 J1 (fun r2 I2 J2 => r = r2 ∧ Inv g I2 J2))
def op17 (Inv : GS → MI → MJ → Prop) : Prop := ∀ (g : GS) (I : MI) (J : MJ) (a1 : Int32), Inv g I J → wX11_best g a1 I J (fun r I1 J1 => wX12_best g a1 I1 J1 (fun r2 I2 J2 => r = r2 ∧ Inv g I2 J2))
def op18 (Inv : GS → MI → MJ → Prop) : Prop := ∀ (g : GS) (I : MI) (J : MJ) (a1 : Int32) (a2 : Int32) (a3 : Int32) (a4 : Int32) (a5 : Int32) (a6 : Int32), Inv g I J → wX11_who g a1 a2 a3 a4 a5 a6 I J (fun r I1 J1 => wX12_who g a1 a2 a3 a4 a5 a6 I1 J1 (fun r2 I2 J2 => r = r2 ∧ Inv g I2 J2))
def op19 (Inv : GS → MI → MJ → Prop) : Prop := ∀ (g : GS) (I : MI) (J : MJ) (a1 : Int32) (a2 : Int32) (a3 : Int32) (a4 : Int32) (a5 : Int32) (a6 : Int32) (a7 : Int32), isB a6 → Inv g I J → wX11_heard g a1 a2 a3 a4 a5 a6 a7 I J (fun r I1 J1 => wX12_heard g a1 a2 a3 a4 a5 a6 a7 I1 J1 (fun r2 I2 J2 => r = r2 ∧ Inv g I2 J2))
def op20 (Inv : GS → MI → MJ → Prop) : Prop := ∀ (g : GS) (I : MI) (J : MJ) (a1 : Int32) (a2 : Int32) (a3 : Int32), Inv g I J → wX11_sway g a1 a2 a3 I J (fun r I1 J1 => wX12_sway g a1 a2 a3 I1 J1 (fun r2 I2 J2 => r = r2 ∧ Inv g I2 J2))
def op21 (Inv : GS → MI → MJ → Prop) : Prop := ∀ (g : GS) (I : MI) (J : MJ) (a1 : Int32) (a2 : Int32) (a3 : Int32), Inv g I J → wX11_word g a1 a2 a3 I J (fun r I1 J1 => wX12_word g a1 a2 a3 I1 J1 (fun r2 I2 J2 => r = r2 ∧ Inv g I2 J2))
def op22 (Inv : GS → MI → MJ → Prop) : Prop := ∀ (g : GS) (I : MI) (J : MJ) (a1 : Int32) (a2 : Int32) (a3 : Int32) (a4 : Int32), Inv g I J → wX11_seen g a1 a2 a3 a4 I J (fun r I1 J1 => wX12_seen g a1 a2 a3 a4 I1 J1 (fun r2 I2 J2 => r = r2 ∧ Inv g I2 J2))
def op23 (Inv : GS → MI → MJ → Prop) : Prop := ∀ (g : GS) (I : MI) (J : MJ) (a1 : Int32) (a2 : Int32) (a3 : Int32) (a4 : Int32) (a5 : Int32), Inv g I J → wX11_evening g a1 a2 a3 a4 a5 I J (fun r I1 J1 => wX12_evening g a1 a2 a3 a4 a5 I1 J1 (fun r2 I2 J2 => r = r2 ∧ Inv g I2 J2))
def op24 (Inv : GS → MI → MJ → Prop) : Prop := ∀ (g : GS) (I : MI) (J : MJ) (a1 : Int32) (a2 : Int32) (a3 : Int32) (a4 : Int32) (a5 : Int32), Inv g I J → wX11_trade g a1 a2 a3 a4 a5 I J (fun r I1 J1 => wX12_trade g a1 a2 a3 a4 a5 I1 J1 (fun r2 I2 J2 => r = r2 ∧ Inv g I2 J2))
def op25 (Inv : GS → MI → MJ → Prop) : Prop := ∀ (g : GS) (I : MI) (J : MJ) (a1 : Int32) (a2 : Int32) (a3 : Int32), Inv g I J → wX11_veto g a1 a2 a3 I J (fun r I1 J1 => wX12_veto g a1 a2 a3 I1 J1 (fun r2 I2 J2 => r = r2 ∧ Inv g I2 J2))
def op26 (Inv : GS → MI → MJ → Prop) : Prop := ∀ (g : GS) (I : MI) (J : MJ) (a1 : Int32) (a2 : Int32) (a3 : Int32), Inv g I J → wX11_worth g a1 a2 a3 I J (fun r I1 J1 => wX12_worth g a1 a2 a3 I1 J1 (fun r2 I2 J2 => r = r2 ∧ Inv g I2 J2))
def op27 (Inv : GS → MI → MJ → Prop) : Prop := ∀ (g : GS) (I : MI) (J : MJ) (a1 : Int32) (a2 : Int32) (a3 : Int32) (a4 : Int32), Inv g I J → wX11_years g a1 a2 a3 a4 I J (fun r I1 J1 => wX12_years g a1 a2 a3 a4 I1 J1 (fun r2 I2 J2 => r = r2 ∧ Inv g I2 J2))
def op28 (Inv : GS → MI → MJ → Prop) : Prop := ∀ (g : GS) (I : MI) (J : MJ) (a1 : Int32) (a2 : Int32), Inv g I J → wX11_lot g a1 a2 I J (fun r I1 J1 => wX12_lot g a1 a2 I1 J1 (fun r2 I2 J2 => r = r2 ∧ Inv g I2 J2))
def op29 (Inv : GS → MI → MJ → Prop) : Prop := ∀ (g : GS) (I : MI) (J : MJ), Inv g I J → wX11_image g I J (fun r I1 J1 => wX12_image g I1 J1 (fun r2 I2 J2 => r = r2 ∧ Inv g I2 J2))
def op30 (Inv : GS → MI → MJ → Prop) : Prop := ∀ (g : GS) (I : MI) (J : MJ), Inv g I J → wX11_restore g I J (fun r I1 J1 => wX12_restore g I1 J1 (fun r2 I2 J2 => r = r2 ∧ Inv g I2 J2))
def op31 (Inv : GS → MI → MJ → Prop) : Prop := ∀ (g : GS) (I : MI) (J : MJ) (a1 : Int32), Inv g I J → wX11_count g a1 I J (fun r I1 J1 => wX12_count g a1 I1 J1 (fun r2 I2 J2 => r = r2 ∧ Inv g I2 J2))
def op32 (Inv : GS → MI → MJ → Prop) : Prop := ∀ (g : GS) (I : MI) (J : MJ), Inv g I J → wX11_digest g I J (fun r I1 J1 => wX12_digest g I1 J1 (fun r2 I2 J2 => r = r2 ∧ Inv g I2 J2))
def Ops (Inv : GS → MI → MJ → Prop) : Prop := op0 Inv ∧ op1 Inv ∧ op2 Inv ∧ op3 Inv ∧ op4 Inv ∧ op5 Inv ∧ op6 Inv ∧ op7 Inv ∧ op8 Inv ∧ op9 Inv ∧ op10 Inv ∧ op11 Inv ∧ op12 Inv ∧ op13 Inv ∧ op14 Inv ∧ op15 Inv ∧ op16 Inv ∧ op17 Inv ∧ op18 Inv ∧ op19 Inv ∧ op20 Inv ∧ op21 Inv ∧ op22 Inv ∧ op23 Inv ∧ op24 Inv ∧ op25 Inv ∧ op26 Inv ∧ op27 Inv ∧ op28 Inv ∧ op29 Inv ∧ op30 Inv ∧ op31 Inv ∧ op32 Inv
