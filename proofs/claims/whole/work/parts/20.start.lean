def cl0 : List (Nat × Nat) := [(0, 0), (1, 0), (2, 0), (3, 0), (4, 0), (5, 0), (6, 0), (7, 0), (8, 0), (9, 0), (10, 0), (11, 0), (12, 0), (13, 0), (10, 1), (11, 1), (14, 0), (17, 0), (18, 0), (19, 0), (20, 0), (21, 0), (22, 0), (23, 0), (24, 0), (25, 0), (26, 0), (27, 0), (28, 0), (29, 0), (30, 0), (31, 0), (32, 0), (33, 0)]
def pos0 (k p : Nat) : Nat := if k = 0 ∧ p = 0 then 0 else if k = 1 ∧ p = 0 then 1 else if k = 2 ∧ p = 0 then 2 else if k = 3 ∧ p = 0 then 3 else if k = 4 ∧ p = 0 then 4 else if k = 5 ∧ p = 0 then 5 else if k = 6 ∧ p = 0 then 6 else if k = 7 ∧ p = 0 then 7 else if k = 8 ∧ p = 0 then 8 else if k = 9 ∧ p = 0 then 9 else if k = 10 ∧ p = 0 then 10 else if k = 11 ∧ p = 0 then 11 else if k = 12 ∧ p = 0 then 12 else if k = 13 ∧ p = 0 then 13 else if k = 10 ∧ p = 1 then 14 else if k = 11 ∧ p = 1 then 15 else if k = 14 ∧ p = 0 then 16 else if k = 17 ∧ p = 0 then 17 else if k = 18 ∧ p = 0 then 18 else if k = 19 ∧ p = 0 then 19 else if k = 20 ∧ p = 0 then 20 else if k = 21 ∧ p = 0 then 21 else if k = 22 ∧ p = 0 then 22 else if k = 23 ∧ p = 0 then 23 else if k = 24 ∧ p = 0 then 24 else if k = 25 ∧ p = 0 then 25 else if k = 26 ∧ p = 0 then 26 else if k = 27 ∧ p = 0 then 27 else if k = 28 ∧ p = 0 then 28 else if k = 29 ∧ p = 0 then 29 else if k = 30 ∧ p = 0 then 30 else if k = 31 ∧ p = 0 then 31 else if k = 32 ∧ p = 0 then 32 else if k = 33 ∧ p = 0 then 33 else 0
def I00 : MI := fun _ _ _ => 0
def J00 : MJ := fun _ _ _ => 0
def g00 : GS := (fun _ => 5, 0, 0)
theorem exC00 {D : va_G} {cy : Nat → ClassId} {n : Nat} {ad : Nat → Nat → Nat} : exC (D, cy, n, ad, cl0, g00) := by
  intro c hc
  left
  have : ∀ c ∈ cl0, c ∈ wStat := by decide
  exact this c hc
theorem okC00 {D : va_G} {cy : Nat → ClassId} {n : Nat} {ad : Nat → Nat → Nat} : okC (D, cy, n, ad, cl0, g00) := by
  refine ⟨?_, fun p hp => absurd hp (Nat.not_lt_zero p), fun p hp => absurd hp (Nat.not_lt_zero p)⟩
  have : ∀ c ∈ wStat, c ∈ cl0 := by decide
  exact this
theorem tq_int {D : va_G} {cl : List vw_C} {tys : List (ClassId × FieldType)} {s : State} (hK : va_K D cl tys s) (i j : Nat) {ca cb : ClassId} (hi : tys[i]? = some (ca, .int)) (hj : tys[j]? = some (cb, .int)) : ca = cb := by
  have h1 : s.vm.findClass ("[" ++ (FieldType.int).toString) = some ca := (hK.2 i (ca, .int) hi).2
  have h2 : s.vm.findClass ("[" ++ (FieldType.int).toString) = some cb := (hK.2 j (cb, .int) hj).2
  exact Option.some.inj (h1.symm.trans h2)
theorem tq_long {D : va_G} {cl : List vw_C} {tys : List (ClassId × FieldType)} {s : State} (hK : va_K D cl tys s) (i j : Nat) {ca cb : ClassId} (hi : tys[i]? = some (ca, .long)) (hj : tys[j]? = some (cb, .long)) : ca = cb := by
  have h1 : s.vm.findClass ("[" ++ (FieldType.long).toString) = some ca := (hK.2 i (ca, .long) hi).2
  have h2 : s.vm.findClass ("[" ++ (FieldType.long).toString) = some cb := (hK.2 j (cb, .long) hj).2
  exact Option.some.inj (h1.symm.trans h2)
theorem tq_boolean {D : va_G} {cl : List vw_C} {tys : List (ClassId × FieldType)} {s : State} (hK : va_K D cl tys s) (i j : Nat) {ca cb : ClassId} (hi : tys[i]? = some (ca, .boolean)) (hj : tys[j]? = some (cb, .boolean)) : ca = cb := by
  have h1 : s.vm.findClass ("[" ++ (FieldType.boolean).toString) = some ca := (hK.2 i (ca, .boolean) hi).2
  have h2 : s.vm.findClass ("[" ++ (FieldType.boolean).toString) = some cb := (hK.2 j (cb, .boolean) hj).2
  exact Option.some.inj (h1.symm.trans h2)
theorem wsW00 (D : va_G) (cy : Nat → ClassId) (n : Nat) (f : Nat → Nat) : wsW (D, cy, n, (fun k p => f (pos0 k p)), cl0, g00) I00 J00 = [(f 0, .inr (11, [.ref (f 1), .ref (f 3), .ref (f 4), .ref (f 5), .ref (f 6), .ref (f 8), .ref (f 10), .ref (f 12), .ref (f 16), .int 0, .int 0, .int 0, .int 0])), (f 1, .inr (4, [.ref (f 2), .int 0])), (f 2, .inl (cy 1, 20, .inl (fun _ => 0))), (f 3, .inl (cy 5, 6, .inr (.inr (.inr (.inr (fun q => if q < 0 then some (f (pos0 43 q)) else none)))))), (f 4, .inl (cy 4, 8, .inr (.inr (.inr (.inr (fun q => if q < 0 then some (f (pos0 40 q)) else none)))))), (f 5, .inl (cy 1, 6, .inl (fun _ => 0))), (f 6, .inr (7, [.ref (f 7), .int 0, .long 0])), (f 7, .inl (cy 2, 9, .inr (.inl (fun _ => 0)))), (f 8, .inr (9, [.ref (f 9), .int 0, .long 0])), (f 9, .inl (cy 2, 81, .inr (.inl (fun _ => 0)))), (f 10, .inr (0, [.ref (f 11), .int 0, .int 0, .int 0, .int 0])), (f 11, .inl (cy 1, 8, .inl (fun _ => 0))), (f 12, .inr (1, [.ref (f 13), .ref (f 14), .int 0, .int 0, .int 0])), (f 13, .inl (cy 1, 8, .inl (fun _ => 0))), (f 14, .inr (0, [.ref (f 15), .int 0, .int 0, .int 0, .int 0])), (f 15, .inl (cy 1, 8, .inl (fun _ => 0))), (f 16, .inl (cy 2, 4, .inr (.inl (fun _ => 0)))), (f 17, .inr (12, [.int 0, .ref (f 18), .ref (f 19), .ref (f 20), .int 0, .ref (f 21), .ref (f 22), .int 0, .ref (f 23), .ref (f 24), .ref (f 25), .ref (f 26), .ref (f 27), .int 0, .ref (f 28), .int 0, .int 0, .int 0, .ref (f 29), .ref (f 30), .int 0, .int 0, .int 0, .int 0, .int 0, .int 0, .int 0, .ref (f 31), .long 0, .int 0, .int 0, .int 0, .int 0, .ref (f 32), .int 0, .ref (f 33), .long 0])), (f 18, .inl (cy 1, 8, .inl (fun _ => 0))), (f 19, .inl (cy 1, 8, .inl (fun _ => 0))), (f 20, .inl (cy 1, 8, .inl (fun _ => 0))), (f 21, .inl (cy 1, 6, .inl (fun _ => 0))), (f 22, .inl (cy 1, 48, .inl (fun _ => 0))), (f 23, .inl (cy 1, 6, .inl (fun _ => 0))), (f 24, .inl (cy 1, 6, .inl (fun _ => 0))), (f 25, .inl (cy 1, 6, .inl (fun _ => 0))), (f 26, .inl (cy 3, 6, .inl (fun _ => 0))), (f 27, .inl (cy 3, 6, .inl (fun _ => 0))), (f 28, .inl (cy 0, 20, .inl (fun _ => 0))), (f 29, .inl (cy 1, 8, .inl (fun _ => 0))), (f 30, .inl (cy 1, 48, .inl (fun _ => 0))), (f 31, .inl (cy 2, 9, .inr (.inl (fun _ => 0)))), (f 32, .inl (cy 2, 36, .inr (.inl (fun _ => 0)))), (f 33, .inl (cy 1, 9, .inl (fun _ => 0)))] := by
  rfl
set_option maxHeartbeats 8000000 in
set_option maxRecDepth 100000 in
theorem start_of {p : Program} {e : Env} {s : State} {m : MethodId} {below : List Frame} {meth : Method} {c : Code} (l : Launch) {b L : Nat} {xs : Nat → Int32} {Inv : GS → MI → MJ → Prop} (hops : Ops Inv) (hI0 : Inv g00 I00 J00) (hL : L ≤ 4096) (C0 : lw_At p s m meth c b L xs) : W p l e room_1 s m #[Value.ref b] below meth c s.heap [] 0 0 (lw_Z below #[Value.ref b] s) (entryFrame m ([Value.ref b] : List Value).toArray 4) := by
  obtain ⟨hx, hb, hr, hml, hown, hts0, hX, hbl, hlocks, hgv⟩ := id C0
  have hts : ∀ w ∈ lwt, w.before #[Value.ref b] s = true := fun w h => hts0 w (List.mem_filter.mp h).1
  have S : CallFix p m c code 4 s #[Value.ref b] lwt RL := ⟨hx, hb, hml, hown, hts⟩
  have hN : NX s := ⟨fun w hw => va_Nw.of (nestW_tab w hw) (hts0 w (nestW_in w hw)), va_AO.of (hts0 _ tn44), va_AO.of (hts0 _ tn42)⟩
  have hA : ∀ q : Nat, s.heap.size ≤ q → (fun q : Nat => s.heap.size ≤ q) q := fun _ h => h
  obtain ⟨c0, iS0, hKn0⟩ := u_known (C := RX0) (T := TX0) (N := 5) (n := 5) hts inX0 (hts _ tw79)
  obtain ⟨c1, iS1, hKn1⟩ := u_known (C := RX1) (T := TX1) (N := 5) (n := 5) hts inX1 (hts _ tw106)
  obtain ⟨c2, iS2, hKn2⟩ := u_known (C := RX2) (T := TX2) (N := 6) (n := 6) hts inX2 (hts _ tw280)
  obtain ⟨c3, iS3, hKn3⟩ := u_known (C := RX3) (T := TX3) (N := 7) (n := 7) hts inX3 (hts _ tw310)
  obtain ⟨c4, iS4, hKn4⟩ := u_known (C := RX4) (T := TX4) (N := 2) (n := 2) hts inX4 (hts _ tw27)
  obtain ⟨c5, iS5, hKn5⟩ := u_known (C := RX5) (T := TX5) (N := 6) (n := 6) hts inX5 (hts _ tw355)
  obtain ⟨c6, iS6, hKn6⟩ := u_known (C := RX6) (T := TX6) (N := 5) (n := 5) hts inX6 (hts _ tw230)
  obtain ⟨c7, iS7, hKn7⟩ := u_known (C := RX7) (T := TX7) (N := 3) (n := 3) hts inX7 (hts _ tw46)
  obtain ⟨c8, iS8, hKn8⟩ := u_known (C := RX8) (T := TX8) (N := 7) (n := 7) hts inX8 (hts _ tw342)
  obtain ⟨c9, iS9, hKn9⟩ := u_known (C := RX9) (T := TX9) (N := 3) (n := 3) hts inX9 (hts _ tw63)
  obtain ⟨c10, iS10, hKn10⟩ := u_known (C := RX10) (T := TX10) (N := 7) (n := 7) hts inX10 (hts _ tw326)
  obtain ⟨c11, iS11, hKn11⟩ := u_known (C := RX11) (T := TX11) (N := 13) (n := 13) hts inX11 (hts _ tw19)
  obtain ⟨c12, iS12, hKn12⟩ := u_known (C := RX12) (T := TX12) (N := 37) (n := 37) hts inX12 (hts _ tw829)
  obtain ⟨D, hKc⟩ : ∃ D : va_G, ∀ (k : Nat) (q : vw_C), vwCl[k]? = some q → u_Kn s q.1 q.2.1 q.2.2 (D.1 k) (D.2 k) := by
    refine ⟨(fun k => ([c0, c1, c2, c3, c4, c5, c6, c7, c8, c9, c10, c11, c12] : List ClassId).getD k 0, fun k => ([iS0, iS1, iS2, iS3, iS4, iS5, iS6, iS7, iS8, iS9, iS10, iS11, iS12] : List (Nat → Nat)).getD k (fun _ => 0)), ?_⟩
    intro k q hq
    match k, hq with
    | 0, hq => cases hq; exact hKn0
    | 1, hq => cases hq; exact hKn1
    | 2, hq => cases hq; exact hKn2
    | 3, hq => cases hq; exact hKn3
    | 4, hq => cases hq; exact hKn4
    | 5, hq => cases hq; exact hKn5
    | 6, hq => cases hq; exact hKn6
    | 7, hq => cases hq; exact hKn7
    | 8, hq => cases hq; exact hKn8
    | 9, hq => cases hq; exact hKn9
    | 10, hq => cases hq; exact hKn10
    | 11, hq => cases hq; exact hKn11
    | 12, hq => cases hq; exact hKn12
    | k + 13, hq => simp [vwCl] at hq
  have hS : va_S (fun q : Nat => s.heap.size ≤ q) s.heap s.heap [] := va_S.rf
  have hK : va_K D vwCl [] s := ⟨hKc, fun k q h => by simp at h⟩
  have hP : va_P D vwCl [] s.heap := fun k q h => by simp at h
  have hD : va_D (fun q : Nat => s.heap.size ≤ q) [] := ⟨fun i j p q h => by simp at h, fun k q h => by simp at h⟩
  have hl := lv_entry ([.ref b]) (n := 4) (Nat.le_of_ble_eq_true rfl)
  rw [lg_entry_eq]
  generalize (lg_sl ([.ref b]) ++ List.replicate (4 - (lg_sl ([.ref b])).length) Slot.unset).toArray = ls at hl ⊢
  have hl : lv_has ls 4 [(0, .ref b)] := hl
  refine va_new (ci := 11) (fs := [.null, .null, .null, .null, .null, .null, .null, .null, .null, .int 0, .int 0, .int 0, .int 0]) (C := RX11) (T := TX11) (N := 13) hx hb hts inX11 tyX11 tyX11_ok hown (hts _ tw18) (hts _ tw19) (hts _ tw1) hK hP hD hS hA rfl (fun j hj => by rcases (show j = 0 ∨ j = 1 ∨ j = 2 ∨ j = 3 ∨ j = 4 ∨ j = 5 ∨ j = 6 ∨ j = 7 ∨ j = 8 ∨ j = 9 ∨ j = 10 ∨ j = 11 ∨ j = 12 by omega) with rfl | rfl | rfl | rfl | rfl | rfl | rfl | rfl | rfl | rfl | rfl | rfl | rfl <;> rfl) (Nat.le_of_ble_eq_true rfl) (Nat.le_of_ble_eq_true rfl) dL_law_0 (fun q H hP hD hS => ?_)
  have hP : va_P D vwCl [(q, .inr (11, [.null, .null, .null, .null, .null, .null, .null, .null, .null, .int 0, .int 0, .int 0, .int 0]))] H := hP
  have hD : va_D (fun q : Nat => s.heap.size ≤ q) [(q, .inr (11, [.null, .null, .null, .null, .null, .null, .null, .null, .null, .int 0, .int 0, .int 0, .int 0]))] := hD
  refine lv_dup hx hb dL_law_3 rfl ?_
  refine n_call S hN hK hP hD hS hA (wr := []) (As := []) (rest := [.ref q]) (nX11_init_11 l D q _) mbX11_init tw20 tw21 rfl 0 [] rfl rfl (by decide) (by decide) rfl hl.1 (Nat.le_of_ble_eq_true rfl) ⟨(Nat.le_of_ble_eq_true rfl), (Nat.le_of_ble_eq_true rfl)⟩ dL_law_4 ⟨(Nat.le_of_ble_eq_true rfl), (Nat.le_of_ble_eq_true rfl)⟩ (fun u H locs hK hP hD hS => ?_)
  have hP : va_P D vwCl [(q, .inr (11, [.ref (u.1 0), .ref (u.1 2), .ref (u.1 3), .ref (u.1 4), .ref (u.1 5), .ref (u.1 7), .ref (u.1 9), .ref (u.1 11), .ref (u.1 15), .int 0, .int 0, .int 0, .int 0])), ((u.1 0), .inr (4, [.ref (u.1 1), .int 0])), ((u.1 1), .inl ((u.2 0), 20, .inl (fun _ => 0))), ((u.1 2), .inl ((u.2 1), 6, .inr (.inr (.inr (.inr (fun _ => none)))))), ((u.1 3), .inl ((u.2 2), 8, .inr (.inr (.inr (.inr (fun _ => none)))))), ((u.1 4), .inl ((u.2 3), 6, .inl (fun _ => 0))), ((u.1 5), .inr (7, [.ref (u.1 6), .int 0, .long 0])), ((u.1 6), .inl ((u.2 4), 9, .inr (.inl (fun _ => 0)))), ((u.1 7), .inr (9, [.ref (u.1 8), .int 0, .long 0])), ((u.1 8), .inl ((u.2 5), 81, .inr (.inl (fun _ => 0)))), ((u.1 9), .inr (0, [.ref (u.1 10), .int 0, .int 0, .int 0, .int 0])), ((u.1 10), .inl ((u.2 6), 8, .inl (fun _ => 0))), ((u.1 11), .inr (1, [.ref (u.1 12), .ref (u.1 13), .int 0, .int 0, .int 0])), ((u.1 12), .inl ((u.2 7), 8, .inl (fun _ => 0))), ((u.1 13), .inr (0, [.ref (u.1 14), .int 0, .int 0, .int 0, .int 0])), ((u.1 14), .inl ((u.2 8), 8, .inl (fun _ => 0))), ((u.1 15), .inl ((u.2 9), 4, .inr (.inl (fun _ => 0))))] H := hP
  have hD : va_D (fun q : Nat => s.heap.size ≤ q) [(q, .inr (11, [.ref (u.1 0), .ref (u.1 2), .ref (u.1 3), .ref (u.1 4), .ref (u.1 5), .ref (u.1 7), .ref (u.1 9), .ref (u.1 11), .ref (u.1 15), .int 0, .int 0, .int 0, .int 0])), ((u.1 0), .inr (4, [.ref (u.1 1), .int 0])), ((u.1 1), .inl ((u.2 0), 20, .inl (fun _ => 0))), ((u.1 2), .inl ((u.2 1), 6, .inr (.inr (.inr (.inr (fun _ => none)))))), ((u.1 3), .inl ((u.2 2), 8, .inr (.inr (.inr (.inr (fun _ => none)))))), ((u.1 4), .inl ((u.2 3), 6, .inl (fun _ => 0))), ((u.1 5), .inr (7, [.ref (u.1 6), .int 0, .long 0])), ((u.1 6), .inl ((u.2 4), 9, .inr (.inl (fun _ => 0)))), ((u.1 7), .inr (9, [.ref (u.1 8), .int 0, .long 0])), ((u.1 8), .inl ((u.2 5), 81, .inr (.inl (fun _ => 0)))), ((u.1 9), .inr (0, [.ref (u.1 10), .int 0, .int 0, .int 0, .int 0])), ((u.1 10), .inl ((u.2 6), 8, .inl (fun _ => 0))), ((u.1 11), .inr (1, [.ref (u.1 12), .ref (u.1 13), .int 0, .int 0, .int 0])), ((u.1 12), .inl ((u.2 7), 8, .inl (fun _ => 0))), ((u.1 13), .inr (0, [.ref (u.1 14), .int 0, .int 0, .int 0, .int 0])), ((u.1 14), .inl ((u.2 8), 8, .inl (fun _ => 0))), ((u.1 15), .inl ((u.2 9), 4, .inr (.inl (fun _ => 0))))] := hD
  have hK : va_K D vwCl [((u.2 0), .int), ((u.2 1), .object RX6), ((u.2 2), .object RX5), ((u.2 3), .int), ((u.2 4), .long), ((u.2 5), .long), ((u.2 6), .int), ((u.2 7), .int), ((u.2 8), .int), ((u.2 9), .long)] s := hK
  refine lv_astore_n (lv' := [(1, .ref q), (0, .ref b)]) hx hb dL_law_7 rfl hl (by decide) rfl (fun ls hl => ?_)
  refine va_new (ci := 12) (fs := [.int 0, .null, .null, .null, .int 0, .null, .null, .int 0, .null, .null, .null, .null, .null, .int 0, .null, .int 0, .int 0, .int 0, .null, .null, .int 0, .int 0, .int 0, .int 0, .int 0, .int 0, .int 0, .null, .long 0, .int 0, .int 0, .int 0, .int 0, .null, .int 0, .null, .long 0]) (C := RX12) (T := TX12) (N := 37) hx hb hts inX12 tyX12 tyX12_ok hown (hts _ tw828) (hts _ tw829) (hts _ tw7) hK hP hD hS hA rfl (fun j hj => by rcases (show j = 0 ∨ j = 1 ∨ j = 2 ∨ j = 3 ∨ j = 4 ∨ j = 5 ∨ j = 6 ∨ j = 7 ∨ j = 8 ∨ j = 9 ∨ j = 10 ∨ j = 11 ∨ j = 12 ∨ j = 13 ∨ j = 14 ∨ j = 15 ∨ j = 16 ∨ j = 17 ∨ j = 18 ∨ j = 19 ∨ j = 20 ∨ j = 21 ∨ j = 22 ∨ j = 23 ∨ j = 24 ∨ j = 25 ∨ j = 26 ∨ j = 27 ∨ j = 28 ∨ j = 29 ∨ j = 30 ∨ j = 31 ∨ j = 32 ∨ j = 33 ∨ j = 34 ∨ j = 35 ∨ j = 36 by omega) with rfl | rfl | rfl | rfl | rfl | rfl | rfl | rfl | rfl | rfl | rfl | rfl | rfl | rfl | rfl | rfl | rfl | rfl | rfl | rfl | rfl | rfl | rfl | rfl | rfl | rfl | rfl | rfl | rfl | rfl | rfl | rfl | rfl | rfl | rfl | rfl | rfl <;> rfl) (Nat.le_of_ble_eq_true rfl) (Nat.le_of_ble_eq_true rfl) dL_law_8 (fun qm H hP hD hS => ?_)
  have hP : va_P D vwCl [(q, .inr (11, [.ref (u.1 0), .ref (u.1 2), .ref (u.1 3), .ref (u.1 4), .ref (u.1 5), .ref (u.1 7), .ref (u.1 9), .ref (u.1 11), .ref (u.1 15), .int 0, .int 0, .int 0, .int 0])), ((u.1 0), .inr (4, [.ref (u.1 1), .int 0])), ((u.1 1), .inl ((u.2 0), 20, .inl (fun _ => 0))), ((u.1 2), .inl ((u.2 1), 6, .inr (.inr (.inr (.inr (fun _ => none)))))), ((u.1 3), .inl ((u.2 2), 8, .inr (.inr (.inr (.inr (fun _ => none)))))), ((u.1 4), .inl ((u.2 3), 6, .inl (fun _ => 0))), ((u.1 5), .inr (7, [.ref (u.1 6), .int 0, .long 0])), ((u.1 6), .inl ((u.2 4), 9, .inr (.inl (fun _ => 0)))), ((u.1 7), .inr (9, [.ref (u.1 8), .int 0, .long 0])), ((u.1 8), .inl ((u.2 5), 81, .inr (.inl (fun _ => 0)))), ((u.1 9), .inr (0, [.ref (u.1 10), .int 0, .int 0, .int 0, .int 0])), ((u.1 10), .inl ((u.2 6), 8, .inl (fun _ => 0))), ((u.1 11), .inr (1, [.ref (u.1 12), .ref (u.1 13), .int 0, .int 0, .int 0])), ((u.1 12), .inl ((u.2 7), 8, .inl (fun _ => 0))), ((u.1 13), .inr (0, [.ref (u.1 14), .int 0, .int 0, .int 0, .int 0])), ((u.1 14), .inl ((u.2 8), 8, .inl (fun _ => 0))), ((u.1 15), .inl ((u.2 9), 4, .inr (.inl (fun _ => 0)))), (qm, .inr (12, [.int 0, .null, .null, .null, .int 0, .null, .null, .int 0, .null, .null, .null, .null, .null, .int 0, .null, .int 0, .int 0, .int 0, .null, .null, .int 0, .int 0, .int 0, .int 0, .int 0, .int 0, .int 0, .null, .long 0, .int 0, .int 0, .int 0, .int 0, .null, .int 0, .null, .long 0]))] H := hP
  have hD : va_D (fun q : Nat => s.heap.size ≤ q) [(q, .inr (11, [.ref (u.1 0), .ref (u.1 2), .ref (u.1 3), .ref (u.1 4), .ref (u.1 5), .ref (u.1 7), .ref (u.1 9), .ref (u.1 11), .ref (u.1 15), .int 0, .int 0, .int 0, .int 0])), ((u.1 0), .inr (4, [.ref (u.1 1), .int 0])), ((u.1 1), .inl ((u.2 0), 20, .inl (fun _ => 0))), ((u.1 2), .inl ((u.2 1), 6, .inr (.inr (.inr (.inr (fun _ => none)))))), ((u.1 3), .inl ((u.2 2), 8, .inr (.inr (.inr (.inr (fun _ => none)))))), ((u.1 4), .inl ((u.2 3), 6, .inl (fun _ => 0))), ((u.1 5), .inr (7, [.ref (u.1 6), .int 0, .long 0])), ((u.1 6), .inl ((u.2 4), 9, .inr (.inl (fun _ => 0)))), ((u.1 7), .inr (9, [.ref (u.1 8), .int 0, .long 0])), ((u.1 8), .inl ((u.2 5), 81, .inr (.inl (fun _ => 0)))), ((u.1 9), .inr (0, [.ref (u.1 10), .int 0, .int 0, .int 0, .int 0])), ((u.1 10), .inl ((u.2 6), 8, .inl (fun _ => 0))), ((u.1 11), .inr (1, [.ref (u.1 12), .ref (u.1 13), .int 0, .int 0, .int 0])), ((u.1 12), .inl ((u.2 7), 8, .inl (fun _ => 0))), ((u.1 13), .inr (0, [.ref (u.1 14), .int 0, .int 0, .int 0, .int 0])), ((u.1 14), .inl ((u.2 8), 8, .inl (fun _ => 0))), ((u.1 15), .inl ((u.2 9), 4, .inr (.inl (fun _ => 0)))), (qm, .inr (12, [.int 0, .null, .null, .null, .int 0, .null, .null, .int 0, .null, .null, .null, .null, .null, .int 0, .null, .int 0, .int 0, .int 0, .null, .null, .int 0, .int 0, .int 0, .int 0, .int 0, .int 0, .int 0, .null, .long 0, .int 0, .int 0, .int 0, .int 0, .null, .int 0, .null, .long 0]))] := hD
  refine lv_dup hx hb dL_law_11 rfl ?_
  refine n_call S hN hK hP hD hS hA (wr := [(q, .inr (11, [.ref (u.1 0), .ref (u.1 2), .ref (u.1 3), .ref (u.1 4), .ref (u.1 5), .ref (u.1 7), .ref (u.1 9), .ref (u.1 11), .ref (u.1 15), .int 0, .int 0, .int 0, .int 0])), ((u.1 0), .inr (4, [.ref (u.1 1), .int 0])), ((u.1 1), .inl ((u.2 0), 20, .inl (fun _ => 0))), ((u.1 2), .inl ((u.2 1), 6, .inr (.inr (.inr (.inr (fun _ => none)))))), ((u.1 3), .inl ((u.2 2), 8, .inr (.inr (.inr (.inr (fun _ => none)))))), ((u.1 4), .inl ((u.2 3), 6, .inl (fun _ => 0))), ((u.1 5), .inr (7, [.ref (u.1 6), .int 0, .long 0])), ((u.1 6), .inl ((u.2 4), 9, .inr (.inl (fun _ => 0)))), ((u.1 7), .inr (9, [.ref (u.1 8), .int 0, .long 0])), ((u.1 8), .inl ((u.2 5), 81, .inr (.inl (fun _ => 0)))), ((u.1 9), .inr (0, [.ref (u.1 10), .int 0, .int 0, .int 0, .int 0])), ((u.1 10), .inl ((u.2 6), 8, .inl (fun _ => 0))), ((u.1 11), .inr (1, [.ref (u.1 12), .ref (u.1 13), .int 0, .int 0, .int 0])), ((u.1 12), .inl ((u.2 7), 8, .inl (fun _ => 0))), ((u.1 13), .inr (0, [.ref (u.1 14), .int 0, .int 0, .int 0, .int 0])), ((u.1 14), .inl ((u.2 8), 8, .inl (fun _ => 0))), ((u.1 15), .inl ((u.2 9), 4, .inr (.inl (fun _ => 0))))]) (As := []) (rest := [.ref qm]) (nX12_init_12 l D qm _) mbX12_init tw830 tw831 rfl 17 [0, 1, 2, 3, 4, 5, 6, 7, 8, 9, 10, 11, 12, 13, 14, 15, 16] rfl rfl (by decide) (by decide) rfl hl.1 (Nat.le_of_ble_eq_true rfl) ⟨(Nat.le_of_ble_eq_true rfl), (Nat.le_of_ble_eq_true rfl)⟩ dL_law_12 ⟨(Nat.le_of_ble_eq_true rfl), (Nat.le_of_ble_eq_true rfl)⟩ (fun um H locs hK hP hD hS => ?_)
  have hK : va_K D vwCl [((u.2 0), .int), ((u.2 1), .object RX6), ((u.2 2), .object RX5), ((u.2 3), .int), ((u.2 4), .long), ((u.2 5), .long), ((u.2 6), .int), ((u.2 7), .int), ((u.2 8), .int), ((u.2 9), .long), ((um.2 0), .int), ((um.2 1), .int), ((um.2 2), .int), ((um.2 3), .int), ((um.2 4), .int), ((um.2 5), .int), ((um.2 6), .int), ((um.2 7), .int), ((um.2 8), .boolean), ((um.2 9), .boolean), ((um.2 10), .byte), ((um.2 11), .int), ((um.2 12), .int), ((um.2 13), .long), ((um.2 14), .long), ((um.2 15), .int)] s := hK
  refine lv_astore_n (lv' := [(2, .ref qm), (1, .ref q), (0, .ref b)]) hx hb dL_law_15 rfl hl (by decide) rfl (fun ls hl => ?_)
  refine lv_iconst (v := 0) hx hb dL_law_16 (by decide) ?_
  refine lv_istore_n (lv' := [(3, .int 0), (2, .ref qm), (1, .ref q), (0, .ref b)]) hx hb dL_law_17 rfl hl (by decide) rfl (fun ls hl => ?_)
  have e3 : (u.2 3) = (u.2 0) := tq_int hK 3 0 rfl rfl
  have e5 : (u.2 5) = (u.2 4) := tq_long hK 5 4 rfl rfl
  have e6 : (u.2 6) = (u.2 0) := tq_int hK 6 0 rfl rfl
  have e7 : (u.2 7) = (u.2 0) := tq_int hK 7 0 rfl rfl
  have e8 : (u.2 8) = (u.2 0) := tq_int hK 8 0 rfl rfl
  have e9 : (u.2 9) = (u.2 4) := tq_long hK 9 4 rfl rfl
  have e10 : (um.2 0) = (u.2 0) := tq_int hK 10 0 rfl rfl
  have e11 : (um.2 1) = (u.2 0) := tq_int hK 11 0 rfl rfl
  have e12 : (um.2 2) = (u.2 0) := tq_int hK 12 0 rfl rfl
  have e13 : (um.2 3) = (u.2 0) := tq_int hK 13 0 rfl rfl
  have e14 : (um.2 4) = (u.2 0) := tq_int hK 14 0 rfl rfl
  have e15 : (um.2 5) = (u.2 0) := tq_int hK 15 0 rfl rfl
  have e16 : (um.2 6) = (u.2 0) := tq_int hK 16 0 rfl rfl
  have e17 : (um.2 7) = (u.2 0) := tq_int hK 17 0 rfl rfl
  have e19 : (um.2 9) = (um.2 8) := tq_boolean hK 19 18 rfl rfl
  have e21 : (um.2 11) = (u.2 0) := tq_int hK 21 0 rfl rfl
  have e22 : (um.2 12) = (u.2 0) := tq_int hK 22 0 rfl rfl
  have e23 : (um.2 13) = (u.2 4) := tq_long hK 23 4 rfl rfl
  have e24 : (um.2 14) = (u.2 4) := tq_long hK 24 4 rfl rfl
  have e25 : (um.2 15) = (u.2 0) := tq_int hK 25 0 rfl rfl
  obtain ⟨cy, ecy⟩ : ∃ cy : Nat → ClassId, cy = fun t => ([(um.2 10), (u.2 0), (u.2 4), (um.2 8), (u.2 2), (u.2 1)] : List ClassId).getD t 0 := ⟨_, rfl⟩
  have y0 : (um.2 10) = cy 0 := by rw [ecy]; rfl
  have y1 : (u.2 0) = cy 1 := by rw [ecy]; rfl
  have y2 : (u.2 4) = cy 2 := by rw [ecy]; rfl
  have y3 : (um.2 8) = cy 3 := by rw [ecy]; rfl
  have y4 : (u.2 2) = cy 4 := by rw [ecy]; rfl
  have y5 : (u.2 1) = cy 5 := by rw [ecy]; rfl
  have hKW : va_K D vwCl (tysW cy) s := by
    have h1 := hK.sub (tys' := [((um.2 10), .byte), ((u.2 0), .int), ((u.2 4), .long), ((um.2 8), .boolean), ((u.2 2), .object RX5), ((u.2 1), .object RX6)]) [20, 0, 4, 18, 2, 1] rfl
    rw [y0, y1, y2, y3, y4, y5] at h1
    exact h1
  obtain ⟨f, ef⟩ : ∃ f : Nat → Nat, f = fun i => ([q, (u.1 0), (u.1 1), (u.1 2), (u.1 3), (u.1 4), (u.1 5), (u.1 6), (u.1 7), (u.1 8), (u.1 9), (u.1 10), (u.1 11), (u.1 12), (u.1 13), (u.1 14), (u.1 15), qm, (um.1 0), (um.1 1), (um.1 2), (um.1 3), (um.1 4), (um.1 5), (um.1 6), (um.1 7), (um.1 8), (um.1 9), (um.1 10), (um.1 11), (um.1 12), (um.1 13), (um.1 14), (um.1 15)] : List Nat).getD i 0 := ⟨_, rfl⟩
  have f0 : q = f 0 := by rw [ef]; rfl
  have f1 : (u.1 0) = f 1 := by rw [ef]; rfl
  have f2 : (u.1 1) = f 2 := by rw [ef]; rfl
  have f3 : (u.1 2) = f 3 := by rw [ef]; rfl
  have f4 : (u.1 3) = f 4 := by rw [ef]; rfl
  have f5 : (u.1 4) = f 5 := by rw [ef]; rfl
  have f6 : (u.1 5) = f 6 := by rw [ef]; rfl
  have f7 : (u.1 6) = f 7 := by rw [ef]; rfl
  have f8 : (u.1 7) = f 8 := by rw [ef]; rfl
  have f9 : (u.1 8) = f 9 := by rw [ef]; rfl
  have f10 : (u.1 9) = f 10 := by rw [ef]; rfl
  have f11 : (u.1 10) = f 11 := by rw [ef]; rfl
  have f12 : (u.1 11) = f 12 := by rw [ef]; rfl
  have f13 : (u.1 12) = f 13 := by rw [ef]; rfl
  have f14 : (u.1 13) = f 14 := by rw [ef]; rfl
  have f15 : (u.1 14) = f 15 := by rw [ef]; rfl
  have f16 : (u.1 15) = f 16 := by rw [ef]; rfl
  have f17 : qm = f 17 := by rw [ef]; rfl
  have f18 : (um.1 0) = f 18 := by rw [ef]; rfl
  have f19 : (um.1 1) = f 19 := by rw [ef]; rfl
  have f20 : (um.1 2) = f 20 := by rw [ef]; rfl
  have f21 : (um.1 3) = f 21 := by rw [ef]; rfl
  have f22 : (um.1 4) = f 22 := by rw [ef]; rfl
  have f23 : (um.1 5) = f 23 := by rw [ef]; rfl
  have f24 : (um.1 6) = f 24 := by rw [ef]; rfl
  have f25 : (um.1 7) = f 25 := by rw [ef]; rfl
  have f26 : (um.1 8) = f 26 := by rw [ef]; rfl
  have f27 : (um.1 9) = f 27 := by rw [ef]; rfl
  have f28 : (um.1 10) = f 28 := by rw [ef]; rfl
  have f29 : (um.1 11) = f 29 := by rw [ef]; rfl
  have f30 : (um.1 12) = f 30 := by rw [ef]; rfl
  have f31 : (um.1 13) = f 31 := by rw [ef]; rfl
  have f32 : (um.1 14) = f 32 := by rw [ef]; rfl
  have f33 : (um.1 15) = f 33 := by rw [ef]; rfl
  have hP : va_P D vwCl [(q, .inr (11, [.ref (u.1 0), .ref (u.1 2), .ref (u.1 3), .ref (u.1 4), .ref (u.1 5), .ref (u.1 7), .ref (u.1 9), .ref (u.1 11), .ref (u.1 15), .int 0, .int 0, .int 0, .int 0])), ((u.1 0), .inr (4, [.ref (u.1 1), .int 0])), ((u.1 1), .inl ((u.2 0), 20, .inl (fun _ => 0))), ((u.1 2), .inl ((u.2 1), 6, .inr (.inr (.inr (.inr (fun _ => none)))))), ((u.1 3), .inl ((u.2 2), 8, .inr (.inr (.inr (.inr (fun _ => none)))))), ((u.1 4), .inl ((u.2 3), 6, .inl (fun _ => 0))), ((u.1 5), .inr (7, [.ref (u.1 6), .int 0, .long 0])), ((u.1 6), .inl ((u.2 4), 9, .inr (.inl (fun _ => 0)))), ((u.1 7), .inr (9, [.ref (u.1 8), .int 0, .long 0])), ((u.1 8), .inl ((u.2 5), 81, .inr (.inl (fun _ => 0)))), ((u.1 9), .inr (0, [.ref (u.1 10), .int 0, .int 0, .int 0, .int 0])), ((u.1 10), .inl ((u.2 6), 8, .inl (fun _ => 0))), ((u.1 11), .inr (1, [.ref (u.1 12), .ref (u.1 13), .int 0, .int 0, .int 0])), ((u.1 12), .inl ((u.2 7), 8, .inl (fun _ => 0))), ((u.1 13), .inr (0, [.ref (u.1 14), .int 0, .int 0, .int 0, .int 0])), ((u.1 14), .inl ((u.2 8), 8, .inl (fun _ => 0))), ((u.1 15), .inl ((u.2 9), 4, .inr (.inl (fun _ => 0)))), (qm, .inr (12, [.int 0, .ref (um.1 0), .ref (um.1 1), .ref (um.1 2), .int 0, .ref (um.1 3), .ref (um.1 4), .int 0, .ref (um.1 5), .ref (um.1 6), .ref (um.1 7), .ref (um.1 8), .ref (um.1 9), .int 0, .ref (um.1 10), .int 0, .int 0, .int 0, .ref (um.1 11), .ref (um.1 12), .int 0, .int 0, .int 0, .int 0, .int 0, .int 0, .int 0, .ref (um.1 13), .long 0, .int 0, .int 0, .int 0, .int 0, .ref (um.1 14), .int 0, .ref (um.1 15), .long 0])), ((um.1 0), .inl ((um.2 0), 8, .inl (fun _ => 0))), ((um.1 1), .inl ((um.2 1), 8, .inl (fun _ => 0))), ((um.1 2), .inl ((um.2 2), 8, .inl (fun _ => 0))), ((um.1 3), .inl ((um.2 3), 6, .inl (fun _ => 0))), ((um.1 4), .inl ((um.2 4), 48, .inl (fun _ => 0))), ((um.1 5), .inl ((um.2 5), 6, .inl (fun _ => 0))), ((um.1 6), .inl ((um.2 6), 6, .inl (fun _ => 0))), ((um.1 7), .inl ((um.2 7), 6, .inl (fun _ => 0))), ((um.1 8), .inl ((um.2 8), 6, .inl (fun _ => 0))), ((um.1 9), .inl ((um.2 9), 6, .inl (fun _ => 0))), ((um.1 10), .inl ((um.2 10), 20, .inl (fun _ => 0))), ((um.1 11), .inl ((um.2 11), 8, .inl (fun _ => 0))), ((um.1 12), .inl ((um.2 12), 48, .inl (fun _ => 0))), ((um.1 13), .inl ((um.2 13), 9, .inr (.inl (fun _ => 0)))), ((um.1 14), .inl ((um.2 14), 36, .inr (.inl (fun _ => 0)))), ((um.1 15), .inl ((um.2 15), 9, .inl (fun _ => 0)))] H := hP
  have hD : va_D (fun q : Nat => s.heap.size ≤ q) [(q, .inr (11, [.ref (u.1 0), .ref (u.1 2), .ref (u.1 3), .ref (u.1 4), .ref (u.1 5), .ref (u.1 7), .ref (u.1 9), .ref (u.1 11), .ref (u.1 15), .int 0, .int 0, .int 0, .int 0])), ((u.1 0), .inr (4, [.ref (u.1 1), .int 0])), ((u.1 1), .inl ((u.2 0), 20, .inl (fun _ => 0))), ((u.1 2), .inl ((u.2 1), 6, .inr (.inr (.inr (.inr (fun _ => none)))))), ((u.1 3), .inl ((u.2 2), 8, .inr (.inr (.inr (.inr (fun _ => none)))))), ((u.1 4), .inl ((u.2 3), 6, .inl (fun _ => 0))), ((u.1 5), .inr (7, [.ref (u.1 6), .int 0, .long 0])), ((u.1 6), .inl ((u.2 4), 9, .inr (.inl (fun _ => 0)))), ((u.1 7), .inr (9, [.ref (u.1 8), .int 0, .long 0])), ((u.1 8), .inl ((u.2 5), 81, .inr (.inl (fun _ => 0)))), ((u.1 9), .inr (0, [.ref (u.1 10), .int 0, .int 0, .int 0, .int 0])), ((u.1 10), .inl ((u.2 6), 8, .inl (fun _ => 0))), ((u.1 11), .inr (1, [.ref (u.1 12), .ref (u.1 13), .int 0, .int 0, .int 0])), ((u.1 12), .inl ((u.2 7), 8, .inl (fun _ => 0))), ((u.1 13), .inr (0, [.ref (u.1 14), .int 0, .int 0, .int 0, .int 0])), ((u.1 14), .inl ((u.2 8), 8, .inl (fun _ => 0))), ((u.1 15), .inl ((u.2 9), 4, .inr (.inl (fun _ => 0)))), (qm, .inr (12, [.int 0, .ref (um.1 0), .ref (um.1 1), .ref (um.1 2), .int 0, .ref (um.1 3), .ref (um.1 4), .int 0, .ref (um.1 5), .ref (um.1 6), .ref (um.1 7), .ref (um.1 8), .ref (um.1 9), .int 0, .ref (um.1 10), .int 0, .int 0, .int 0, .ref (um.1 11), .ref (um.1 12), .int 0, .int 0, .int 0, .int 0, .int 0, .int 0, .int 0, .ref (um.1 13), .long 0, .int 0, .int 0, .int 0, .int 0, .ref (um.1 14), .int 0, .ref (um.1 15), .long 0])), ((um.1 0), .inl ((um.2 0), 8, .inl (fun _ => 0))), ((um.1 1), .inl ((um.2 1), 8, .inl (fun _ => 0))), ((um.1 2), .inl ((um.2 2), 8, .inl (fun _ => 0))), ((um.1 3), .inl ((um.2 3), 6, .inl (fun _ => 0))), ((um.1 4), .inl ((um.2 4), 48, .inl (fun _ => 0))), ((um.1 5), .inl ((um.2 5), 6, .inl (fun _ => 0))), ((um.1 6), .inl ((um.2 6), 6, .inl (fun _ => 0))), ((um.1 7), .inl ((um.2 7), 6, .inl (fun _ => 0))), ((um.1 8), .inl ((um.2 8), 6, .inl (fun _ => 0))), ((um.1 9), .inl ((um.2 9), 6, .inl (fun _ => 0))), ((um.1 10), .inl ((um.2 10), 20, .inl (fun _ => 0))), ((um.1 11), .inl ((um.2 11), 8, .inl (fun _ => 0))), ((um.1 12), .inl ((um.2 12), 48, .inl (fun _ => 0))), ((um.1 13), .inl ((um.2 13), 9, .inr (.inl (fun _ => 0)))), ((um.1 14), .inl ((um.2 14), 36, .inr (.inl (fun _ => 0)))), ((um.1 15), .inl ((um.2 15), 9, .inl (fun _ => 0)))] := hD
  simp only [e3, e5, e6, e7, e8, e9, e10, e11, e12, e13, e14, e15, e16, e17, e19, e21, e22, e23, e24, e25, y0, y1, y2, y3, y4, y5, f0, f1, f2, f3, f4, f5, f6, f7, f8, f9, f10, f11, f12, f13, f14, f15, f16, f17, f18, f19, f20, f21, f22, f23, f24, f25, f26, f27, f28, f29, f30, f31, f32, f33] at hP hD
  have ews := wsW00 D cy s.heap.size f
  simp only [Nat.not_lt_zero, if_false] at ews
  have hW : Wd (D, cy, s.heap.size, (fun k p => f (pos0 k p)), cl0, g00) I00 J00 s H locs := ⟨by rw [ews]; exact hP, by rw [ews]; exact hD, hS, okC00⟩
  have hs := flat_of_before _ hgv
  have hnc : ∀ q ∈ ncP, va_Nc q.1 q.2 s := by
    refine List.forall_mem_cons.mpr ⟨?_, List.forall_mem_cons.mpr ⟨?_, List.forall_mem_cons.mpr ⟨?_, List.forall_mem_cons.mpr ⟨?_, List.forall_mem_cons.mpr ⟨?_, List.forall_mem_cons.mpr ⟨?_, List.forall_mem_cons.mpr ⟨?_, List.forall_mem_cons.mpr ⟨?_, List.forall_mem_cons.mpr ⟨?_, List.forall_mem_cons.mpr ⟨?_, List.forall_mem_cons.mpr ⟨?_, List.forall_mem_cons.mpr ⟨?_, List.forall_mem_cons.mpr ⟨?_, List.forall_mem_cons.mpr ⟨?_, List.forall_mem_cons.mpr ⟨?_, fun _ h => absurd h List.not_mem_nil⟩⟩⟩⟩⟩⟩⟩⟩⟩⟩⟩⟩⟩⟩⟩
    · exact va_Nc.of (hs (Cond.not (Cond.castable RX5 RX2)) (by decide +kernel))
    · exact va_Nc.of (hs (Cond.not (Cond.castable RX3 RX2)) (by decide +kernel))
    · exact va_Nc.of (hs (Cond.not (Cond.castable RX8 RX2)) (by decide +kernel))
    · exact va_Nc.of (hs (Cond.not (Cond.castable RX10 RX2)) (by decide +kernel))
    · exact va_Nc.of (hs (Cond.not (Cond.castable RX5 RX3)) (by decide +kernel))
    · exact va_Nc.of (hs (Cond.not (Cond.castable RX2 RX3)) (by decide +kernel))
    · exact va_Nc.of (hs (Cond.not (Cond.castable RX8 RX3)) (by decide +kernel))
    · exact va_Nc.of (hs (Cond.not (Cond.castable RX10 RX3)) (by decide +kernel))
    · exact va_Nc.of (hs (Cond.not (Cond.castable RX5 RX8)) (by decide +kernel))
    · exact va_Nc.of (hs (Cond.not (Cond.castable RX2 RX8)) (by decide +kernel))
    · exact va_Nc.of (hs (Cond.not (Cond.castable RX3 RX8)) (by decide +kernel))
    · exact va_Nc.of (hs (Cond.not (Cond.castable RX10 RX8)) (by decide +kernel))
    · exact va_Nc.of (hs (Cond.not (Cond.castable RX5 RX10)) (by decide +kernel))
    · exact va_Nc.of (hs (Cond.not (Cond.castable RX2 RX10)) (by decide +kernel))
    · exact va_Nc.of (hs (Cond.not (Cond.castable RX3 RX10)) (by decide +kernel))
  have X : Cx (D, cy, s.heap.size, (fun k p => f (pos0 k p)), cl0, g00) code 4 RL ret p s m #[Value.ref b] c meth := ⟨S, ⟨hKW, hnc, hN⟩, Nat.le_refl _, hr, hlocks⟩
  refine W.widen (k := 36 + 3 * 0) (n := 500 + 19 * 0) (Nat.le_of_ble_eq_true rfl) (Nat.le_of_ble_eq_true rfl) ?_
  refine law_loop hops hL C0 (L + 1) 0 _ I00 J00 H locs ls (by omega) (by omega) X rfl exC00 hI0 hW ?_
  have hl2 := lv_sub hl [0, 3, 2, 1] rfl
  rw [f0, f17] at hl2
  exact hl2
