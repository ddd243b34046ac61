/-! a rule, a person come into the world -/
def bsE (E E' : WE) : Prop := E'.1 = E.1 ∧ E'.2.1 = E.2.1 ∧ E'.2.2.1 = E.2.2.1
/-- no cell is there but the fixed ones and those of the persons and rules -/
def exC (E : WE) : Prop := ∀ c ∈ wC E, c ∈ wStat ∨ ((c.1 = 40 ∨ c.1 = 41 ∨ c.1 = 42) ∧ c.2 < (wg E).2.1) ∨ (c.1 = 43 ∧ c.2 < (wg E).2.2)
theorem wStat_lt : ∀ c ∈ wStat, c.1 < 40 := by decide
theorem exC_r {E : WE} (h : exC E) : (43, (wg E).2.2) ∉ wC E := by
  intro hm
  rcases h _ hm with h1 | h1 | h1
  · have := wStat_lt _ h1; simp at this
  · obtain ⟨h2, -⟩ := h1; simp at h2
  · obtain ⟨-, h2⟩ := h1; simp at h2
theorem exC_p {E : WE} (h : exC E) {k : Nat} (hk : k = 40 ∨ k = 41 ∨ k = 42) : (k, (wg E).2.1) ∉ wC E := by
  intro hm
  rcases h _ hm with h1 | h1 | h1
  · have := wStat_lt _ h1; simp at this; omega
  · obtain ⟨-, h2⟩ := h1; simp at h2
  · obtain ⟨h2, -⟩ := h1; simp at h2; omega
def addR (E : WE) (q : Nat) : WE := (wD E, wc E, wN E, (fun k p => if k = 43 ∧ p = (wg E).2.2 then q else wa E k p), wC E ++ [(43, (wg E).2.2)], wg E)
def incR (E : WE) : WE := (wD E, wc E, wN E, wa E, wC E, ((wg E).1, (wg E).2.1, (wg E).2.2 + 1))
def addP (E : WE) (kc q a1 a2 : Nat) : WE := (wD E, wc E, wN E, (fun k p => if k = 40 ∧ p = (wg E).2.1 then q else if k = 41 ∧ p = (wg E).2.1 then a1 else if k = 42 ∧ p = (wg E).2.1 then a2 else wa E k p), wC E ++ [(40, (wg E).2.1), (41, (wg E).2.1), (42, (wg E).2.1)], (va_up (wg E).1 (wg E).2.1 kc, (wg E).2.1, (wg E).2.2))
def incP (E : WE) : WE := (wD E, wc E, wN E, wa E, wC E, ((wg E).1, (wg E).2.1 + 1, (wg E).2.2))
theorem contR_addR (E : WE) (q : Nat) (i : Nat → Int32) (j : Nat → Int64) (a b : Nat) : contR (addR E q) i j a b = contR E i j a b := by
  unfold contR
  split <;> simp only [addR, wa, wc, wg] <;> first
    | rfl
    | (simp; done)
    | (congr 7
       funext x
       by_cases hx : x < E.2.2.2.2.2.2.2
       · rw [if_pos hx, if_pos hx, if_neg (by rintro ⟨-, h⟩; omega)]
       · rw [if_neg hx, if_neg hx])
theorem map_cong {α β : Type} {f g : α → β} : ∀ {l : List α}, (∀ x ∈ l, f x = g x) → l.map f = l.map g := fun h => List.map_congr_left h
theorem wsW_addR {E : WE} {I : MI} {J : MJ} (f : Nat → Int32) (q : Nat) (h : (43, (wg E).2.2) ∉ wC E) : wsW (addR E q) (u3 I 43 (wg E).2.2 f) J = wsW E I J ++ [(q, .inr (6, [.int (f 0), .int (f 1), .int (f 2), .int (f 3), .int (f 4)]))] := by
  have e1 : wC (addR E q) = wC E ++ [(43, (wg E).2.2)] := rfl
  unfold wsW
  rw [e1, List.map_append]
  congr 1
  · apply map_cong
    intro c hc
    obtain ⟨a, b⟩ := c
    have hne : ¬ (a = 43 ∧ b = (wg E).2.2) := by rintro ⟨rfl, rfl⟩; exact h hc
    have e2 : wa (addR E q) a b = wa E a b := by simp only [wa, addR]; rw [if_neg hne]
    show (wa (addR E q) a b, cont (addR E q) (u3 I 43 (wg E).2.2 f) J a b) = (wa E a b, cont E I J a b)
    rw [e2]
    unfold cont
    rw [u3_ne I f hne, contR_addR]
  · have e2 : wa (addR E q) 43 (wg E).2.2 = q := by simp [wa, addR]
    show [(wa (addR E q) 43 (wg E).2.2, cont (addR E q) (u3 I 43 (wg E).2.2 f) J 43 (wg E).2.2)] = _
    rw [e2]
    unfold cont
    rw [u3_same]
    rfl
theorem contR_addP (E : WE) (kc q a1 a2 : Nat) (i : Nat → Int32) (j : Nat → Int64) (a b : Nat) (h : ¬ (a = 40 ∧ b = (wg E).2.1)) : contR (addP E kc q a1 a2) i j a b = contR E i j a b := by
  unfold contR
  split <;> simp only [addP, wa, wc, wg] <;> first
    | rfl
    | (simp; done)
    | (have hb : ¬ b = E.2.2.2.2.2.2.1 := fun e => h ⟨rfl, e⟩
       simp [hb, va_up])
    | (congr 7
       funext x
       by_cases hx : x < E.2.2.2.2.2.2.1
       · rw [if_pos hx, if_pos hx, if_neg (by rintro ⟨-, h⟩; omega)]
         simp
       · rw [if_neg hx, if_neg hx])
def pRow (num comes x : Int32) : Nat → Int32 := fun j => if j = 0 then num else if j = 3 then comes else if j = 4 then -1 else if j = 6 then x else 0
def pI (I : MI) (p : Nat) (row : Nat → Int32) : MI := u3 (u3 (u3 I 40 p row) 41 p (fun _ => 0)) 42 p (fun _ => 0)
theorem pI_ne {I : MI} {p : Nat} {row : Nat → Int32} {a b : Nat} (h0 : ¬ (a = 40 ∧ b = p)) (h1 : ¬ (a = 41 ∧ b = p)) (h2 : ¬ (a = 42 ∧ b = p)) : pI I p row a b = I a b := by
  unfold pI
  rw [u3_ne _ _ h2, u3_ne _ _ h1, u3_ne _ _ h0]
theorem wsW_addP {E : WE} {I : MI} {J : MJ} (row : Nat → Int32) (kc q a1 a2 : Nat) (h : exC E) : wsW (addP E kc q a1 a2) (pI I (wg E).2.1 row) J = wsW E I J ++ [(q, contR (addP E kc q a1 a2) row (J 40 (wg E).2.1) 40 (wg E).2.1), (a1, .inl (wc E 1, 6, .inl (fun _ => 0))), (a2, .inl (wc E 1, 6, .inl (fun _ => 0)))] := by
  have e1 : wC (addP E kc q a1 a2) = wC E ++ [(40, (wg E).2.1), (41, (wg E).2.1), (42, (wg E).2.1)] := rfl
  unfold wsW
  rw [e1, List.map_append]
  congr 1
  · apply map_cong
    intro c hc
    obtain ⟨a, b⟩ := c
    have n0 : ¬ (a = 40 ∧ b = (wg E).2.1) := by rintro ⟨rfl, rfl⟩; exact exC_p h (Or.inl rfl) hc
    have n1 : ¬ (a = 41 ∧ b = (wg E).2.1) := by rintro ⟨rfl, rfl⟩; exact exC_p h (Or.inr (Or.inl rfl)) hc
    have n2 : ¬ (a = 42 ∧ b = (wg E).2.1) := by rintro ⟨rfl, rfl⟩; exact exC_p h (Or.inr (Or.inr rfl)) hc
    have e2 : wa (addP E kc q a1 a2) a b = wa E a b := by simp only [wa, addP]; rw [if_neg n0, if_neg n1, if_neg n2]
    show (wa (addP E kc q a1 a2) a b, cont (addP E kc q a1 a2) (pI I (wg E).2.1 row) J a b) = (wa E a b, cont E I J a b)
    rw [e2]
    unfold cont
    rw [pI_ne n0 n1 n2, contR_addP _ _ _ _ _ _ _ _ _ n0]
  · have e0 : wa (addP E kc q a1 a2) 40 (wg E).2.1 = q := by simp [wa, addP]
    have e2 : wa (addP E kc q a1 a2) 41 (wg E).2.1 = a1 := by simp [wa, addP]
    have e3 : wa (addP E kc q a1 a2) 42 (wg E).2.1 = a2 := by simp [wa, addP]
    show [(wa (addP E kc q a1 a2) 40 (wg E).2.1, cont (addP E kc q a1 a2) (pI I (wg E).2.1 row) J 40 (wg E).2.1), (wa (addP E kc q a1 a2) 41 (wg E).2.1, cont (addP E kc q a1 a2) (pI I (wg E).2.1 row) J 41 (wg E).2.1), (wa (addP E kc q a1 a2) 42 (wg E).2.1, cont (addP E kc q a1 a2) (pI I (wg E).2.1 row) J 42 (wg E).2.1)] = _
    rw [e0, e2, e3]
    have f0 : pI I (wg E).2.1 row 40 (wg E).2.1 = row := by simp [pI, u3]
    have f1 : pI I (wg E).2.1 row 41 (wg E).2.1 = fun _ => 0 := by simp [pI, u3]
    have f2 : pI I (wg E).2.1 row 42 (wg E).2.1 = fun _ => 0 := by simp [pI, u3]
    unfold cont
    rw [f0, f1, f2]
    rfl
theorem okC_addR {E : WE} {q : Nat} (h : okC E) : okC (addR E q) := ⟨fun c hc => List.mem_append_left _ (h.1 c hc), fun p hp => ⟨List.mem_append_left _ (h.2.1 p hp).1, List.mem_append_left _ (h.2.1 p hp).2.1, List.mem_append_left _ (h.2.1 p hp).2.2⟩, fun r hr => List.mem_append_left _ (h.2.2 r hr)⟩
theorem okC_incR {E : WE} {q : Nat} (h : okC E) : okC (incR (addR E q)) := by
  have h2 := okC_addR (q := q) h
  refine ⟨h2.1, h2.2.1, fun r hr => ?_⟩
  have hr : r < (wg E).2.2 + 1 := hr
  by_cases e : r = (wg E).2.2
  · subst e
    exact List.mem_append_right _ List.mem_cons_self
  · exact h2.2.2 r (show r < (wg E).2.2 by omega)
theorem okC_addP {E : WE} {kc q a1 a2 : Nat} (h : okC E) : okC (addP E kc q a1 a2) := ⟨fun c hc => List.mem_append_left _ (h.1 c hc), fun p hp => ⟨List.mem_append_left _ (h.2.1 p hp).1, List.mem_append_left _ (h.2.1 p hp).2.1, List.mem_append_left _ (h.2.1 p hp).2.2⟩, fun r hr => List.mem_append_left _ (h.2.2 r hr)⟩
theorem okC_incP {E : WE} {kc q a1 a2 : Nat} (h : okC E) : okC (incP (addP E kc q a1 a2)) := by
  have h2 := okC_addP (kc := kc) (q := q) (a1 := a1) (a2 := a2) h
  refine ⟨h2.1, fun p hp => ?_, h2.2.2⟩
  have hp : p < (wg E).2.1 + 1 := hp
  by_cases e : p = (wg E).2.1
  · subst e
    exact ⟨List.mem_append_right _ (by simp), List.mem_append_right _ (by simp), List.mem_append_right _ (by simp)⟩
  · exact h2.2.1 p (show p < (wg E).2.1 by omega)
theorem exC_incR {E : WE} {q : Nat} (h : exC E) : exC (incR (addR E q)) := by
  intro c hc
  rcases List.mem_append.mp (show c ∈ wC E ++ [(43, (wg E).2.2)] from hc) with h1 | h1
  · rcases h c h1 with h2 | h2 | h2
    · exact Or.inl h2
    · exact Or.inr (Or.inl h2)
    · exact Or.inr (Or.inr ⟨h2.1, show c.2 < (wg E).2.2 + 1 by omega⟩)
  · simp only [List.mem_cons, List.not_mem_nil, or_false] at h1
    subst h1
    exact Or.inr (Or.inr ⟨rfl, show (wg E).2.2 < (wg E).2.2 + 1 by omega⟩)
theorem exC_incP {E : WE} {kc q a1 a2 : Nat} (h : exC E) : exC (incP (addP E kc q a1 a2)) := by
  intro c hc
  rcases List.mem_append.mp (show c ∈ wC E ++ [(40, (wg E).2.1), (41, (wg E).2.1), (42, (wg E).2.1)] from hc) with h1 | h1
  · rcases h c h1 with h2 | h2 | h2
    · exact Or.inl h2
    · exact Or.inr (Or.inl ⟨h2.1, show c.2 < (wg E).2.1 + 1 by omega⟩)
    · exact Or.inr (Or.inr h2)
  · simp only [List.mem_cons, List.not_mem_nil, or_false] at h1
    rcases h1 with rfl | rfl | rfl
    · exact Or.inr (Or.inl ⟨Or.inl rfl, show (wg E).2.1 < (wg E).2.1 + 1 by omega⟩)
    · exact Or.inr (Or.inl ⟨Or.inr (Or.inl rfl), show (wg E).2.1 < (wg E).2.1 + 1 by omega⟩)
    · exact Or.inr (Or.inl ⟨Or.inr (Or.inr rfl), show (wg E).2.1 < (wg E).2.1 + 1 by omega⟩)
/-- places of a list with one cell behind it -/
theorem rg_nd : ∀ (l : List Nat), l.Nodup → va_nd l = true
  | [], _ => rfl
  | a :: l, h => by
    have h := List.nodup_cons.mp h
    simp [va_nd, h.1, rg_nd l h.2]
theorem rg_map (ws : va_W) (x : Nat × va_E) : (List.range ws.length).map (fun i => (ws ++ [x])[i]?) = ws.map some := by
  apply List.ext_getElem?
  intro i
  by_cases h : i < ws.length
  · rw [List.getElem?_map, List.getElem?_range h, List.getElem?_map]
    simp [List.getElem?_append_left h, h]
  · have h' : ws.length ≤ i := by omega
    simp [h']
theorem Cx.to {E E' : WE} {cc : ByteArray} {nL : Nat} {own : String} {rt : Option FieldType} {p : Program} {s : State} {m : MethodId} {args : Array Value} {c : Code} {meth : Method} (h : bsE E E') (X : Cx E cc nL own rt p s m args c meth) : Cx E' cc nL own rt p s m args c meth := by
  obtain ⟨h1, h2, h3⟩ := h
  obtain ⟨x1, ⟨k1, k2⟩, x3, x4⟩ := X
  refine ⟨x1, ⟨?_, k2⟩, ?_, x4⟩
  · show va_K E'.1 vwCl (tysW E'.2.1) s
    rw [h1, h2]; exact k1
  · show E'.2.2.1 ≤ s.heap.size
    rw [h3]; exact x3
theorem wc_eq {D : va_G} {cl : List vw_C} {cy : Nat → ClassId} {t2 : List (ClassId × FieldType)} {s : State} {cA : ClassId} (hK : va_K D cl (tysW cy) s) (hK2 : va_K D cl t2 s) {i : Nat} (hi : t2[i]? = some (cA, .int)) : cA = cy 1 := by
  have h1 : s.vm.findClass ("[" ++ (FieldType.int).toString) = some (cy 1) := (hK.2 1 (cy 1, .int) rfl).2
  have h2 : s.vm.findClass ("[" ++ (FieldType.int).toString) = some cA := (hK2.2 i (cA, .int) hi).2
  exact Option.some.inj (h2.symm.trans h1)
