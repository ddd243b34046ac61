/-! the page: class's states and model's -/
def dB (c x : Int32) : Int32 :=
  if c = 0 then (if x = 98 then 1 else if x = 114 then 2 else -1)
  else if c = 1 then (if 49 ≤ x ∧ x ≤ 56 then 5 else -1)
  else if c = 2 then (if x = 49 then 3 else if x = 50 then 4 else if 51 ≤ x ∧ x ≤ 57 then 5 else -1)
  else if c = 3 then (if 48 ≤ x ∧ x ≤ 57 then 5 else -1)
  else if c = 4 then (if x = 48 then 5 else if x = 113 then 6 else -1)
  else if c = 5 then (if x = 113 then 6 else -1)
  else if c = 6 then (if 48 ≤ x ∧ x ≤ 56 then 7 else -1)
  else if c = 7 then (if x = 116 then 8 else if x = 99 then 9 else if x = 121 then 9 else -1)
  else if c = 8 then (if x = 99 then 9 else if x = 121 then 9 else -1)
  else -1
def dM (m ra x : Int32) : Int32 :=
  if m = 0 then (if x = 98 then 1 else if x = 114 then 2 else -1)
  else if m = 1 then (if 49 ≤ x ∧ x ≤ 56 then 4 else -1)
  else if m = 2 then (if 49 ≤ x ∧ x ≤ 57 then 3 else -1)
  else if m = 3 then (if (ra = 1 ∧ (48 ≤ x ∧ x ≤ 57)) ∨ (ra = 2 ∧ x = 48) then 4 else if ra ≤ 1 then -1 else if x = 113 then 5 else -1)
  else if m = 4 then (if x = 113 then 5 else -1)
  else if m = 5 then (if 48 ≤ x ∧ x ≤ 56 then 6 else -1)
  else if m = 6 then (if x = 116 then 7 else if x = 99 then 8 else if x = 121 then 8 else -1)
  else if m = 7 then (if x = 99 then 8 else if x = 121 then 8 else -1)
  else -1
def fR (m ra x : Int32) : Int32 := if m = 2 then x - 48 else if m = 3 then (if (ra = 1 ∧ (48 ≤ x ∧ x ≤ 57)) ∨ (ra = 2 ∧ x = 48) then 10 * ra + x - 48 else ra) else ra
/-- what one letter does to the model's fields -/
def NXf (I I1 : MI) (m x : Int32) : Prop := I1 17 0 22 = (if m = 1 then x - 48 else I 17 0 22) ∧ I1 17 0 23 = fR m (I 17 0 23) x ∧ I1 17 0 24 = (if m = 5 then x - 48 else I 17 0 24) ∧ I1 17 0 25 = (if m = 6 then b2i (x = 116) else I 17 0 25) ∧ I1 17 0 26 = (if m = 6 ∨ m = 7 then b2i (x = 99) else I 17 0 26)
section Page
variable {g : GS} {V : MV} {nC len : Nat} {I : MI} {J : MJ}
theorem sX_due {c x : Int32} {Q : Int32 → MI → MJ → Prop} (h : Q (dB c x) I J) : wX4_dueBehind g c x I J Q := by
  unfold dB at h
  unfold wX4_dueBehind wX4_isCount
  simp only [eX_within]
  by_cases h0 : c = 0
  · rw [if_pos h0] at h
    refine br_t h0 ?_
    by_cases a : x = 98
    · rw [if_pos a] at h; exact br_f' a h
    rw [if_neg a] at h
    refine br_t' a ?_
    by_cases b : x = 114
    · rw [if_pos b] at h; exact br_f' b h
    · rw [if_neg b] at h; exact br_t' b h
  rw [if_neg h0] at h
  refine br_f h0 ?_
  by_cases h1 : c = 1
  · rw [if_pos h1] at h
    refine br_t h1 ?_
    by_cases a : 49 ≤ x ∧ x ≤ 56
    · rw [if_pos a] at h; rw [b2i_t a]; exact br_f (by decide) h
    · rw [if_neg a] at h; rw [b2i_f a]; exact br_t rfl h
  rw [if_neg h1] at h
  refine br_f h1 ?_
  by_cases h2 : c = 2
  · rw [if_pos h2] at h
    refine br_t h2 ?_
    by_cases a : x = 49
    · rw [if_pos a] at h; exact br_f' a h
    rw [if_neg a] at h
    refine br_t' a ?_
    by_cases b : x = 50
    · rw [if_pos b] at h; exact br_f' b h
    rw [if_neg b] at h
    refine br_t' b ?_
    by_cases d : 51 ≤ x ∧ x ≤ 57
    · rw [if_pos d] at h; rw [b2i_t d]; exact br_f (by decide) h
    · rw [if_neg d] at h; rw [b2i_f d]; exact br_t rfl h
  rw [if_neg h2] at h
  refine br_f h2 ?_
  by_cases h3 : c = 3
  · rw [if_pos h3] at h
    refine br_t h3 ?_
    by_cases a : 48 ≤ x ∧ x ≤ 57
    · rw [if_pos a] at h; rw [b2i_t a]; exact br_f (by decide) h
    · rw [if_neg a] at h; rw [b2i_f a]; exact br_t rfl h
  rw [if_neg h3] at h
  refine br_f h3 ?_
  by_cases h4 : c = 4
  · rw [if_pos h4] at h
    refine br_t h4 ?_
    by_cases a : x = 48
    · rw [if_pos a] at h; exact br_f' a h
    rw [if_neg a] at h
    refine br_t' a ?_
    by_cases b : x = 113
    · rw [if_pos b] at h; exact br_f' b h
    · rw [if_neg b] at h; exact br_t' b h
  rw [if_neg h4] at h
  refine br_f h4 ?_
  by_cases h5 : c = 5
  · rw [if_pos h5] at h
    refine br_t h5 ?_
    by_cases b : x = 113
    · rw [if_pos b] at h; exact br_f' b h
    · rw [if_neg b] at h; exact br_t' b h
  rw [if_neg h5] at h
  refine br_f h5 ?_
  by_cases h6 : c = 6
  · rw [if_pos h6] at h
    refine br_t h6 ?_
    by_cases a : 48 ≤ x ∧ x ≤ 56
    · rw [if_pos a] at h; rw [b2i_t a]; exact br_f (by decide) h
    · rw [if_neg a] at h; rw [b2i_f a]; exact br_t rfl h
  rw [if_neg h6] at h
  refine br_f h6 ?_
  by_cases h7 : c = 7
  · rw [if_pos h7] at h
    refine br_t h7 ?_
    by_cases a : x = 116
    · rw [if_pos a] at h; exact br_f' a h
    rw [if_neg a] at h
    refine br_t' a ?_
    by_cases b : x = 99
    · rw [if_pos b] at h; exact br_t b (br_f (by decide) h)
    rw [if_neg b] at h
    refine br_f b ?_
    by_cases d : x = 121
    · rw [if_pos d] at h; exact br_f' d (br_f (by decide) h)
    · rw [if_neg d] at h; exact br_t' d (br_t trivial h)
  rw [if_neg h7] at h
  refine br_f h7 ?_
  by_cases h8 : c = 8
  · rw [if_pos h8] at h
    refine br_t h8 ?_
    by_cases b : x = 99
    · rw [if_pos b] at h; exact br_t b (br_f (by decide) h)
    rw [if_neg b] at h
    refine br_f b ?_
    by_cases d : x = 121
    · rw [if_pos d] at h; exact br_f' d (br_f (by decide) h)
    · rw [if_neg d] at h; exact br_t' d (br_t trivial h)
  rw [if_neg h8] at h
  exact br_f h8 h
theorem nx_id {m x : Int32} (h1 : ¬ m = 1) (h2 : fR m (I 17 0 23) x = I 17 0 23) (h5 : ¬ m = 5) (h6 : ¬ m = 6) (h7 : ¬ m = 7) : NXf I I m x := by
  unfold NXf
  rw [if_neg h1, if_neg h5, if_neg h6, if_neg (by simp [h6, h7]), h2]
  exact ⟨rfl, rfl, rfl, rfl, rfl⟩
theorem sM_next {m x : Int32} {Q : Int32 → MI → MJ → Prop} (hS : St g V nC len I) (h : ∀ I1, St g V nC len I1 → NXf I I1 m x → Q (dM m (I 17 0 23) x) I1 J) : wX12_next g m x I J Q := by
  unfold dM at h
  unfold wX12_next
  simp only [eM_within]
  by_cases h0 : m = 0
  · rw [if_pos h0] at h
    have h := h I hS (nx_id (by rw [h0]; decide) (by unfold fR; rw [if_neg (by rw [h0]; decide), if_neg (by rw [h0]; decide)]) (by rw [h0]; decide) (by rw [h0]; decide) (by rw [h0]; decide))
    refine br_t h0 ?_
    by_cases a : x = 98
    · rw [if_pos a] at h; exact br_f' a h
    rw [if_neg a] at h
    refine br_t' a ?_
    by_cases b : x = 114
    · rw [if_pos b] at h; exact br_f' b h
    · rw [if_neg b] at h; exact br_t' b h
  rw [if_neg h0] at h
  refine br_f h0 ?_
  by_cases h1 : m = 1
  · rw [if_pos h1] at h
    have h := h (u3 I 17 0 (upd (I 17 0) 22 (x - 48))) (hS.m17 (by decide)) (by
      unfold NXf fR
      subst h1
      rw [u3_same]
      refine ⟨by rw [pk_us, if_pos rfl], by rw [pk_un (by decide), if_neg (by decide), if_neg (by decide)], by rw [pk_un (by decide), if_neg (by decide)], by rw [pk_un (by decide), if_neg (by decide)], by rw [pk_un (by decide), if_neg (by decide)]⟩)
    refine br_t h1 ?_
    by_cases a : 49 ≤ x ∧ x ≤ 56
    · rw [if_pos a] at h; rw [b2i_t a]; exact br_f (by decide) h
    · rw [if_neg a] at h; rw [b2i_f a]; exact br_t rfl h
  rw [if_neg h1] at h
  refine br_f h1 ?_
  by_cases h2 : m = 2
  · rw [if_pos h2] at h
    have h := h (u3 I 17 0 (upd (I 17 0) 23 (x - 48))) (hS.m17 (by decide)) (by
      unfold NXf fR
      subst h2
      rw [u3_same]
      refine ⟨by rw [pk_un (by decide), if_neg (by decide)], by rw [pk_us, if_pos rfl], by rw [pk_un (by decide), if_neg (by decide)], by rw [pk_un (by decide), if_neg (by decide)], by rw [pk_un (by decide), if_neg (by decide)]⟩)
    refine br_t h2 ?_
    by_cases a : 49 ≤ x ∧ x ≤ 57
    · rw [if_pos a] at h; rw [b2i_t a]; exact br_f (by decide) h
    · rw [if_neg a] at h; rw [b2i_f a]; exact br_t rfl h
  rw [if_neg h2] at h
  refine br_f h2 ?_
  by_cases h3 : m = 3
  · rw [if_pos h3] at h
    refine br_t h3 ?_
    subst h3
    have yes : ((I 17 0 23 = 1 ∧ (48 ≤ x ∧ x ≤ 57)) ∨ (I 17 0 23 = 2 ∧ x = 48)) → wX12_nextRatio_b34 g (fun r122 I122 J122 => Q r122 I122 J122) x 1 I J := by
      intro e
      rw [if_pos e] at h
      unfold wX12_nextRatio_b34
      refine br_f (by decide) (h _ (hS.m17 (by decide)) ?_)
      unfold NXf fR
      rw [u3_same]
      refine ⟨by rw [pk_un (by decide), if_neg (by decide)], by rw [pk_us, if_neg (by decide), if_pos rfl, if_pos e], by rw [pk_un (by decide), if_neg (by decide)], by rw [pk_un (by decide), if_neg (by decide)], by rw [pk_un (by decide), if_neg (by decide)]⟩
    have no : ¬ ((I 17 0 23 = 1 ∧ (48 ≤ x ∧ x ≤ 57)) ∨ (I 17 0 23 = 2 ∧ x = 48)) → wX12_nextRatio_b34 g (fun r122 I122 J122 => Q r122 I122 J122) x 0 I J := by
      intro e
      rw [if_neg e] at h
      have h := h I hS (nx_id (by decide) (by unfold fR; rw [if_neg (by decide), if_pos rfl, if_neg e]) (by decide) (by decide) (by decide))
      unfold wX12_nextRatio_b34
      refine br_t rfl ?_
      by_cases a : I 17 0 23 ≤ 1
      · rw [if_pos a] at h; exact br_t a h
      rw [if_neg a] at h
      refine br_f a ?_
      by_cases b : x = 113
      · rw [if_pos b] at h; exact br_f' b h
      · rw [if_neg b] at h; exact br_t' b h
    have b15 : ¬ (I 17 0 23 = 1 ∧ (48 ≤ x ∧ x ≤ 57)) → wX12_nextRatio_b15 g (fun r122 I122 J122 => Q r122 I122 J122) x I J := by
      intro e
      unfold wX12_nextRatio_b15 wX12_nextRatio_b33 wX12_nextRatio_b29
      by_cases a : I 17 0 23 = 2
      · refine br_f' a ?_
        by_cases b : x = 48
        · exact br_f' b (yes (Or.inr ⟨a, b⟩))
        · exact br_t' b (no (fun z => z.elim e (fun y => b y.2)))
      · exact br_t' a (no (fun z => z.elim e (fun y => a y.1)))
    unfold wX12_nextRatio wX12_isDigit
    by_cases a : I 17 0 23 = 1
    · refine br_f' a ?_
      rw [eM_within]
      refine ⟨b2i_B, ?_⟩
      by_cases d : 48 ≤ x ∧ x ≤ 57
      · rw [b2i_t d]
        exact br_t' (by decide) (yes (Or.inl ⟨a, d⟩))
      · rw [b2i_f d]
        exact br_f' rfl (b15 (fun z => d z.2))
    · exact br_t' a (b15 (fun z => a z.1))
  rw [if_neg h3] at h
  refine br_f h3 ?_
  by_cases h4 : m = 4
  · rw [if_pos h4] at h
    subst h4
    have h := h I hS (nx_id (by decide) (by unfold fR; rw [if_neg (by decide), if_neg (by decide)]) (by decide) (by decide) (by decide))
    refine br_t rfl ?_
    by_cases b : x = 113
    · rw [if_pos b] at h; exact br_f' b h
    · rw [if_neg b] at h; exact br_t' b h
  rw [if_neg h4] at h
  refine br_f h4 ?_
  by_cases h5 : m = 5
  · rw [if_pos h5] at h
    have h := h (u3 I 17 0 (upd (I 17 0) 24 (x - 48))) (hS.m17 (by decide)) (by
      unfold NXf fR
      subst h5
      rw [u3_same]
      refine ⟨by rw [pk_un (by decide), if_neg (by decide)], by rw [pk_un (by decide), if_neg (by decide), if_neg (by decide)], by rw [pk_us, if_pos rfl], by rw [pk_un (by decide), if_neg (by decide)], by rw [pk_un (by decide), if_neg (by decide)]⟩)
    refine br_t h5 ?_
    by_cases a : 48 ≤ x ∧ x ≤ 56
    · rw [if_pos a] at h; rw [b2i_t a]; exact br_f (by decide) h
    · rw [if_neg a] at h; rw [b2i_f a]; exact br_t rfl h
  rw [if_neg h5] at h
  refine br_f h5 ?_
  by_cases h6 : m = 6
  · rw [if_pos h6] at h
    subst h6
    refine br_t rfl ?_
    have go : ∀ t u : Int32, t = b2i (x = 116) → u = b2i (x = 99) → Q (if x = 116 then 7 else if x = 99 then 8 else if x = 121 then 8 else -1) (u3 (u3 I 17 0 (upd (I 17 0) 25 t)) 17 0 (upd ((u3 I 17 0 (upd (I 17 0) 25 t)) 17 0) 26 u)) J := by
      intro t u ht hu
      refine h _ ((hS.m17 (by decide)).m17 (by decide)) ?_
      unfold NXf fR
      rw [u3_same, u3_same]
      refine ⟨by rw [pk_un (by decide), pk_un (by decide), if_neg (by decide)], by rw [pk_un (by decide), pk_un (by decide), if_neg (by decide), if_neg (by decide)], by rw [pk_un (by decide), pk_un (by decide), if_neg (by decide)], by rw [pk_un (by decide), pk_us, if_pos rfl, ht], by rw [pk_us, if_pos (Or.inl rfl), hu]⟩
    unfold wX12_next_b176 wX12_next_b191
    by_cases a : x = 116
    · refine br_f' a ⟨Or.inr rfl, br_t' (by rw [a]; decide) ⟨Or.inl rfl, ?_⟩⟩
      have G := go 1 0 (b2i_t a).symm (b2i_f (by rw [a]; decide)).symm
      rw [if_pos a] at G
      rw [u3_same, u3_same, pk_un (by decide), pk_us]
      exact br_f (by decide) G
    · refine br_t' a ⟨Or.inl rfl, ?_⟩
      by_cases b : x = 99
      · refine br_f' b ⟨Or.inr rfl, ?_⟩
        have G := go 0 1 (b2i_f a).symm (b2i_t b).symm
        rw [if_neg a, if_pos b] at G
        rw [u3_same, u3_same, pk_un (by decide), pk_us]
        exact br_t rfl (br_t b G)
      · refine br_t' b ⟨Or.inl rfl, ?_⟩
        have G := go 0 0 (b2i_f a).symm (b2i_f b).symm
        rw [if_neg a, if_neg b] at G
        rw [u3_same, u3_same, pk_un (by decide), pk_us]
        refine br_t rfl (br_f b ?_)
        by_cases d : x = 121
        · rw [if_pos d] at G; exact br_f' d G
        · rw [if_neg d] at G; exact br_t' d G
  rw [if_neg h6] at h
  refine br_f h6 ?_
  by_cases h7 : m = 7
  · rw [if_pos h7] at h
    subst h7
    refine br_t rfl ?_
    have go : ∀ u : Int32, u = b2i (x = 99) → Q (if x = 99 then 8 else if x = 121 then 8 else -1) (u3 I 17 0 (upd (I 17 0) 26 u)) J := by
      intro u hu
      refine h _ (hS.m17 (by decide)) ?_
      unfold NXf fR
      rw [u3_same]
      refine ⟨by rw [pk_un (by decide), if_neg (by decide)], by rw [pk_un (by decide), if_neg (by decide), if_neg (by decide)], by rw [pk_un (by decide), if_neg (by decide)], by rw [pk_un (by decide), if_neg (by decide)], by rw [pk_us, if_pos (Or.inr rfl), hu]⟩
    unfold wX12_next_b237
    by_cases b : x = 99
    · have G := go 1 (b2i_t b).symm
      rw [if_pos b] at G
      exact br_f' b ⟨Or.inr rfl, br_t b G⟩
    · have G := go 0 (b2i_f b).symm
      rw [if_neg b] at G
      refine br_t' b ⟨Or.inl rfl, br_f b ?_⟩
      by_cases d : x = 121
      · rw [if_pos d] at G; exact br_f' d G
      · rw [if_neg d] at G; exact br_t' d G
  rw [if_neg h7] at h
  refine br_f h7 (h I hS (nx_id h1 ?_ h5 h6 h7))
  unfold fR
  rw [if_neg h2, if_neg h3]
end Page
