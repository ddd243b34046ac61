def hvN : Option Nat → Int32
  | none => -1
  | some n => nI n
def leV (V : MV) (w : Int64) (len n : Nat) : MV := fun a b => if a = 17 ∧ b = 13 then nI (len + n) else if a = 28 ∧ len ≤ b ∧ b < len + n then nI (cdN w (b - len)) else V a b
section Letters
variable {g : GS} {V : MV} {nC len : Nat} {I : MI} {J : MJ}
theorem scN_s1 {a : Int64} {i n : Nat} (h : scN a i = some n) (hc : 126 < cdN a i) : scN a (i + 1) = none := by rw [scN, h]; simp [hc]
theorem scN_s2 {a : Int64} {i n : Nat} (h : scN a i = some n) (hc : cdN a i = 0) : scN a (i + 1) = some n := by rw [scN, h]; simp [hc]
theorem scN_s3 {a : Int64} {i n : Nat} (h : scN a i = some n) (hc : ¬ 126 < cdN a i) (h0 : ¬ cdN a i = 0) (hn : n = i) : scN a (i + 1) = some (n + 1) := by rw [scN, h]; simp [hc, h0, hn]
theorem scN_s4 {a : Int64} {i n : Nat} (h : scN a i = some n) (h0 : ¬ cdN a i = 0) (hn : ¬ n = i) : scN a (i + 1) = none := by rw [scN, h]; simp [h0, hn]
theorem sX_hml {a : Int64} {Q : Int32 → MI → MJ → Prop} (h : Q (hvN (scN a 8)) I J) : wX4_howManyLetters g a I J Q := by
  have key : ∀ d i n, i + d = 8 → scN a i = some n → wX4_howManyLetters_b4 g Q (d + 1) a (nI n) (nI i) I J := by
    intro d
    induction d with
    | zero =>
      intro i n hi hs
      have : i = 8 := by omega
      subst this
      rw [hs] at h
      unfold wX4_howManyLetters_b4
      exact br_t (nI_le (a := 8) (Nat.le_refl _) (by decide)) h
    | succ d ih =>
      intro i n hi hs
      have hl := scN_le i n hs
      have hc := cdN_lt a i
      unfold wX4_howManyLetters_b4 wX4_codeIn wX4_howManyLetters_b36 wX4_howManyLetters_b44
      rw [codeX a (by omega), nI_1 i]
      refine br_f (nI_ge (b := 8) (by omega) (by decide)) ?_
      by_cases h1 : 126 < cdN a i
      · rw [scN_none (scN_s1 hs h1) 8 (by omega)] at h
        exact br_t (nI_lt (a := 126) h1 (by omega)) h
      · refine br_f (nI_nlt (a := 126) (by omega) (by decide)) ?_
        by_cases h0 : cdN a i = 0
        · rw [h0]
          exact br_t rfl (br_t rfl (ih (i + 1) n (by omega) (scN_s2 hs h0)))
        · refine br_f (nI_ne0 (by omega) (by omega)) ?_
          by_cases hn : n = i
          · refine br_t (nI_le (by omega) (by omega)) (br_f (nI_ne0 (by omega) (by omega)) ?_)
            rw [nI_1 n]
            exact ih (i + 1) (n + 1) (by omega) (scN_s3 hs h1 h0 hn)
          · rw [scN_none (scN_s4 hs h0 hn) 8 (by omega)] at h
            exact br_f (nI_ge (by omega) (by omega)) h
  exact ⟨9, key 8 0 0 (by omega) rfl⟩
theorem sM_let {a : Int64} {Q : Int32 → MI → MJ → Prop} (hN : scN a 8 = none → Q (-102) I J) (hY : ∀ n, scN a 8 = some n → (((I 17 0 13) + nI n ≤ 20 → ∃ n102, wX12_letters_b102 g Q n102 a (nI n) 0 I J) ∧ (¬ ((I 17 0 13) + nI n) ≤ 20 → Q ((-104)) I J))) : wX12_letters g a I J Q := by
  have key : ∀ d i n fl, i + d = 8 → scN a i = some n → fl = b2i (¬ n = i) → wX12_letters_b8 g Q (d + 1) a (nI n) fl (nI i) I J := by
    intro d
    induction d with
    | zero =>
      intro i n fl hi hs hf
      have : i = 8 := by omega
      subst this
      unfold wX12_letters_b8
      exact br_t (nI_le (a := 8) (Nat.le_refl _) (by decide)) (hY n hs)
    | succ d ih =>
      intro i n fl hi hs hf
      have hl := scN_le i n hs
      have hc := cdN_lt a i
      unfold wX12_letters_b8 wX12_letters_b49 wX12_letters_b59 wX12_letters_b64 wX12_letters_b77
      rw [codeM a (by omega), nI_1 i, nI_1 n, Int32.add_zero]
      refine br_f (nI_ge (b := 8) (by omega) (by decide)) ?_
      by_cases h1 : 126 < cdN a i
      · exact br_t (nI_lt (a := 126) h1 (by omega)) (hN (scN_none (scN_s1 hs h1) 8 (by omega)))
      · refine br_f (nI_nlt (a := 126) (by omega) (by decide)) ?_
        by_cases hn : n = i
        · have f0 : fl = 0 := by rw [hf]; exact b2i_f (by omega)
          refine br_t f0 (br_f' f0 ?_)
          by_cases h0 : cdN a i = 0
          · rw [h0]
            refine br_f' rfl (br_f' rfl (ih (i + 1) n 1 (by omega) (scN_s2 hs h0) ?_))
            rw [b2i_t (by omega)]
          · refine br_t' (nI_ne0 (by omega) (by omega)) (br_t' (nI_ne0 (by omega) (by omega)) (ih (i + 1) (n + 1) 0 (by omega) (scN_s3 hs h1 h0 hn) ?_))
            rw [b2i_f (by omega)]
        · have f0 : ¬ fl = 0 := by rw [hf, b2i_t hn]; decide
          refine br_f f0 ?_
          by_cases h0 : cdN a i = 0
          · rw [h0]
            refine br_t rfl (br_t' f0 (br_f' rfl (ih (i + 1) n 1 (by omega) (scN_s2 hs h0) ?_)))
            rw [b2i_t (by omega)]
          · exact br_f (nI_ne0 (by omega) (by omega)) (hN (scN_none (scN_s4 hs h0 hn) 8 (by omega)))
  exact ⟨9, key 8 0 0 0 (by omega) rfl rfl⟩
theorem p_op0 : op0 Inv := by
  rintro g I J w ⟨V, nC, len, hV, hS⟩
  have hl : len ≤ 20 := hV.1.2.2.2.1
  have e1 : I 1 0 1 = nI len := hS.2.1.2.2.2.2
  unfold wX11_letters wX4_write
  refine sX_hml ?_
  cases hsc : scN w 8 with
  | none =>
    refine br_f' rfl ?_
    exact sM_let (fun _ => ⟨rfl, hS.inv hV⟩) (fun n hn => by rw [hsc] at hn; cases hn)
  | some n =>
    obtain ⟨hn8, hcs⟩ := scN_le 8 n hsc
    refine br_t' (nI_nm1 (by omega)) ?_
    show ((I 1 0 1 + nI n ≤ 20 → _) ∧ (¬ I 1 0 1 + nI n ≤ 20 → _))
    rw [e1, nI_add]
    by_cases h20 : len + n ≤ 20
    case neg =>
      refine br_f (nI_ge (a := 20) (by omega) (by omega)) ?_
      refine sM_let (fun h => by rw [hsc] at h; cases h) (fun m hm => ?_)
      rw [hsc] at hm
      cases hm
      rw [m13 hV hS, nI_add]
      exact br_f (nI_ge (a := 20) (by omega) (by omega)) ⟨rfl, hS.inv hV⟩
    refine br_t (nI_le (b := 20) h20 (by decide)) ?_
    show ∃ n30, wX4_write_b30 g _ n30 w (nI n) 0 I J
    refine loop_0 (fun f k (s : MI) => wX4_write_b30 g (fun r I1 J1 => wX12_letters g w I1 J1 (fun r2 I2 J2 => r = r2 ∧ Inv g I2 J2)) f w (nI n) (nI k) s J) (fun k s => (∀ a b, ¬ a = 2 → s a b = I a b) ∧ ∀ j, s 2 0 j = if len ≤ j ∧ j < len + k then nI (cdN w (j - len)) else I 2 0 j) n I ⟨fun _ _ _ => rfl, fun j => by rw [if_neg (by omega)]⟩ (fun f s hs => ?_) (fun f k s hk hs ih => ?_)
    case refine_2 =>
      unfold wX4_write_b30 wX4_codeIn
      rw [hs.1 1 0 (by decide), e1, nI_add len k, cl_nI (by omega), codeX w (by omega), nI_1 k]
      refine br_f (nI_ge hk (by omega)) ⟨vp_in_nI (by omega) (by decide), ih _ ⟨fun a b h => ?_, fun j => ?_⟩⟩
      · rw [u3_ne _ _ (by omega)]; exact hs.1 a b h
      · rw [u3_same]
        by_cases e : j = len + k
        · rw [e, pk_us, if_pos (by omega), show len + k - len = k by omega]
        · rw [pk_un e, hs.2 j]
          by_cases e2 : len ≤ j ∧ j < len + k
          · rw [if_pos e2, if_pos (by omega)]
          · rw [if_neg e2, if_neg (by omega)]
    unfold wX4_write_b30
    refine br_t (nI_le (Nat.le_refl _) (by omega)) ?_
    rw [hs.1 1 0 (by decide), e1, nI_add]
    obtain ⟨A, hA⟩ : ∃ z, z = u3 s 1 0 (upd (I 1 0) 1 (nI (len + n))) := ⟨_, rfl⟩
    rw [← hA]
    have a1 : A 1 0 1 = nI (len + n) := by rw [hA, u3_same, pk_us]
    have a2 : ∀ j, A 2 0 j = if len ≤ j ∧ j < len + n then nI (cdN w (j - len)) else I 2 0 j := fun j => by rw [hA, u3_ne _ _ (by decide)]; exact hs.2 j
    have aF : ∀ a b, ¬ (a = 1 ∨ a = 2) → A a b = I a b := fun a b h => by rw [hA, u3_ne _ _ (by omega), hs.1 a b (by omega)]
    have em : mview A = V := by
      rw [← hS.1]
      exact mview_of (fun a j ha => by rw [aF a 0 (by omega)])
    have am : A 17 0 13 = nI len := by rw [mv_17 em (by decide)]; exact hV.2.1.2.2.2
    rw [a1]
    refine sM_let (fun h => by rw [hsc] at h; cases h) (fun m hm => ?_)
    rw [hsc] at hm
    cases hm
    rw [am, nI_add]
    refine br_t (nI_le (b := 20) h20 (by decide)) ?_
    refine loop_0 (fun f k (z : MI) => wX12_letters_b102 g (fun r2 I2 J2 => nI (len + n) = r2 ∧ Inv g I2 J2) f w (nI n) (nI k) z J) (fun k z => (∀ a b, ¬ a = 28 → z a b = A a b) ∧ ∀ j, z 28 0 j = if len ≤ j ∧ j < len + k then nI (cdN w (j - len)) else V 28 j) n A ⟨fun _ _ _ => rfl, fun j => by rw [if_neg (by omega)]; exact mv_at em j (by decide)⟩ (fun f z hz => ?_) (fun f k z hk hz ih => ?_)
    case refine_2 =>
      unfold wX12_letters_b102
      have hb := hcs k hk
      rw [hz.1 17 0 (by decide), am, nI_add len k, cl_nI (by omega), byteM w (by omega) (by omega), nI_1 k]
      refine br_f (nI_ge hk (by omega)) ⟨vp_in_nI (by omega) (by decide), nm_e (ih _ ⟨fun a b h => ?_, fun j => ?_⟩)⟩
      · rw [u3_ne _ _ (by omega)]; exact hz.1 a b h
      · rw [u3_same]
        by_cases e : j = len + k
        · rw [e, pk_us, if_pos (by omega), show len + k - len = k by omega]
        · rw [pk_un e, hz.2 j]
          by_cases e2 : len ≤ j ∧ j < len + k
          · rw [if_pos e2, if_pos (by omega)]
          · rw [if_neg e2, if_neg (by omega)]
    unfold wX12_letters_b102
    refine br_t (nI_le (Nat.le_refl _) (by omega)) ?_
    rw [hz.1 17 0 (by decide), am, nI_add]
    obtain ⟨y, hy⟩ : ∃ x, x = u3 z 17 0 (upd (A 17 0) 13 (nI (len + n))) := ⟨_, rfl⟩
    rw [← hy]
    have y13 : y 17 0 13 = nI (len + n) := by rw [hy, u3_same, pk_us]
    have y17 : ∀ j, ¬ j = 13 → y 17 0 j = A 17 0 j := fun j hj => by rw [hy, u3_same, pk_un hj]
    have y28 : ∀ j, y 28 0 j = if len ≤ j ∧ j < len + n then nI (cdN w (j - len)) else V 28 j := fun j => by rw [hy, u3_ne _ _ (by decide)]; exact hz.2 j
    have yF : ∀ a b, ¬ (a = 17 ∨ a = 28) → y a b = A a b := fun a b h => by rw [hy, u3_ne _ _ (by omega), hz.1 a b (by omega)]
    refine ⟨y13.symm, leV V w len n, nC, len + n, ?_, ?_, ?_⟩
    · obtain ⟨b, c, d⟩ := hV
      refine ⟨⟨b.1, b.2.1, b.2.2.1, h20, b.2.2.2.2⟩, ⟨c.1, c.2.1, c.2.2.1, rfl⟩, d.1, d.2.1, d.2.2.1, fun i hi => ?_, d.2.2.2.2.1, d.2.2.2.2.2⟩
      unfold leV
      rw [if_neg (by omega)]
      by_cases e : len ≤ i
      · rw [if_pos ⟨rfl, e, hi⟩]
        exact ⟨_, (hcs (i - len) (by omega)).1, (hcs (i - len) (by omega)).2, rfl⟩
      · rw [if_neg (by omega)]
        exact d.2.2.2.1 i (by omega)
    · funext a b
      unfold mview leV
      by_cases h17 : a = 17
      · subst h17
        rw [if_neg (show ¬ (17 = 28 ∧ len ≤ b ∧ b < len + n) by omega)]
        by_cases e : b = 13
        · rw [if_pos (by omega), if_pos (by omega), e, y13]
        · rw [if_neg (show ¬ (17 = 17 ∧ b = 13) by omega), y17 b e, ← em]
          rfl
      · rw [if_neg (show ¬ (a = 17 ∧ b = 13) by omega)]
        by_cases h28 : a = 28
        · subst h28
          rw [if_pos (by omega), y28 b]
          by_cases e : len ≤ b ∧ b < len + n
          · rw [if_pos e, if_pos ⟨rfl, e⟩]
          · rw [if_neg e, if_neg (fun h => e h.2)]
        · rw [if_neg (show ¬ (a = 28 ∧ len ≤ b ∧ b < len + n) by omega), yF a 0 (by omega), ← em]
          rfl
    · have hR := hS.2
      have zF : ∀ a b, ¬ (a = 1 ∨ a = 2 ∨ a = 17 ∨ a = 28) → y a b = I a b := fun a b h => by rw [yF a b (by omega), aF a b (by omega)]
      refine ⟨?_, fun r hr => ?_, fun p hp => ?_, fun c hc => ?_, fun i h => ?_⟩
      · rw [zF 0 0 (by omega), yF 1 0 (by omega), a1]
        exact ⟨hR.1.1, hR.1.2.1, hR.1.2.2.1, hR.1.2.2.2.1, rfl⟩
      · rw [zF 43 r (by omega)]; exact hR.2.1 r hr
      · have hpx := hR.2.2.1 p hp
        unfold persX at hpx ⊢
        rw [zF 40 p (by omega), zF 41 p (by omega), zF 42 p (by omega)]; exact hpx
      · rw [zF 5 0 (by omega)]; exact hR.2.2.2.1 c hc
      · rw [yF 2 0 (by omega), a2 i]
        unfold leV
        rw [if_neg (show ¬ (28 = 17 ∧ i = 13) by omega)]
        by_cases e : len ≤ i
        · rw [if_pos ⟨e, h⟩, if_pos ⟨rfl, e, h⟩]
        · rw [if_neg (by omega), if_neg (by omega)]; exact hR.2.2.2.2 i (by omega)
end Letters
