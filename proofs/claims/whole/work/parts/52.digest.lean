/-! digest -/
def foldg (st : Nat → Int64 → Int64) : Nat → Int64 → Int64
  | 0, d => d
  | n + 1, d => st n (foldg st n d)
theorem foldg_s (st : Nat → Int64 → Int64) (n : Nat) (d : Int64) : foldg st (n + 1) d = st n (foldg st n d) := rfl
theorem foldg_id {st : Nat → Int64 → Int64} (h : ∀ n d, st n d = d) : ∀ n d, foldg st n d = d
  | 0, _ => rfl
  | n + 1, d => by rw [foldg_s, h, foldg_id h n d]
def mx (f : Nat → Int32) : Nat → Int64 → Int64 := fun k d => 31 * d + Int32.toInt64 (f k)
def dR (V : MV) (r : Nat) (d : Int64) : Int64 := foldg (mx (fun k => tv V r (nI k))) 5 d
def dP (V : MV) (nC p : Nat) (d : Int64) : Int64 := foldg (mx (fun c => V 22 (6 * p + c))) nC (foldg (mx (fun k => av V p (nI k))) 3 d)
def dC (V : MV) (nP c : Nat) (d : Int64) : Int64 := foldg (mx (fun k => fv V nP c (nI k))) 3 d
def dI1 (V : MV) (nP r c : Nat) (d : Int64) : Int64 := 31 * (31 * d + lowV (inV V r c (2 ^ nP - 1) nP) (t10 (nP + nP)) 0) + lowV (inV V r c (2 ^ nP - 1) nP) (t10 (nP + nP)) 1
def dI (V : MV) (nP nC r : Nat) (d : Int64) : Int64 := foldg (dI1 V nP r) nC d
def cvV (V : MV) (nP nC nR len : Nat) (k : Nat) : Int32 := if k = 0 then nI nP else if k = 1 then nI nC else if k = 2 then nI nR else if k = 3 then nI len else nI (cnt (isMin V nP) nC)
theorem pc_all : ∀ n, n < 9 → pc (2 ^ n - 1) = n := by decide +kernel
theorem lt_p3 : ∀ k, k < 3 → nI k = 0 ∨ nI k = 1 ∨ nI k = 2 := by decide
theorem p_nz : ∀ n, 0 < 2 ^ n := fun n => Nat.pow_pos (by decide)
section Dig
variable {g : GS} {V : MV} {nC len : Nat} {I : MI} {J : MJ}
theorem sX_dRules {d : Int64} {Q : Int64 → MI → MJ → Prop} (hV : VOK g V nC len) (hS : St g V nC len I) (h : Q (foldg (dR V) g.2.2 d) I J) : wX11_digestRules g d I J Q := by
  have hr6 := vok_r hV
  unfold wX11_digestRules
  refine loop_0 (fun n i (s : Int64) => wX11_digestRules_b5 g Q n s (nI i) I J) (fun i s => s = foldg (dR V) i d) g.2.2 d rfl (fun n s hs => ?_) (fun n i s hi hs ih => ?_)
  · unfold wX11_digestRules_b5
    rw [x9 hS, hs]
    exact br_t (nI_le (Nat.le_refl _) (by omega)) h
  · unfold wX11_digestRules_b5
    rw [x9 hS]
    refine br_f (nI_ge hi (by omega)) (loop_0 (fun n2 k (s2 : Int64) => wX11_digestRules_b17 g (fun v3 v5 I J => wX11_digestRules_b5 g Q n v3 v5 I J) Q n2 s2 (nI i) (nI k) I J) (fun k s2 => s2 = foldg (mx (fun k => tv V i (nI k))) k s) 5 s rfl (fun n2 s2 h2 => ?_) (fun n2 k s2 hk h2 ih2 => ?_))
    · unfold wX11_digestRules_b17
      rw [nI_1]
      exact br_t (nI_lt (a := 4) (by decide) (by decide)) (ih _ (by rw [h2, hs]; rfl))
    · unfold wX11_digestRules_b17
      rw [cl_nI (by omega)]
      refine br_f (nI_nlt (b := k) (a := 4) (by omega) (by decide)) ⟨vp_in_nI (by omega) (by decide), br_f' (by omega) (sX_told hS hi ?_)⟩
      unfold wX11_mix
      rw [nI_1]
      exact ih2 _ (by rw [h2]; rfl)
theorem sX_dPeople {d : Int64} {Q : Int64 → MI → MJ → Prop} (hV : VOK g V nC len) (hS : St g V nC len I) (h : Q (foldg (dP V nC) g.2.1 d) I J) : wX11_digestPeople g d I J Q := by
  have hp8 := vok_p hV
  have hc6 := vok_c hV
  unfold wX11_digestPeople
  refine loop_0 (fun n i (s : Int64) => wX11_digestPeople_b5 g Q n s (nI i) I J) (fun i s => s = foldg (dP V nC) i d) g.2.1 d rfl (fun n s hs => ?_) (fun n i s hi hs ih => ?_)
  · unfold wX11_digestPeople_b5
    rw [x10 hS, hs]
    exact br_t (nI_le (Nat.le_refl _) (by omega)) h
  · unfold wX11_digestPeople_b5
    rw [x10 hS]
    refine br_f (nI_ge hi (by omega)) (loop_0 (fun n2 k (s2 : Int64) => wX11_digestPeople_b17 g (fun v3 v5 I J => wX11_digestPeople_b5 g Q n v3 v5 I J) Q n2 s2 (nI i) (nI k) I J) (fun k s2 => s2 = foldg (mx (fun k => av V i (nI k))) k s) 3 s rfl (fun n2 s2 h2 => ?_) (fun n2 k s2 hk h2 ih2 => ?_))
    · unfold wX11_digestPeople_b17
      refine br_t (nI_lt (a := 2) (by decide) (by decide)) (loop_0 (fun n3 c (s3 : Int64) => wX11_digestPeople_b46 g (fun v3 v5 I J => wX11_digestPeople_b5 g Q n v3 v5 I J) Q n3 s3 (nI i) (nI c) I J) (fun c s3 => s3 = foldg (mx (fun c => V 22 (6 * i + c))) c s2) nC s2 rfl (fun n3 s3 h3 => ?_) (fun n3 c s3 hc h3 ih3 => ?_))
      · unfold wX11_digestPeople_b46
        rw [x11 hS, nI_1]
        exact br_t (nI_le (Nat.le_refl _) (by omega)) (ih _ (by rw [h3, h2, hs]; rfl))
      · unfold wX11_digestPeople_b46
        rw [x11 hS, cl_nI (by omega)]
        refine br_f (nI_ge hc (by omega)) ⟨vp_in_nI (by omega) (by decide), br_f' (by omega) (sX_mindsOf hS hi (by omega) ?_)⟩
        unfold wX11_mix
        rw [nI_1]
        exact ih3 _ (by rw [h3]; rfl)
    · unfold wX11_digestPeople_b17
      refine br_f (nI_nlt (b := k) (a := 2) (by omega) (by decide)) (sX_about hV hS hi ?_)
      rw [if_pos (lt_p3 k hk)]
      unfold wX11_mix
      rw [nI_1]
      exact ih2 _ (by rw [h2]; rfl)
theorem sX_dCands {d : Int64} {Q : Int64 → MI → MJ → Prop} (hV : VOK g V nC len) (hS : St g V nC len I) (h : Q (foldg (dC V g.2.1) nC d) I J) : wX11_digestCandidates g d I J Q := by
  have hc6 := vok_c hV
  unfold wX11_digestCandidates
  refine loop_0 (fun n i (s : Int64) => wX11_digestCandidates_b5 g Q n s (nI i) I J) (fun i s => s = foldg (dC V g.2.1) i d) nC d rfl (fun n s hs => ?_) (fun n i s hi hs ih => ?_)
  · unfold wX11_digestCandidates_b5
    rw [x11 hS, hs]
    exact br_t (nI_le (Nat.le_refl _) (by omega)) h
  · unfold wX11_digestCandidates_b5
    rw [x11 hS]
    refine br_f (nI_ge hi (by omega)) (loop_0 (fun n2 k (s2 : Int64) => wX11_digestCandidates_b17 g (fun v3 v5 I J => wX11_digestCandidates_b5 g Q n v3 v5 I J) Q n2 s2 (nI i) (nI k) I J) (fun k s2 => s2 = foldg (mx (fun k => fv V g.2.1 i (nI k))) k s) 3 s rfl (fun n2 s2 h2 => ?_) (fun n2 k s2 hk h2 ih2 => ?_))
    · unfold wX11_digestCandidates_b17
      rw [nI_1]
      exact br_t (nI_lt (a := 2) (by decide) (by decide)) (ih _ (by rw [h2, hs]; rfl))
    · unfold wX11_digestCandidates_b17
      refine br_f (nI_nlt (b := k) (a := 2) (by omega) (by decide)) (sX_friend hV hS hi ?_)
      rw [if_pos (lt_p3 k hk)]
      unfold wX11_mix
      rw [nI_1]
      exact ih2 _ (by rw [h2]; rfl)
theorem sX_dIns {d : Int64} {Q : Int64 → MI → MJ → Prop} (hV : VOK g V nC len) (hS : St g V nC len I) (h : ∀ I1 J1, St g V nC len I1 → Q (foldg (dI V g.2.1 nC) g.2.2 d) I1 J1) : wX11_digestIn g d I J Q := by
  have hc6 := vok_c hV
  have hr6 := vok_r hV
  have hp8 := vok_p hV
  have hpw := pow8 hp8
  have hpz := p_nz g.2.1
  have hall : (1 : Int32) <<< (nI g.2.1 &&& 31) - 1 = nI (2 ^ g.2.1 - 1) := shl_all g.2.1 (by omega)
  unfold wX11_digestIn wX11_everybody
  rw [x10 hS, hall]
  refine sX_squaredTens (by omega) ?_
  rw [pc_all g.2.1 (by omega)]
  refine loop_0 (fun n i (s : Int64 × MI × MJ) => wX11_digestIn_b14 g Q n s.1 (t10 (g.2.1 + g.2.1)) (nI i) s.2.1 s.2.2) (fun i s => s.1 = foldg (dI V g.2.1 nC) i d ∧ St g V nC len s.2.1) g.2.2 (d, I, J) ⟨rfl, hS⟩ (fun n s hs => ?_) (fun n i s hi hs ih => ?_)
  · obtain ⟨e, hS⟩ := hs
    unfold wX11_digestIn_b14
    rw [x9 hS, e]
    exact br_t (nI_le (Nat.le_refl _) (by omega)) (h _ _ hS)
  · obtain ⟨e, hS⟩ := hs
    unfold wX11_digestIn_b14
    rw [x9 hS]
    refine br_f (nI_ge hi (by omega)) (loop_0 (fun n2 c (s2 : Int64 × MI × MJ) => wX11_digestIn_b26 g (fun v3 v5 v7 I J => wX11_digestIn_b14 g Q n v3 v5 v7 I J) Q n2 s2.1 (t10 (g.2.1 + g.2.1)) (nI i) (nI c) s2.2.1 s2.2.2) (fun c s2 => s2.1 = foldg (dI1 V g.2.1 i) c s.1 ∧ St g V nC len s2.2.1) nC s ⟨rfl, hS⟩ (fun n2 s2 h2 => ?_) (fun n2 c s2 hc h2 ih2 => ?_))
    · obtain ⟨e2, hS2⟩ := h2
      unfold wX11_digestIn_b26
      rw [x11 hS2, nI_1]
      exact br_t (nI_le (Nat.le_refl _) (by omega)) (ih s2 ⟨by rw [e2, e]; rfl, hS2⟩)
    · obtain ⟨e2, hS2⟩ := h2
      unfold wX11_digestIn_b26 wX11_everybody
      rw [x11 hS2, x10 hS2, hall, cl_nI (by omega)]
      refine br_f (nI_ge hc (by omega)) ⟨vp_in_nI (by omega) (by decide), br_f' hi (sX_inWays hV hS2 hi hc (by omega) (fun I3 J3 hS3 => ?_))⟩
      refine sX_lowest (t10_ne _ (by omega)) ?_
      unfold wX11_mix
      refine sX_lowest (t10_ne _ (by omega)) ?_
      rw [nI_1]
      exact ih2 (_, I3, J3) ⟨by rw [foldg_s, ← e2]; rfl, hS3⟩
theorem sX_dLetters {d : Int64} {Q : Int64 → MI → MJ → Prop} (hV : VOK g V nC len) (hS : St g V nC len I) (h : Q (foldg (mx (V 28)) len d) I J) : wX4_digestLetters g d I J Q := by
  have hl : len ≤ 20 := hV.1.2.2.2.1
  unfold wX4_digestLetters
  refine loop_0 (fun n i (s : Int64) => wX4_digestLetters_b5 g Q n s (nI i) I J) (fun i s => s = foldg (mx (V 28)) i d) len d rfl (fun n s hs => ?_) (fun n i s hi hs ih => ?_)
  · unfold wX4_digestLetters_b5
    rw [hS.2.1.2.2.2.2, hs]
    exact br_t (nI_le (Nat.le_refl _) (by omega)) h
  · unfold wX4_digestLetters_b5 wX11_mix
    rw [hS.2.1.2.2.2.2, nI_1, cl_nI (by omega), hS.2.2.2.2.2 i hi]
    exact br_f (nI_ge hi (by omega)) ⟨vp_in_nI (by omega) (by decide), ih _ (by rw [hs]; rfl)⟩
theorem five : ∀ k, k < 5 → k = 0 ∨ k = 1 ∨ k = 2 ∨ k = 3 ∨ k = 4 := by decide
theorem sX_cnt {k : Nat} {Q : Int32 → MI → MJ → Prop} (hV : VOK g V nC len) (hS : St g V nC len I) (hk : k < 5) (h : Q (cvV V g.2.1 nC g.2.2 len k) I J) : wX11_count g (nI k) I J Q := by
  unfold wX11_count
  rw [x10 hS, x11 hS, x9 hS, hS.2.1.2.2.2.2]
  rcases five k hk with rfl | rfl | rfl | rfl | rfl
  · exact br_t rfl h
  · exact br_f (by decide) (br_t rfl h)
  · exact br_f (by decide) (br_f (by decide) (br_t rfl h))
  · exact br_f (by decide) (br_f (by decide) (br_f (by decide) (br_t rfl h)))
  · exact br_f (by decide) (br_f (by decide) (br_f (by decide) (br_f (by decide) (br_t rfl (sX_howManyMinded hV hS h)))))
theorem sM_cnt {k : Nat} {Q : Int32 → MI → MJ → Prop} (hV : VOK g V nC len) (hS : St g V nC len I) (hk : k < 5) (h : Q (cvV V g.2.1 nC g.2.2 len k) I J) : wX12_howMany g (nI k) I J Q := by
  unfold wX12_howMany
  rw [m0 hV hS, m4 hV hS, m7 hV hS, m13 hV hS]
  rcases five k hk with rfl | rfl | rfl | rfl | rfl
  · exact br_t rfl h
  · exact br_f (by decide) (br_t rfl h)
  · exact br_f (by decide) (br_f (by decide) (br_t rfl h))
  · exact br_f (by decide) (br_f (by decide) (br_f (by decide) (br_t rfl h)))
  · exact br_f (by decide) (br_f (by decide) (br_f (by decide) (br_f (by decide) (br_t rfl (sM_mindedMany hV hS h)))))
theorem sX_dCounts {d : Int64} {Q : Int64 → MI → MJ → Prop} (hV : VOK g V nC len) (hS : St g V nC len I) (h : Q (foldg (mx (cvV V g.2.1 nC g.2.2 len)) 5 d) I J) : ∃ n, wX11_digest_b39 g Q n d 0 I J := by
  refine loop_0 (fun n i (s : Int64) => wX11_digest_b39 g Q n s (nI i) I J) (fun i s => s = foldg (mx (cvV V g.2.1 nC g.2.2 len)) i d) 5 d rfl (fun n s hs => ?_) (fun n i s hi hs ih => ?_)
  · unfold wX11_digest_b39
    rw [hs]
    exact br_t (nI_lt (a := 4) (by decide) (by decide)) h
  · unfold wX11_digest_b39 wX11_mix
    refine br_f (nI_nlt (b := i) (a := 4) (by omega) (by decide)) (sX_cnt hV hS hi ?_)
    rw [nI_1]
    exact ih _ (by rw [hs]; rfl)
/-- the whole digest -/
def dgV (g : GS) (V : MV) (nC len : Nat) : Int64 := foldg (mx (cvV V g.2.1 nC g.2.2 len)) 5 (foldg (mx (V 28)) len (foldg (dI V g.2.1 nC) g.2.2 (foldg (dC V g.2.1) nC (foldg (dP V nC) g.2.1 (foldg (dR V) g.2.2 487)))))
theorem sX_digest {Q : Int64 → MI → MJ → Prop} (hV : VOK g V nC len) (hS : St g V nC len I) (h : ∀ I1 J1, St g V nC len I1 → Q (dgV g V nC len) I1 J1) : wX11_digest g I J Q := by
  unfold wX11_digest
  exact sX_dRules hV hS (sX_dPeople hV hS (sX_dCands hV hS (sX_dIns hV hS (fun I1 J1 hS1 => sX_dLetters hV hS1 (sX_dCounts hV hS1 (h I1 J1 hS1))))))
theorem sM_mix {x d : Int64} {Q : MI → MJ → Prop} (hJ : J 17 0 36 = d) (h : ∀ J1, J1 17 0 36 = 31 * d + x → Q I J1) : wX12_mix g x I J Q := by
  unfold wX12_mix
  refine h _ ?_
  rw [u3_same, pk_uLs, hJ]
theorem sM_dCounts {d : Int64} {Q : Int64 → MI → MJ → Prop} (hV : VOK g V nC len) (hS : St g V nC len I) (hJ : J 17 0 36 = d) (h : ∀ J1, Q (foldg (mx (cvV V g.2.1 nC g.2.2 len)) 5 d) I J1) : ∃ n, wX12_digest_b199 g Q n 0 I J := by
  refine loop_0 (fun n i (s : MJ) => wX12_digest_b199 g Q n (nI i) I s) (fun i s => s 17 0 36 = foldg (mx (cvV V g.2.1 nC g.2.2 len)) i d) 5 J hJ (fun n s hs => ?_) (fun n i s hi hs ih => ?_)
  · unfold wX12_digest_b199
    rw [hs]
    exact br_t (nI_le (a := 5) (Nat.le_refl _) (by decide)) (h s)
  · unfold wX12_digest_b199
    refine br_f (nI_ge (b := 5) hi (by decide)) (sM_cnt hV hS hi (sM_mix hs (fun J1 hJ1 => ?_)))
    rw [nI_1]
    exact ih _ hJ1
theorem sM_dLetters {d : Int64} {Q : Int64 → MI → MJ → Prop} (hV : VOK g V nC len) (hS : St g V nC len I) (hJ : J 17 0 36 = d) (h : ∀ J1, Q (foldg (mx (cvV V g.2.1 nC g.2.2 len)) 5 (foldg (mx (V 28)) len d)) I J1) : wX12_digest_b170 g Q I J := by
  have hl : len ≤ 20 := hV.1.2.2.2.1
  unfold wX12_digest_b170
  refine loop_0 (fun n i (s : MJ) => wX12_digest_b172 g Q n (nI i) I s) (fun i s => s 17 0 36 = foldg (mx (V 28)) i d) len J hJ (fun n s hs => ?_) (fun n i s hi hs ih => ?_)
  · unfold wX12_digest_b172
    rw [m13 hV hS]
    exact br_t (nI_le (Nat.le_refl _) (by omega)) (sM_dCounts hV hS hs h)
  · unfold wX12_digest_b172
    rw [m13 hV hS, cl_nI (by omega), mv_at hS.1 i (k := 28) (by decide)]
    refine br_f (nI_ge hi (by omega)) ⟨vp_in_nI (by omega) (by decide), sM_mix hs (fun J1 hJ1 => ?_)⟩
    rw [nI_1]
    exact ih _ hJ1
theorem sM_mixIns {d : Int64} {Q : MI → MJ → Prop} (hV : VOK g V nC len) (hS : St g V nC len I) (hJ : J 17 0 36 = d) (h : ∀ J1, J1 17 0 36 = foldg (dI V g.2.1 nC) g.2.2 d → Q I J1) : wX12_mixIns g I J Q := by
  have hc6 := vok_c hV
  have hr6 := vok_r hV
  have hp8 := vok_p hV
  have hpw := pow8 hp8
  have hpz := p_nz g.2.1
  unfold wX12_mixIns
  rw [m0 hV hS, shl_all g.2.1 (by omega)]
  refine loop_0 (fun n i (s : MJ) => wX12_mixIns_b11 g Q n (nI (2 ^ g.2.1 - 1)) (nI i) I s) (fun i s => s 17 0 36 = foldg (dI V g.2.1 nC) i d) g.2.2 J hJ (fun n s hs => ?_) (fun n i s hi hs ih => ?_)
  · unfold wX12_mixIns_b11
    rw [m7 hV hS]
    exact br_t (nI_le (Nat.le_refl _) (by omega)) (h s hs)
  · unfold wX12_mixIns_b11
    rw [m7 hV hS]
    refine br_f (nI_ge hi (by omega)) (loop_0 (fun n2 c (s2 : MJ) => wX12_mixIns_b21 g (fun v1 v2 I J => wX12_mixIns_b11 g Q n v1 v2 I J) Q n2 (nI (2 ^ g.2.1 - 1)) (nI i) (nI c) I s2) (fun c s2 => s2 17 0 36 = foldg (dI1 V g.2.1 i) c (s 17 0 36)) nC s rfl (fun n2 s2 h2 => ?_) (fun n2 c s2 hc h2 ih2 => ?_))
    · unfold wX12_mixIns_b21
      rw [m4 hV hS, nI_1]
      exact br_t (nI_le (Nat.le_refl _) (by omega)) (ih s2 (by rw [h2, hs]; rfl))
    · unfold wX12_mixIns_b21
      rw [m4 hV hS]
      refine br_f (nI_ge hc (by omega)) (sM_inByF hV hS hi hc (by omega) (fun J3 hF => ?_))
      rw [m0 hV hS, two_mul_nI]
      have e3 : J3 17 0 36 = s2 17 0 36 := by rw [hF]
      refine s_tens (by omega) (sM_lowest (t10_ne _ (by omega)) (sM_mix (e3.trans h2) (fun J4 hJ4 => ?_)))
      rw [m0 hV hS, two_mul_nI]
      refine s_tens (by omega) (sM_lowest (t10_ne _ (by omega)) (sM_mix hJ4 (fun J5 hJ5 => ?_)))
      rw [nI_1]
      exact ih2 J5 (by rw [hJ5]; rfl)
theorem sM_dCands {d : Int64} {Q : Int64 → MI → MJ → Prop} (hV : VOK g V nC len) (hS : St g V nC len I) (hJ : J 17 0 36 = d) (h : ∀ J1, Q (foldg (mx (cvV V g.2.1 nC g.2.2 len)) 5 (foldg (mx (V 28)) len (foldg (dI V g.2.1 nC) g.2.2 (foldg (dC V g.2.1) nC d)))) I J1) : ∃ n, wX12_digest_b121 g Q n 0 I J := by
  have hc6 := vok_c hV
  have hp8 := vok_p hV
  refine loop_0 (fun n i (s : MJ) => wX12_digest_b121 g Q n (nI i) I s) (fun i s => s 17 0 36 = foldg (dC V g.2.1) i d) nC J hJ (fun n s hs => ?_) (fun n i s hi hs ih => ?_)
  · unfold wX12_digest_b121
    rw [m4 hV hS, m0 hV hS]
    refine br_t (nI_le (Nat.le_refl _) (by omega)) ?_
    by_cases h0 : g.2.1 = 0
    · refine br_t (by rw [h0]; decide) (sM_dLetters hV hS hs ?_)
      have hz : nC = 0 := by
        have := hV.1.2.2.2.2
        omega
      have e : ∀ x, foldg (dI V g.2.1 nC) g.2.2 x = x := fun x => foldg_id (fun n d => by rw [hz]; rfl) _ x
      rw [e] at h
      exact h
    · exact br_f (nI_nle (by omega) (by omega)) (sM_mixIns hV hS hs (fun J1 hJ1 => sM_dLetters hV hS hJ1 h))
  · unfold wX12_digest_b121
    rw [m4 hV hS]
    refine br_f (nI_ge hi (by omega)) (loop_0 (fun n2 k (s2 : MJ) => wX12_digest_b131 g (fun v1 I J => wX12_digest_b121 g Q n v1 I J) Q n2 (nI i) (nI k) I s2) (fun k s2 => s2 17 0 36 = foldg (mx (fun k => fv V g.2.1 i (nI k))) k (s 17 0 36)) 3 s rfl (fun n2 s2 h2 => ?_) (fun n2 k s2 hk h2 ih2 => ?_))
    · unfold wX12_digest_b131
      rw [nI_1]
      exact br_t (nI_le (a := 3) (Nat.le_refl _) (by decide)) (ih s2 (by rw [h2, hs]; rfl))
    · unfold wX12_digest_b131
      refine br_f (nI_ge (b := 3) hk (by decide)) (sM_candidateNow hV hS hi (sM_mix h2 (fun J1 hJ1 => ?_)))
      rw [nI_1]
      exact ih2 J1 hJ1
theorem sM_dPeople {d : Int64} {Q : Int64 → MI → MJ → Prop} (hV : VOK g V nC len) (hS : St g V nC len I) (hJ : J 17 0 36 = d) (h : ∀ J1, Q (foldg (mx (cvV V g.2.1 nC g.2.2 len)) 5 (foldg (mx (V 28)) len (foldg (dI V g.2.1 nC) g.2.2 (foldg (dC V g.2.1) nC (foldg (dP V nC) g.2.1 d))))) I J1) : ∃ n, wX12_digest_b49 g Q n 0 I J := by
  have hc6 := vok_c hV
  have hp8 := vok_p hV
  refine loop_0 (fun n i (s : MJ) => wX12_digest_b49 g Q n (nI i) I s) (fun i s => s 17 0 36 = foldg (dP V nC) i d) g.2.1 J hJ (fun n s hs => ?_) (fun n i s hi hs ih => ?_)
  · unfold wX12_digest_b49
    rw [m0 hV hS]
    exact br_t (nI_le (Nat.le_refl _) (by omega)) (sM_dCands hV hS hs h)
  · unfold wX12_digest_b49
    rw [m0 hV hS]
    refine br_f (nI_ge hi (by omega)) (loop_0 (fun n2 k (s2 : MJ) => wX12_digest_b59 g (fun v1 I J => wX12_digest_b49 g Q n v1 I J) Q n2 (nI i) (nI k) I s2) (fun k s2 => s2 17 0 36 = foldg (mx (fun k => av V i (nI k))) k (s 17 0 36)) 3 s rfl (fun n2 s2 h2 => ?_) (fun n2 k s2 hk h2 ih2 => ?_))
    · unfold wX12_digest_b59
      refine br_t (nI_le (a := 3) (Nat.le_refl _) (by decide)) (loop_0 (fun n3 c (s3 : MJ) => wX12_digest_b83 g (fun v1 I J => wX12_digest_b49 g Q n v1 I J) Q n3 (nI i) (nI c) I s3) (fun c s3 => s3 17 0 36 = foldg (mx (fun c => V 22 (6 * i + c))) c (s2 17 0 36)) nC s2 rfl (fun n3 s3 h3 => ?_) (fun n3 c s3 hc h3 ih3 => ?_))
      · unfold wX12_digest_b83
        rw [m4 hV hS, nI_1]
        exact br_t (nI_le (Nat.le_refl _) (by omega)) (ih s3 (by rw [h3, h2, hs]; rfl))
      · unfold wX12_digest_b83
        rw [m4 hV hS, ix6, cl_nI (by omega), mv_at hS.1 _ (k := 22) (by decide)]
        refine br_f (nI_ge hc (by omega)) ⟨vp_in_nI (by omega) (by decide), sM_mix h3 (fun J1 hJ1 => ?_)⟩
        rw [nI_1]
        exact ih3 J1 hJ1
    · unfold wX12_digest_b59
      refine br_f (nI_ge (b := 3) hk (by decide)) (sM_memberNow hV hS hi (sM_mix h2 (fun J1 hJ1 => ?_)))
      rw [nI_1]
      exact ih2 J1 hJ1
theorem sM_digest {Q : Int64 → MI → MJ → Prop} (hV : VOK g V nC len) (hS : St g V nC len I) (h : ∀ J1, Q (dgV g V nC len) I J1) : wX12_digest g I J Q := by
  have hr6 := vok_r hV
  unfold wX12_digest
  refine loop_0 (fun n i (s : MJ) => wX12_digest_b9 g Q n (nI i) I s) (fun i s => s 17 0 36 = foldg (dR V) i 487) g.2.2 _ (by rw [u3_same, pk_uLs]; rfl) (fun n s hs => ?_) (fun n i s hi hs ih => ?_)
  · unfold wX12_digest_b9
    rw [m7 hV hS]
    exact br_t (nI_le (Nat.le_refl _) (by omega)) (sM_dPeople hV hS hs h)
  · unfold wX12_digest_b9
    rw [m7 hV hS]
    refine br_f (nI_ge hi (by omega)) (loop_0 (fun n2 k (s2 : MJ) => wX12_digest_b19 g (fun v1 I J => wX12_digest_b9 g Q n v1 I J) Q n2 (nI i) (nI k) I s2) (fun k s2 => s2 17 0 36 = foldg (mx (fun k => tv V i (nI k))) k (s 17 0 36)) 5 s rfl (fun n2 s2 h2 => ?_) (fun n2 k s2 hk h2 ih2 => ?_))
    · unfold wX12_digest_b19
      rw [nI_1]
      exact br_t (nI_le (a := 5) (Nat.le_refl _) (by decide)) (ih s2 (by rw [h2, hs]; rfl))
    · unfold wX12_digest_b19
      refine br_f (nI_ge (b := 5) hk (by decide)) (sM_ruleNow hV hS hi (sM_mix h2 (fun J1 hJ1 => ?_)))
      rw [nI_1]
      exact ih2 J1 hJ1
theorem p_op32 : op32 Inv := by
  rintro g I J ⟨V, nC, len, hV, hS⟩
  exact sX_digest hV hS (fun I1 J1 hS1 => sM_digest hV hS1 (fun J2 => ⟨rfl, hS1.inv hV⟩))
end Dig
