/-! THE PURE PART: what is read -/
def ag1 (X : Option Int32) (Y : Option (Int32 × tX5)) (z0 : tX5) : Prop := ∃ v : Int32, X = some v ∧ Y = some (v, z0)
section
variable {g : tG} {fb : Nat → Bool} {A : tA} {B : tB} {uI : tX2} {kp : Nat → Int32} {sd tw : Int32} {M : tM} {uT : tX0}
theorem a_floors : ag1 (p_X4_floors (iH g) (iC fb A) uT uI (iM M)) (p_X5_floors (iL g fb A B kp sd tw M)) (iL g fb A B kp sd 0 M) := ⟨_, rfl, rfl⟩
theorem a_hours : ag1 (p_X4_hours (iH g) (iC fb A) uT uI (iM M)) (p_X5_hours (iL g fb A B kp sd tw M)) (iL g fb A B kp sd 0 M) := ⟨_, rfl, rfl⟩
theorem a_liftAt : ag1 (p_X4_liftAt (iH g) (iC fb A) uT uI (iM M)) (p_X5_liftAt (iL g fb A B kp sd tw M)) (iL g fb A B kp sd 0 M) := ⟨_, rfl, rfl⟩
theorem a_goes : ag1 (p_X4_goes (iH g) (iC fb A) uT uI (iM M)) (p_X5_goes (iL g fb A B kp sd tw M)) (iL g fb A B kp sd 0 M) := ⟨_, rfl, rfl⟩
theorem a_stuckFor : ag1 (p_X4_stuckFor (iH g) (iC fb A) uT uI (iM M)) (p_X5_stuckFor (iL g fb A B kp sd tw M)) (iL g fb A B kp sd 0 M) := ⟨_, rfl, rfl⟩
theorem a_wear : ag1 (p_X4_wear (iH g) (iC fb A) uT uI (iM M)) (p_X5_wear (iL g fb A B kp sd tw M)) (iL g fb A B kp sd 0 M) := ⟨_, rfl, rfl⟩
theorem a_limit : ag1 (p_X4_limit (iH g) (iC fb A) uT uI (iM M)) (p_X5_limit (iL g fb A B kp sd tw M)) (iL g fb A B kp sd 0 M) := ⟨_, rfl, rfl⟩
theorem a_suspense : ag1 (p_X4_suspense (iH g) (iC fb A) uT uI (iM M)) (p_X5_suspense (iL g fb A B kp sd tw M)) (iL g fb A B kp sd 0 M) := ⟨_, rfl, rfl⟩
theorem a_readers : ag1 (p_X4_readers (iH g) (iC fb A) uT uI (iM M)) (p_X5_readers (iL g fb A B kp sd tw M)) (iL g fb A B kp sd 0 M) := ⟨_, rfl, rfl⟩
theorem a_mirrors : ag1 (p_X4_mirrors (iH g) (iC fb A) uT uI (iM M)) (p_X5_mirrors (iL g fb A B kp sd tw M)) (iL g fb A B kp sd 0 M) := ⟨_, rfl, rfl⟩
theorem a_instalments (hU : uR B uI) : ag1 (p_X4_instalments (iH g) (iC fb A) uT uI (iM M)) (p_X5_instalments (iL g fb A B kp sd tw M)) (iL g fb A B kp sd 0 M) := ⟨nI B.1, by unfold p_X4_instalments; rw [hU.1], rfl⟩
theorem a_calls : ag1 (p_X4_calls (iH g) (iC fb A) uT uI (iM M)) (p_X5_calls (iL g fb A B kp sd tw M)) (iL g fb A B kp sd 0 M) := by
  refine ⟨nI (cnt A.2.2.2.2.2.2.2.1 12), ?_, ?_⟩
  · unfold p_X4_calls iC
    rw [cC_called, bd_sm]
  · unfold p_X5_calls
    rw [show (iL g fb A B kp sd tw M).1 6 = mI A.2.2.2.2.2.2.2.1 12 from rfl, c_ones (by omega), bd_sm]
    rfl
theorem a_subscribers (hR : iR g fb A B) : ag1 (p_X4_subscribers (iH g) (iC fb A) uT uI (iM M)) (p_X5_subscribers (iL g fb A B kp sd tw M)) (iL g fb A B kp sd 0 M) := by
  refine ⟨nI (cnt A.2.2.2.2.2.2.2.2.2.2.2 8), ?_, ?_⟩
  · unfold p_X4_subscribers
    rw [c_subs hR, bd_sm]
  · unfold p_X5_subscribers
    rw [l_subs, bd_sm]
    rfl
theorem a_cuts (hR : iR g fb A B) : ag1 (p_X4_cuts (iH g) (iC fb A) uT uI (iM M)) (p_X5_cuts (iL g fb A B kp sd tw M)) (iL g fb A B kp sd 0 M) := by
  refine ⟨nI (sm A.2.2.2.2.2.2.2.2.2.1 12), ?_, ?_⟩
  · unfold p_X4_cuts
    rw [c_cut hR, bd_sm]
  · unfold p_X5_cuts
    rw [l_cut hR, bd_sm]
    rfl
theorem a_mostThrilling (hR : iR g fb A B) (hU : uR B uI) : ag1 (p_X4_mostThrilling (iH g) (iC fb A) uT uI (iM M)) (p_X5_mostThrilling (iL g fb A B kp sd tw M)) (iL g fb A B kp sd 0 M) := by
  obtain ⟨v, e1, e2⟩ := j_most (g := g) (fb := fb) (A := A) (kp := kp) (sd := sd) (tw := tw) (M := M) hU (R_mnB hR)
  refine ⟨v, ?_, ?_⟩
  · unfold p_X4_mostThrilling
    rw [e1, bd_sm]
  · unfold p_X5_mostThrilling
    rw [e2, bd_sm]
    rfl
theorem a_longestWait (hR : iR g fb A B) (hU : uR B uI) : ag1 (p_X4_longestWait (iH g) (iC fb A) uT uI (iM M)) (p_X5_longestWait (iL g fb A B kp sd tw M)) (iL g fb A B kp sd 0 M) := by
  obtain ⟨v, e1, e2⟩ := j_wait (g := g) (fb := fb) (A := A) (kp := kp) (sd := sd) (tw := tw) (M := M) hU (R_mnB hR)
  refine ⟨v, ?_, ?_⟩
  · unfold p_X4_longestWait
    rw [e1, bd_sm]
  · unfold p_X5_longestWait
    rw [e2, bd_sm]
    rfl
theorem a_climbs (hR : iR g fb A B) (hU : uR B uI) : ag1 (p_X4_climbs (iH g) (iC fb A) uT uI (iM M)) (p_X5_climbs (iL g fb A B kp sd tw M)) (iL g fb A B kp sd 0 M) := by
  obtain ⟨v, e1, e2⟩ := j_climb (g := g) (fb := fb) (A := A) (kp := kp) (sd := sd) (tw := tw) (M := M) hU (R_mnB hR) (fun i hi => (hR.2.2.2.2.2.2.2.2.2.2.2.2.2.2.2.2.2.2.2.2.2.2 i hi).1)
  refine ⟨v, ?_, ?_⟩
  · unfold p_X4_climbs
    rw [e1, bd_sm]
  · unfold p_X5_climbs
    rw [e2, bd_sm]
    rfl
theorem a_warmest (hR : iR g fb A B) : ag1 (p_X4_warmest (iH g) (iC fb A) uT uI (iM M)) (p_X5_warmest (iL g fb A B kp sd tw M)) (iL g fb A B kp sd 0 M) := by
  obtain ⟨v, e1, e2⟩ := j_warm (kp := kp) (sd := sd) (tw := tw) (M := M) hR
  refine ⟨v, ?_, ?_⟩
  · unfold p_X4_warmest
    rw [e1, bd_sm]
  · unfold p_X5_warmest
    rw [e2, bd_sm]
    rfl
theorem a_kindest (hR : iR g fb A B) (hU : uR B uI) (hM : oM4 M) : ag1 (p_X4_kindest (iH g) (iC fb A) uT uI (iM M)) (p_X5_kindest (iL g fb A B kp sd tw M)) (iL g fb A B kp sd 0 M) := by
  obtain ⟨v, e1, e2⟩ := j_kind (kp := kp) (sd := sd) (tw := tw) (uC := iC fb A) (uT := uT) hR hU hM
  refine ⟨v, e1, ?_⟩
  unfold p_X5_kindest
  rw [e2, bd_sm]
  rfl
theorem a_paragraphs (hR : iR g fb A B) (x : Int32) : ag (p_X4_paragraphs (iH g) (iC fb A) uT uI (iM M) x) (p_X5_paragraphs (iL g fb A B kp sd tw M) x) xIOB (iL g fb A B kp sd 0 M) (iL g fb A B kp sd 1 M) := by
  have hg := hR.1.2
  rcases f_arg g hg x with ⟨k, hk, rfl, n2⟩ | ⟨n1, n2⟩
  · refine Or.inl ⟨nI (g.2.2.2.1 k), ?_, ?_⟩
    · unfold p_X4_paragraphs
      rw [bT_r (c_need hk hg), gd_nI _ (by omega) (by omega), nI_cl (by omega)]
      rfl
    · unfold p_X5_paragraphs
      rw [n2 _ (by rfl), bd_sm, if_neg (bI_ne rfl), gd_nI _ (by omega) (by omega), nI_cl (by omega)]
      rfl
  · refine Or.inr ⟨?_, 0, ?_⟩
    · unfold p_X4_paragraphs
      rw [bT_l (n1 _ _ _ _)]
    · unfold p_X5_paragraphs
      rw [n2 _ (by rfl), bd_sm, if_pos (bI_eq rfl)]
      rfl
theorem a_cutOn (hR : iR g fb A B) (x : Int32) : ag (p_X4_cutOn (iH g) (iC fb A) uT uI (iM M) x) (p_X5_cutOn (iL g fb A B kp sd tw M) x) xIOB (iL g fb A B kp sd 0 M) (iL g fb A B kp sd 1 M) := by
  have hg := hR.1.2
  rcases f_arg g hg x with ⟨k, hk, rfl, n2⟩ | ⟨n1, n2⟩
  · refine Or.inl ⟨nI (A.2.2.2.2.2.2.2.2.2.1 k), ?_, ?_⟩
    · unfold p_X4_cutOn
      rw [bT_r (c_need hk hg), gd_nI _ (by omega) (by omega), nI_cl (by omega)]
      rfl
    · unfold p_X5_cutOn
      rw [n2 _ (by rfl), bd_sm, if_neg (bI_ne rfl), L21, nI_add, gd_nI _ (by omega) (by omega), nI_cl (by omega), show (iL g fb A B kp sd tw M).1 (21 + k) = nI (A.2.2.2.2.2.2.2.2.2.1 k) from mkN_c (by omega)]
      rfl
  · refine Or.inr ⟨?_, 0, ?_⟩
    · unfold p_X4_cutOn
      rw [bT_l (n1 _ _ _ _)]
    · unfold p_X5_cutOn
      rw [n2 _ (by rfl), bd_sm, if_pos (bI_eq rfl)]
      rfl
theorem a_isCalled (hR : iR g fb A B) (x : Int32) : ag (p_X4_isCalled (iH g) (iC fb A) uT uI (iM M) x) (p_X5_isCalled (iL g fb A B kp sd tw M) x) xIOB (iL g fb A B kp sd 0 M) (iL g fb A B kp sd 1 M) := by
  have hg := hR.1.2
  rcases f_arg g hg x with ⟨k, hk, rfl, n2⟩ | ⟨n1, n2⟩
  · refine Or.inl ⟨bI (A.2.2.2.2.2.2.2.1 k), ?_, ?_⟩
    · unfold p_X4_isCalled
      rw [bT_r (c_need hk hg), gd_nI _ (by omega) (by omega), nI_cl (by omega)]
      exact gq_bI _ _
    · unfold p_X5_isCalled p_X5_isCalled_J14
      rw [n2 _ (by rfl), bd_sm, if_neg (bI_ne rfl), if_pos rfl, cL_has6 (cl := A.2.2.2.2.2.2.2.1) (by rfl) (by omega), bd_sm]
      cases A.2.2.2.2.2.2.2.1 k
      · rw [if_pos (bI_eq rfl)]; rfl
      · rw [if_neg (bI_ne rfl)]; rfl
  · refine Or.inr ⟨?_, 0, ?_⟩
    · unfold p_X4_isCalled
      rw [bT_l (n1 _ _ _ _)]
    · unfold p_X5_isCalled p_X5_isCalled_J14
      rw [n2 _ (by rfl), bd_sm, if_pos (bI_eq rfl), if_neg (by decide +kernel)]
      rfl
theorem c_next (hR : iR g fb A B) {k : Nat} (hk : k < g.1) : p_X5_next (iL g fb A B kp sd tw M) (nI k) = some (if A.2.2.2.2.2.2.2.2.1 k = g.2.2.2.1 k then m1 else nI (A.2.2.2.2.2.2.2.2.1 k)) := by
  have hg := hR.1.2
  have h4 := hR.2.2.2.1 k
  have h17 := hR.2.2.2.2.2.2.2.2.2.2.2.2.2.2.2.2.1 k
  unfold p_X5_next
  rw [L9, nI_add, gd_nI _ (by omega) (by omega), gd_nI _ (by omega) (by omega), nI_cl (by omega), nI_cl (by omega), show (iL g fb A B kp sd tw M).1 (9 + k) = nI (A.2.2.2.2.2.2.2.2.1 k) from mkN_n (by omega), show (iL g fb A B kp sd tw M).2.2.2.2.2.2.2.1 k = nI (g.2.2.2.1 k) from rfl, Lm1]
  by_cases h : A.2.2.2.2.2.2.2.2.1 k = g.2.2.2.1 k
  · rw [if_pos h, h, if_pos rfl]
  · rw [if_neg h, if_neg (mt (nI_eq (by omega) (by omega)).mp h)]
theorem d_next (hR : iR g fb A B) {k : Nat} (hk : k < g.1) : p_X4_nextParagraph (iH g) (iC fb A) uT uI (iM M) (nI k) = some (.inr (if A.2.2.2.2.2.2.2.2.1 k = g.2.2.2.1 k then m1 else nI (A.2.2.2.2.2.2.2.2.1 k))) := by
  have hg := hR.1.2
  have h4 := hR.2.2.2.1 k
  have h17 := hR.2.2.2.2.2.2.2.2.2.2.2.2.2.2.2.2.1 k
  unfold p_X4_nextParagraph
  rw [bT_r (c_need hk hg), gd_nI _ (by omega) (by omega), nI_cl (by omega), show (iH g).2.2.2.1 k = nI (g.2.2.2.1 k) from rfl, show (iC fb A).2.2.2.2.2.2.2.2.1 k = nI (A.2.2.2.2.2.2.2.2.1 k) from rfl, Lm1]
  by_cases h : A.2.2.2.2.2.2.2.2.1 k = g.2.2.2.1 k
  · rw [if_pos h, h, if_pos ((nI_leI (by omega) (by omega)).mpr (by omega))]
  · rw [if_neg h, if_neg (mt (nI_leI (by omega) (by omega)).mp (by omega))]
theorem a_nextParagraph (hR : iR g fb A B) (x : Int32) : ag (p_X4_nextParagraph (iH g) (iC fb A) uT uI (iM M) x) (p_X5_nextParagraph (iL g fb A B kp sd tw M) x) xIOB (iL g fb A B kp sd 0 M) (iL g fb A B kp sd 1 M) := by
  have hg := hR.1.2
  rcases f_arg g hg x with ⟨k, hk, rfl, n2⟩ | ⟨n1, n2⟩
  · refine Or.inl ⟨_, d_next hR hk, ?_⟩
    unfold p_X5_nextParagraph
    rw [n2 _ (by rfl), bd_sm, if_neg (bI_ne rfl)]
    have e := c_next (kp := kp) (sd := sd) (tw := 0) (M := M) hR hk
    have e2 : ((iL g fb A B kp sd tw M).1, (iL g fb A B kp sd tw M).2.1, (iL g fb A B kp sd tw M).2.2.1, (0 : Int32), (iL g fb A B kp sd tw M).2.2.2.2) = iL g fb A B kp sd 0 M := rfl
    rw [e2, e, bd_sm]
  · refine Or.inr ⟨?_, 0, ?_⟩
    · unfold p_X4_nextParagraph
      rw [bT_l (n1 _ _ _ _)]
    · unfold p_X5_nextParagraph
      rw [n2 _ (by rfl), bd_sm, if_pos (bI_eq rfl)]
      rfl
theorem a_floorIn (hR : iR g fb A B) (hU : uR B uI) (x : Int32) : ag (p_X4_floorIn (iH g) (iC fb A) uT uI (iM M) x) (p_X5_floorIn (iL g fb A B kp sd tw M) x) xIOB (iL g fb A B kp sd 0 M) (iL g fb A B kp sd 1 M) := by
  have hB := R_mnB hR
  rcases i_arg hU hB x with ⟨k, hk, rfl, n1, n2⟩ | ⟨n1, n2⟩
  · have ht := (hR.2.2.2.2.2.2.2.2.2.2.2.2.2.2.2.2.2.2.2.2.2.2 k hk).1
    refine Or.inl ⟨nI (B.2.1 k / 9), ?_, ?_⟩
    · unfold p_X4_floorIn
      rw [bT_r (n1 _ _ _ _), gd_nI _ (by omega) (by omega), nI_cl (by omega), (hU.2 k hk).1]
    · unfold p_X5_floorIn
      rw [n2 _ (by rfl), bd_sm, if_neg (bI_ne rfl), gd_nI _ (by omega) (by omega), nI_cl (by omega), show (iL g fb A B kp sd tw M).2.2.2.2.2.2.2.2.2.2.2.2.2.2.2.1 k = nI (B.2.1 k) from rfl, L9, nI_div (by omega) (by omega)]
      rfl
  · refine Or.inr ⟨?_, 0, ?_⟩
    · unfold p_X4_floorIn
      rw [bT_l (n1 _ _ _ _)]
    · unfold p_X5_floorIn
      rw [n2 _ (by rfl), bd_sm, if_pos (bI_eq rfl)]
      rfl
theorem a_paragraphIn (hR : iR g fb A B) (hU : uR B uI) (x : Int32) : ag (p_X4_paragraphIn (iH g) (iC fb A) uT uI (iM M) x) (p_X5_paragraphIn (iL g fb A B kp sd tw M) x) xIOB (iL g fb A B kp sd 0 M) (iL g fb A B kp sd 1 M) := by
  have hB := R_mnB hR
  rcases i_arg hU hB x with ⟨k, hk, rfl, n1, n2⟩ | ⟨n1, n2⟩
  · have ht := (hR.2.2.2.2.2.2.2.2.2.2.2.2.2.2.2.2.2.2.2.2.2.2 k hk).1
    refine Or.inl ⟨nI (B.2.1 k % 9), ?_, ?_⟩
    · unfold p_X4_paragraphIn
      rw [bT_r (n1 _ _ _ _), gd_nI _ (by omega) (by omega), nI_cl (by omega), (hU.2 k hk).2.1]
    · unfold p_X5_paragraphIn
      rw [n2 _ (by rfl), bd_sm, if_neg (bI_ne rfl), gd_nI _ (by omega) (by omega), nI_cl (by omega), show (iL g fb A B kp sd tw M).2.2.2.2.2.2.2.2.2.2.2.2.2.2.2.1 k = nI (B.2.1 k) from rfl, L9, nI_div (by omega) (by omega), nI_mul, nI_sub (by omega), show B.2.1 k - B.2.1 k / 9 * 9 = B.2.1 k % 9 by omega]
      rfl
  · refine Or.inr ⟨?_, 0, ?_⟩
    · unfold p_X4_paragraphIn
      rw [bT_l (n1 _ _ _ _)]
    · unfold p_X5_paragraphIn
      rw [n2 _ (by rfl), bd_sm, if_pos (bI_eq rfl)]
      rfl
theorem a_thrillIn (hR : iR g fb A B) (hU : uR B uI) (x : Int32) : ag (p_X4_thrillIn (iH g) (iC fb A) uT uI (iM M) x) (p_X5_thrillIn (iL g fb A B kp sd tw M) x) xIOB (iL g fb A B kp sd 0 M) (iL g fb A B kp sd 1 M) := by
  have hB := R_mnB hR
  rcases i_arg hU hB x with ⟨k, hk, rfl, n1, n2⟩ | ⟨n1, n2⟩
  · have ht := (hR.2.2.2.2.2.2.2.2.2.2.2.2.2.2.2.2.2.2.2.2.2.2 k hk).1
    refine Or.inl ⟨B.2.2.1 k, ?_, ?_⟩
    · unfold p_X4_thrillIn
      rw [bT_r (n1 _ _ _ _), gd_nI _ (by omega) (by omega), nI_cl (by omega), (hU.2 k hk).2.2.1]
    · unfold p_X5_thrillIn
      rw [n2 _ (by rfl), bd_sm, if_neg (bI_ne rfl), gd_nI _ (by omega) (by omega), nI_cl (by omega)]
      rfl
  · refine Or.inr ⟨?_, 0, ?_⟩
    · unfold p_X4_thrillIn
      rw [bT_l (n1 _ _ _ _)]
    · unfold p_X5_thrillIn
      rw [n2 _ (by rfl), bd_sm, if_pos (bI_eq rfl)]
      rfl
theorem a_hourIn (hR : iR g fb A B) (hU : uR B uI) (x : Int32) : ag (p_X4_hourIn (iH g) (iC fb A) uT uI (iM M) x) (p_X5_hourIn (iL g fb A B kp sd tw M) x) xIOB (iL g fb A B kp sd 0 M) (iL g fb A B kp sd 1 M) := by
  have hB := R_mnB hR
  rcases i_arg hU hB x with ⟨k, hk, rfl, n1, n2⟩ | ⟨n1, n2⟩
  · have ht := (hR.2.2.2.2.2.2.2.2.2.2.2.2.2.2.2.2.2.2.2.2.2.2 k hk).1
    refine Or.inl ⟨B.2.2.2 k, ?_, ?_⟩
    · unfold p_X4_hourIn
      rw [bT_r (n1 _ _ _ _), gd_nI _ (by omega) (by omega), nI_cl (by omega), (hU.2 k hk).2.2.2]
    · unfold p_X5_hourIn
      rw [n2 _ (by rfl), bd_sm, if_neg (bI_ne rfl), gd_nI _ (by omega) (by omega), nI_cl (by omega)]
      rfl
  · refine Or.inr ⟨?_, 0, ?_⟩
    · unfold p_X4_hourIn
      rw [bT_l (n1 _ _ _ _)]
    · unfold p_X5_hourIn
      rw [n2 _ (by rfl), bd_sm, if_pos (bI_eq rfl)]
      rfl
theorem a_tasteOf (hR : iR g fb A B) (x : Int32) : ag (p_X4_tasteOf (iH g) (iC fb A) uT uI (iM M) x) (p_X5_tasteOf (iL g fb A B kp sd tw M) x) xIOB (iL g fb A B kp sd 0 M) (iL g fb A B kp sd 1 M) := by
  have h8 := hR.2.2.1
  rcases r_arg g h8 x with ⟨k, hk, rfl, n1, n2⟩ | ⟨n1, n2⟩
  · refine Or.inl ⟨nI (g.2.2.2.2.2.2 k), ?_, ?_⟩
    · unfold p_X4_tasteOf
      rw [bT_r (n1 _ _ _ _), gd_nI _ (by omega) (by omega), nI_cl (by omega)]
      rfl
    · unfold p_X5_tasteOf
      rw [n2 _ (by rfl), bd_sm, if_neg (bI_ne rfl), gd_nI _ (by omega) (by omega), nI_cl (by omega)]
      rfl
  · refine Or.inr ⟨?_, 0, ?_⟩
    · unfold p_X4_tasteOf
      rw [bT_l (n1 _ _ _ _)]
    · unfold p_X5_tasteOf
      rw [n2 _ (by rfl), bd_sm, if_pos (bI_eq rfl)]
      rfl
theorem c_warm {k : Nat} (hk : k < 8) : p_X5_warm (iL g fb A B kp sd tw M) (nI k) = some (if A.2.2.2.2.2.2.2.2.2.2.2 k = true then nI (A.2.2.2.2.2.2.2.2.2.2.1 k) else nI 0) := by
  unfold p_X5_warm
  rw [c_reads (g := A.2.2.2.2.2.2.2.2.2.2.2) (by rfl) hk, bd_sm]
  cases A.2.2.2.2.2.2.2.2.2.2.2 k
  · rw [if_pos (bI_eq rfl), L0]; rfl
  · rw [if_neg (bI_ne rfl), L33, nI_add, gd_nI _ (by omega) (by omega), nI_cl (by omega), show (iL g fb A B kp sd tw M).1 (33 + k) = nI (A.2.2.2.2.2.2.2.2.2.2.1 k) from mkN_w (by omega)]; rfl
theorem d_warm (hR : iR g fb A B) {k : Nat} (hk : k < g.2.2.1) (n1 : ∀ (uC uT : tX0) (uI : tX2) (uM : tX3), p_X4_needReader (iH g) uC uT uI uM (nI k) = some (.inr ())) : p_X4_warmthOf (iH g) (iC fb A) uT uI (iM M) (nI k) = some (.inr (if A.2.2.2.2.2.2.2.2.2.2.2 k = true then nI (A.2.2.2.2.2.2.2.2.2.2.1 k) else nI 0)) := by
  have h8 := hR.2.2.1
  unfold p_X4_warmthOf
  rw [bT_r (n1 _ _ _ _), gd_nI _ (by omega) (by omega), nI_cl (by omega), show (iC fb A).2.2.2.2.2.2.2.2.2.2.2.2 k = bI (A.2.2.2.2.2.2.2.2.2.2.2 k) from rfl, L0]
  cases A.2.2.2.2.2.2.2.2.2.2.2 k
  · rw [if_pos (bI_eq0 rfl)]; rfl
  · rw [if_neg (bI_ne0 rfl)]; rfl
theorem a_warmthOf (hR : iR g fb A B) (x : Int32) : ag (p_X4_warmthOf (iH g) (iC fb A) uT uI (iM M) x) (p_X5_warmthOf (iL g fb A B kp sd tw M) x) xIOB (iL g fb A B kp sd 0 M) (iL g fb A B kp sd 1 M) := by
  have h8 := hR.2.2.1
  rcases r_arg g h8 x with ⟨k, hk, rfl, n1, n2⟩ | ⟨n1, n2⟩
  · refine Or.inl ⟨_, d_warm hR hk n1, ?_⟩
    unfold p_X5_warmthOf
    rw [n2 _ (by rfl), bd_sm, if_neg (bI_ne rfl)]
    have e := c_warm (g := g) (fb := fb) (A := A) (B := B) (kp := kp) (sd := sd) (tw := 0) (M := M) (show k < 8 by omega)
    have e2 : ((iL g fb A B kp sd tw M).1, (iL g fb A B kp sd tw M).2.1, (iL g fb A B kp sd tw M).2.2.1, (0 : Int32), (iL g fb A B kp sd tw M).2.2.2.2) = iL g fb A B kp sd 0 M := rfl
    rw [e2, e, bd_sm]
  · refine Or.inr ⟨?_, 0, ?_⟩
    · unfold p_X4_warmthOf
      rw [bT_l (n1 _ _ _ _)]
    · unfold p_X5_warmthOf
      rw [n2 _ (by rfl), bd_sm, if_pos (bI_eq rfl)]
      rfl
theorem a_isSubscriber (hR : iR g fb A B) (x : Int32) : ag (p_X4_isSubscriber (iH g) (iC fb A) uT uI (iM M) x) (p_X5_isSubscriber (iL g fb A B kp sd tw M) x) xIOB (iL g fb A B kp sd 0 M) (iL g fb A B kp sd 1 M) := by
  have h8 := hR.2.2.1
  rcases r_arg g h8 x with ⟨k, hk, rfl, n1, n2⟩ | ⟨n1, n2⟩
  · refine Or.inl ⟨bI (A.2.2.2.2.2.2.2.2.2.2.2 k), ?_, ?_⟩
    · unfold p_X4_isSubscriber
      rw [bT_r (n1 _ _ _ _), gd_nI _ (by omega) (by omega), nI_cl (by omega)]
      exact gq_bI _ _
    · unfold p_X5_isSubscriber p_X5_isSubscriber_J14
      rw [n2 _ (by rfl), bd_sm, if_neg (bI_ne rfl), if_pos rfl, c_reads (g := A.2.2.2.2.2.2.2.2.2.2.2) (by rfl) (by omega), bd_sm]
      cases A.2.2.2.2.2.2.2.2.2.2.2 k
      · rw [if_pos (bI_eq rfl)]; rfl
      · rw [if_neg (bI_ne rfl)]; rfl
  · refine Or.inr ⟨?_, 0, ?_⟩
    · unfold p_X4_isSubscriber
      rw [bT_l (n1 _ _ _ _)]
    · unfold p_X5_isSubscriber p_X5_isSubscriber_J14
      rw [n2 _ (by rfl), bd_sm, if_pos (bI_eq rfl), if_neg (by decide +kernel)]
      rfl
theorem a_gradesBy (hR : iR g fb A B) (hU : uR B uI) (hM : oM4 M) (x : Int32) : ag (p_X4_gradesBy (iH g) (iC fb A) uT uI (iM M) x) (p_X5_gradesBy (iL g fb A B kp sd tw M) x) xIOB (iL g fb A B kp sd 0 M) (iL g fb A B kp sd 1 M) := by
  rcases m_arg M hM.1 x with ⟨k, hk, rfl, n1, n2⟩ | ⟨n1, n2⟩
  · obtain ⟨s, s1, s2, s3⟩ := j_sum (kp := kp) (sd := sd) (tw := 0) (uC := iC fb A) (uT := uT) hR hU hM hk
    refine Or.inl ⟨nI s, ?_, ?_⟩
    · unfold p_X4_gradesBy
      rw [bT_r (n1 _ _ _ _), s2, bd_sm]
    · unfold p_X5_gradesBy
      have e2 : ((iL g fb A B kp sd tw M).1, (iL g fb A B kp sd tw M).2.1, (iL g fb A B kp sd tw M).2.2.1, (0 : Int32), (iL g fb A B kp sd tw M).2.2.2.2) = iL g fb A B kp sd 0 M := rfl
      rw [n2 _ (by rfl), bd_sm, if_neg (bI_ne rfl), e2, s3, bd_sm]
  · refine Or.inr ⟨?_, 0, ?_⟩
    · unfold p_X4_gradesBy
      rw [bT_l (n1 _ _ _ _)]
    · unfold p_X5_gradesBy
      rw [n2 _ (by rfl), bd_sm, if_pos (bI_eq rfl)]
      rfl
theorem a_favouriteOf (hR : iR g fb A B) (hU : uR B uI) (hM : oM4 M) (x : Int32) : ag (p_X4_favouriteOf (iH g) (iC fb A) uT uI (iM M) x) (p_X5_favouriteOf (iL g fb A B kp sd tw M) x) xIOB (iL g fb A B kp sd 0 M) (iL g fb A B kp sd 1 M) := by
  rcases m_arg M hM.1 x with ⟨k, hk, rfl, n1, n2⟩ | ⟨n1, n2⟩
  · obtain ⟨v, s2, s3⟩ := j_fav (kp := kp) (sd := sd) (tw := 0) (uC := iC fb A) (uT := uT) hR hU hM hk
    refine Or.inl ⟨v, s2, ?_⟩
    unfold p_X5_favouriteOf
    have e2 : ((iL g fb A B kp sd tw M).1, (iL g fb A B kp sd tw M).2.1, (iL g fb A B kp sd tw M).2.2.1, (0 : Int32), (iL g fb A B kp sd tw M).2.2.2.2) = iL g fb A B kp sd 0 M := rfl
    rw [n2 _ (by rfl), bd_sm, if_neg (bI_ne rfl), e2, s3, bd_sm]
  · refine Or.inr ⟨?_, 0, ?_⟩
    · unfold p_X4_favouriteOf
      rw [bT_l (n1 _ _ _ _)]
    · unfold p_X5_favouriteOf
      rw [n2 _ (by rfl), bd_sm, if_pos (bI_eq rfl)]
      rfl
theorem a_grade (hR : iR g fb A B) (hU : uR B uI) (hM : oM4 M) (x y : Int32) : ag (p_X4_grade (iH g) (iC fb A) uT uI (iM M) x y) (p_X5_grade (iL g fb A B kp sd tw M) x y) xIOB (iL g fb A B kp sd 0 M) (iL g fb A B kp sd 1 M) := by
  have hB := R_mnB hR
  have e2 : ((iL g fb A B kp sd tw M).1, (iL g fb A B kp sd tw M).2.1, (iL g fb A B kp sd tw M).2.2.1, (0 : Int32), (iL g fb A B kp sd tw M).2.2.2.2) = iL g fb A B kp sd 0 M := rfl
  rcases m_arg M hM.1 x with ⟨k, hk, rfl, n1, n2⟩ | ⟨n1, n2⟩
  · rcases i_arg hU hB y with ⟨j, hj, rfl, n3, n4⟩ | ⟨n3, n4⟩
    · obtain ⟨gr, g1, g2, g3⟩ := j_grade (kp := kp) (sd := sd) (tw := 0) (uC := iC fb A) (uT := uT) hR hU hM hk hj
      refine Or.inl ⟨nI gr, ?_, ?_⟩
      · unfold p_X4_grade
        rw [bT_r (n1 _ _ _ _), bT_r (n3 _ _ _ _), g2, bd_sm]
      · unfold p_X5_grade
        rw [n2 _ (by rfl), bd_sm, if_neg (bI_ne rfl), n4 _ (by rfl), bd_sm, if_neg (bI_ne rfl), e2, g3, bd_sm]
    · refine Or.inr ⟨?_, 0, ?_⟩
      · unfold p_X4_grade
        rw [bT_r (n1 _ _ _ _), bT_l (n3 _ _ _ _)]
      · unfold p_X5_grade p_X5_grade_J30
        rw [n2 _ (by rfl), bd_sm, if_neg (bI_ne rfl), n4 _ (by rfl), bd_sm, if_pos (bI_eq rfl)]
        rfl
  · refine Or.inr ⟨?_, 0, ?_⟩
    · unfold p_X4_grade
      rw [bT_l (n1 _ _ _ _)]
    · unfold p_X5_grade p_X5_grade_J30
      rw [n2 _ (by rfl), bd_sm, if_pos (bI_eq rfl)]
      rfl
theorem a_isForbidden (x : Int32) : ag (p_X4_isForbidden (iH g) (iC fb A) uT uI (iM M) x) (p_X5_isForbidden (iL g fb A B kp sd tw M) x) xIOB (iL g fb A B kp sd 0 M) (iL g fb A B kp sd 1 M) := by
  rcases t_arg x with ⟨k, hk, rfl, n0, n1, n2⟩ | ⟨n0, n1, n2⟩
  · refine Or.inl ⟨bI (fb k), ?_, ?_⟩
    · unfold p_X4_isForbidden
      rw [bT_r n1, gd_nI _ (by omega) (by omega), nI_cl (by omega)]
      exact gq_bI _ _
    · unfold p_X5_isForbidden p_X5_isForbidden_J13
      rw [n2, bd_sm, if_neg (bI_ne rfl), if_pos rfl, show (iL g fb A B kp sd tw M).2.2.2.2.2.2.1 = mI fb 8 from rfl, has8 hk, bd_sm]
      cases fb k
      · rw [if_pos (bI_eq rfl)]; rfl
      · rw [if_neg (bI_ne rfl)]; rfl
  · refine Or.inr ⟨?_, 0, ?_⟩
    · unfold p_X4_isForbidden
      rw [bT_l n1]
    · unfold p_X5_isForbidden p_X5_isForbidden_J13
      rw [n2, bd_sm, if_pos (bI_eq rfl), if_neg (by decide +kernel)]
      rfl
theorem a_topicOf (hR : iR g fb A B) (x y : Int32) : ag (p_X4_topicOf (iH g) (iC fb A) uT uI (iM M) x y) (p_X5_topicOf (iL g fb A B kp sd tw M) x y) xIOB (iL g fb A B kp sd 0 M) (iL g fb A B kp sd 1 M) := by
  have hg := hR.1.2
  rcases f_arg g hg x with ⟨k, hk, rfl, n2⟩ | ⟨n1, n2⟩
  · have h4 := hR.2.2.2.1 k
    rcases n_arg (g.2.2.2.1 k) (by omega) y with ⟨j, hj, rfl, n3⟩ | ⟨n0, n3⟩
    · have hn : p_X4_needParagraph (iH g) (iC fb A) uT uI (iM M) (nI k) (nI j) = some (.inr ()) := by
        unfold p_X4_needParagraph
        rw [bT_r (c_need hk hg), L0, if_neg (mt (nI_ltI (by omega) (by omega)).mp (by omega)), gd_nI _ (by omega) (by omega), nI_cl (by omega), show (iH g).2.2.2.1 k = nI (g.2.2.2.1 k) from rfl, if_pos ((nI_ltI (by omega) (by omega)).mpr hj)]
      refine Or.inl ⟨nI (g.2.2.2.2.1 (9 * k + j)), ?_, ?_⟩
      · unfold p_X4_topicOf p_X1_topicAt
        rw [bT_r hn, L9, nI_mul, nI_add, Nat.mul_comm k 9, gd_nI _ (by omega) (by omega), nI_cl (by omega), bd_sm]
        rfl
      · unfold p_X5_topicOf p_X5_of_5
        rw [n2 _ (by rfl), bd_sm, if_neg (bI_ne rfl), gd_nI _ (by omega) (by omega), nI_cl (by omega), show (iL g fb A B kp sd tw M).2.2.2.2.2.2.2.1 k = nI (g.2.2.2.1 k) from rfl, n3, bd_sm, if_neg (bI_ne rfl), L9, nI_mul, nI_add, gd_nI _ (by omega) (by omega), nI_cl (by omega), bd_sm]
        rfl
    · have hn : p_X4_needParagraph (iH g) (iC fb A) uT uI (iM M) (nI k) y = some (.inl xIOB) := by
        unfold p_X4_needParagraph
        rw [bT_r (c_need hk hg)]
        rcases n0 with n0 | ⟨n0, n4⟩
        · rw [if_pos n0]
        · rw [if_neg n0, gd_nI _ (by omega) (by omega), nI_cl (by omega), show (iH g).2.2.2.1 k = nI (g.2.2.2.1 k) from rfl, if_neg n4]
      refine Or.inr ⟨?_, 0, ?_⟩
      · unfold p_X4_topicOf
        rw [bT_l hn]
      · unfold p_X5_topicOf p_X5_of_5 p_X5_of_5_J40
        rw [n2 _ (by rfl), bd_sm, if_neg (bI_ne rfl), gd_nI _ (by omega) (by omega), nI_cl (by omega), show (iL g fb A B kp sd tw M).2.2.2.2.2.2.2.1 k = nI (g.2.2.2.1 k) from rfl, n3, bd_sm, if_pos (bI_eq rfl)]
        rfl
  · refine Or.inr ⟨?_, 0, ?_⟩
    · unfold p_X4_topicOf p_X4_needParagraph
      rw [bT_l (bT_l (n1 _ _ _ _))]
    · unfold p_X5_topicOf p_X5_of_5 p_X5_of_5_J40
      rw [n2 _ (by rfl), bd_sm, if_pos (bI_eq rfl)]
      rfl
theorem a_thrillOf (hR : iR g fb A B) (x y : Int32) : ag (p_X4_thrillOf (iH g) (iC fb A) uT uI (iM M) x y) (p_X5_thrillOf (iL g fb A B kp sd tw M) x y) xIOB (iL g fb A B kp sd 0 M) (iL g fb A B kp sd 1 M) := by
  have hg := hR.1.2
  rcases f_arg g hg x with ⟨k, hk, rfl, n2⟩ | ⟨n1, n2⟩
  · have h4 := hR.2.2.2.1 k
    rcases n_arg (g.2.2.2.1 k) (by omega) y with ⟨j, hj, rfl, n3⟩ | ⟨n0, n3⟩
    · have hn : p_X4_needParagraph (iH g) (iC fb A) uT uI (iM M) (nI k) (nI j) = some (.inr ()) := by
        unfold p_X4_needParagraph
        rw [bT_r (c_need hk hg), L0, if_neg (mt (nI_ltI (by omega) (by omega)).mp (by omega)), gd_nI _ (by omega) (by omega), nI_cl (by omega), show (iH g).2.2.2.1 k = nI (g.2.2.2.1 k) from rfl, if_pos ((nI_ltI (by omega) (by omega)).mpr hj)]
      refine Or.inl ⟨nI (g.2.2.2.2.2.1 (9 * k + j)), ?_, ?_⟩
      · unfold p_X4_thrillOf p_X1_thrillAt
        rw [bT_r hn, L9, nI_mul, nI_add, Nat.mul_comm k 9, gd_nI _ (by omega) (by omega), nI_cl (by omega), bd_sm]
        rfl
      · unfold p_X5_thrillOf p_X5_of_6
        rw [n2 _ (by rfl), bd_sm, if_neg (bI_ne rfl), gd_nI _ (by omega) (by omega), nI_cl (by omega), show (iL g fb A B kp sd tw M).2.2.2.2.2.2.2.1 k = nI (g.2.2.2.1 k) from rfl, n3, bd_sm, if_neg (bI_ne rfl), L9, nI_mul, nI_add, gd_nI _ (by omega) (by omega), nI_cl (by omega), bd_sm]
        rfl
    · have hn : p_X4_needParagraph (iH g) (iC fb A) uT uI (iM M) (nI k) y = some (.inl xIOB) := by
        unfold p_X4_needParagraph
        rw [bT_r (c_need hk hg)]
        rcases n0 with n0 | ⟨n0, n4⟩
        · rw [if_pos n0]
        · rw [if_neg n0, gd_nI _ (by omega) (by omega), nI_cl (by omega), show (iH g).2.2.2.1 k = nI (g.2.2.2.1 k) from rfl, if_neg n4]
      refine Or.inr ⟨?_, 0, ?_⟩
      · unfold p_X4_thrillOf
        rw [bT_l hn]
      · unfold p_X5_thrillOf p_X5_of_6 p_X5_of_6_J40
        rw [n2 _ (by rfl), bd_sm, if_neg (bI_ne rfl), gd_nI _ (by omega) (by omega), nI_cl (by omega), show (iL g fb A B kp sd tw M).2.2.2.2.2.2.2.1 k = nI (g.2.2.2.1 k) from rfl, n3, bd_sm, if_pos (bI_eq rfl)]
        rfl
  · refine Or.inr ⟨?_, 0, ?_⟩
    · unfold p_X4_thrillOf p_X4_needParagraph
      rw [bT_l (bT_l (n1 _ _ _ _))]
    · unfold p_X5_thrillOf p_X5_of_6 p_X5_of_6_J40
      rw [n2 _ (by rfl), bd_sm, if_pos (bI_eq rfl)]
      rfl
theorem j_comeI {t : Int32} {f : Nat} (hR : iR g fb A B) (hf : f < g.1) (rC : tX0 → tX1 → Int32 → Int32 → Int32 → Option Int32) (rL : tX5 → Int32 → Int32 → Int32 → Option Int32) : ∀ (n k c fuel fuel2 : Nat), g.2.2.2.1 f ≤ k + n ∧ k + n ≤ 300 → n < fuel → n < fuel2 → ∃ c' : Nat, p_X0_countToCome_L23 rC fuel (iC fb A) (iH g) t (nI c) (nI f) (nI k) = rC (iC fb A) (iH g) t (nI c') (nI (f + 1)) ∧ p_X5_comes_L23 rL fuel2 (iL g fb A B kp sd tw M) t (nI c) (nI f) (nI k) = rL (iL g fb A B kp sd tw M) t (nI c') (nI (f + 1)) := by
  have hg := hR.1.2
  have h4 := hR.2.2.2.1 f
  have q1 : (iH g).2.2.2.1 = nF g.2.2.2.1 := rfl
  have q2 : (iL g fb A B kp sd tw M).2.2.2.2.2.2.2.1 = nF g.2.2.2.1 := rfl
  have q3 : (iH g).2.2.2.2.1 = nF g.2.2.2.2.1 := rfl
  have q4 : (iL g fb A B kp sd tw M).2.2.2.2.2.2.2.2.1 = nF g.2.2.2.2.1 := rfl
  intro n
  induction n with
  | zero =>
    intro k c fuel fuel2 hk h1 h2
    obtain ⟨f1, rfl⟩ : ∃ f1, fuel = f1 + 1 := ⟨fuel - 1, by omega⟩
    obtain ⟨f2, rfl⟩ : ∃ f2, fuel2 = f2 + 1 := ⟨fuel2 - 1, by omega⟩
    refine ⟨c, ?_, ?_⟩
    · rw [p_X0_countToCome_L23, q1, gd_nI _ (by omega) (by omega), nI_cl (by omega), nF_app, L_if (by omega) (by omega), L1, nI_add]
    · rw [p_X5_comes_L23, q2, gd_nI _ (by omega) (by omega), nI_cl (by omega), nF_app, L_if (by omega) (by omega), L1, nI_add]
  | succ n ih =>
    intro k c fuel fuel2 hk h1 h2
    obtain ⟨f1, rfl⟩ : ∃ f1, fuel = f1 + 1 := ⟨fuel - 1, by omega⟩
    obtain ⟨f2, rfl⟩ : ∃ f2, fuel2 = f2 + 1 := ⟨fuel2 - 1, by omega⟩
    rw [p_X0_countToCome_L23, p_X5_comes_L23]
    unfold p_X5_comes_J56 p_X1_topicAt
    rw [q1, q2, q3, q4, gd_nI _ (show f < 12 by omega) (by omega), gd_nI _ (show f < 12 by omega) (by omega), nI_cl (show f < 2147483648 by omega), nF_app, L9, L1, L0, nI_mul, nI_mul, nI_add, nI_add, nI_add, nI_add, nI_add, nI_add, Nat.add_zero, Nat.mul_comm f 9]
    by_cases hc : g.2.2.2.1 f ≤ k
    · rw [L_if hc (by omega), L_if hc (by omega)]
      exact ⟨c, rfl, rfl⟩
    · rw [L_ifn hc (by omega), L_ifn hc (by omega), gd_nI _ (show 9 * f + k < 108 by omega) (by omega), gd_nI _ (show 9 * f + k < 108 by omega) (by omega), nI_cl (show 9 * f + k < 2147483648 by omega), bd_sm, nF_app]
      by_cases hx : nI (g.2.2.2.2.1 (9 * f + k)) = t
      · rw [if_pos hx, if_pos hx]; exact ih (k + 1) (c + 1) f1 f2 (by omega) (by omega) (by omega)
      · rw [if_neg hx, if_neg hx]; exact ih (k + 1) c f1 f2 (by omega) (by omega) (by omega)
theorem j_comeO {t : Int32} (hR : iR g fb A B) : ∀ (n f c fuel fuel2 : Nat), g.1 ≤ f + n ∧ f + n ≤ 300 → n < fuel → n < fuel2 → ∃ v : Int32, p_X0_countToCome_L4 fuel (iC fb A) (iH g) t (nI c) (nI f) = some v ∧ p_X5_comes_L4 fuel2 (iL g fb A B kp sd tw M) t (nI c) (nI f) = some v := by
  have hg := hR.1.2
  have q1 : (iH g).1 = nI g.1 := rfl
  have q2 : (iL g fb A B kp sd tw M).2.2.2.2.1 = nI g.1 := rfl
  have q3 : (iC fb A).2.2.2.2.2.2.2.2.1 = nF A.2.2.2.2.2.2.2.2.1 := rfl
  intro n
  induction n with
  | zero =>
    intro f c fuel fuel2 hk h1 h2
    obtain ⟨f1, rfl⟩ : ∃ f1, fuel = f1 + 1 := ⟨fuel - 1, by omega⟩
    obtain ⟨f2, rfl⟩ : ∃ f2, fuel2 = f2 + 1 := ⟨fuel2 - 1, by omega⟩
    refine ⟨nI c, ?_, ?_⟩
    · rw [p_X0_countToCome_L4, q1, L_if (by omega) (by omega)]
    · rw [p_X5_comes_L4, q2, L_if (by omega) (by omega)]
  | succ n ih =>
    intro f c fuel fuel2 hk h1 h2
    obtain ⟨f1, rfl⟩ : ∃ f1, fuel = f1 + 1 := ⟨fuel - 1, by omega⟩
    obtain ⟨f2, rfl⟩ : ∃ f2, fuel2 = f2 + 1 := ⟨fuel2 - 1, by omega⟩
    rw [p_X0_countToCome_L4, p_X5_comes_L4, q1, q2, q3, L9, nI_add]
    by_cases hc : g.1 ≤ f
    · rw [L_if hc (by omega), L_if hc (by omega)]
      exact ⟨nI c, rfl, rfl⟩
    · have h4 := hR.2.2.2.1 f
      have h17 := hR.2.2.2.2.2.2.2.2.2.2.2.2.2.2.2.2.1 f
      rw [L_ifn hc (by omega), L_ifn hc (by omega), gd_nI _ (show f < 12 by omega) (by omega), gd_nI _ (show 9 + f < 41 by omega) (by omega), nI_cl (show f < 2147483648 by omega), nI_cl (show 9 + f < 2147483648 by omega), nF_app, show (iL g fb A B kp sd tw M).1 (9 + f) = nI (A.2.2.2.2.2.2.2.2.1 f) from mkN_n (by omega)]
      obtain ⟨c', e1, e2⟩ := j_comeI (t := t) (kp := kp) (sd := sd) (tw := tw) (M := M) hR (show f < g.1 by omega) (p_X0_countToCome_L4 f1) (p_X5_comes_L4 f2) 9 (A.2.2.2.2.2.2.2.2.1 f) c 200 200 (by omega) (by omega) (by omega)
      rw [e1, e2]
      exact ih (f + 1) c' f1 f2 (by omega) (by omega) (by omega)
theorem j_come {t : Int32} (hR : iR g fb A B) : ∃ v : Int32, p_X0_countToCome (iC fb A) (iH g) t = some v ∧ p_X5_comes (iL g fb A B kp sd tw M) t = some v := by
  have hg := hR.1.2
  unfold p_X0_countToCome p_X5_comes
  rw [L0]
  exact j_comeO hR 12 0 0 200 200 (by omega) (by omega) (by omega)
theorem a_toCome (hR : iR g fb A B) (x : Int32) : ag (p_X4_toCome (iH g) (iC fb A) uT uI (iM M) x) (p_X5_toCome (iL g fb A B kp sd tw M) x) xIOB (iL g fb A B kp sd 0 M) (iL g fb A B kp sd 1 M) := by
  rcases t_arg x with ⟨k, hk, rfl, n0, n1, n2⟩ | ⟨n0, n1, n2⟩
  · obtain ⟨v, e1, e2⟩ := j_come (t := nI k) (kp := kp) (sd := sd) (tw := 0) (M := M) hR
    have e3 : ((iL g fb A B kp sd tw M).1, (iL g fb A B kp sd tw M).2.1, (iL g fb A B kp sd tw M).2.2.1, (0 : Int32), (iL g fb A B kp sd tw M).2.2.2.2) = iL g fb A B kp sd 0 M := rfl
    refine Or.inl ⟨v, ?_, ?_⟩
    · unfold p_X4_toCome
      rw [bT_r n1, e1, bd_sm]
    · unfold p_X5_toCome
      rw [n2, bd_sm, if_neg (bI_ne rfl), e3, e2, bd_sm]
  · refine Or.inr ⟨?_, 0, ?_⟩
    · unfold p_X4_toCome
      rw [bT_l n1]
    · unfold p_X5_toCome
      rw [n2, bd_sm, if_pos (bI_eq rfl)]
      rfl
end
