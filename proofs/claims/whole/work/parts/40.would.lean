/-! THE PURE PART: what would be -/
def uR (B : tB) (uI : tX2) : Prop := uI.1 = nI B.1 ∧ ∀ i : Nat, i < B.1 → uI.2.1 i = nI (B.2.1 i / 9) ∧ uI.2.2.1 i = nI (B.2.1 i % 9) ∧ uI.2.2.2.1 i = B.2.2.1 i ∧ uI.2.2.2.2 i = B.2.2.2 i
def eR (B B' : tB) : Prop := B'.1 = B.1 ∧ ∀ i : Nat, i < B.1 → B'.2.1 i = B.2.1 i ∧ B'.2.2.1 i = B.2.2.1 i ∧ B'.2.2.2 i = B.2.2.2 i
theorem eR_rf (B : tB) : eR B B := ⟨rfl, fun _ _ => ⟨rfl, rfl, rfl⟩⟩
theorem eR_tr {B B' B'' : tB} (h : eR B B') (h' : eR B' B'') : eR B B'' := ⟨h'.1.trans h.1, fun i hi => by
  obtain ⟨a1, a2, a3⟩ := h.2 i hi
  obtain ⟨b1, b2, b3⟩ := h'.2 i (by rw [h.1]; exact hi)
  exact ⟨b1.trans a1, b2.trans a2, b3.trans a3⟩⟩
theorem eR_bk {B B' : tB} (h : kR B B') : eR B (bk B B') := ⟨rfl, h.2⟩
theorem R_e {g : tG} {fb : Nat → Bool} {A : tA} {B B' : tB} (hR : iR g fb A B) (he : eR B B') : iR g fb A B' := by
  have h1 := R_bk (B' := B') hR ⟨Nat.le_of_eq he.1.symm, he.2⟩
  have h2 : bk B B' = B' := by
    obtain ⟨m, r⟩ := B'
    have : m = B.1 := he.1
    subst this
    rfl
  rw [h2] at h1
  exact h1
theorem U_e {B B' : tB} {uI : tX2} (hU : uR B uI) (he : eR B B') : uR B' uI := by
  refine ⟨by rw [he.1]; exact hU.1, fun i hi => ?_⟩
  have hi2 : i < B.1 := by rw [← he.1]; exact hi
  obtain ⟨a1, a2, a3⟩ := he.2 i hi2
  rw [a1, a2, a3]
  exact hU.2 i hi2
theorem c_need {g : tG} {uC uT : tX0} {uI : tX2} {uM : tX3} {f : Nat} (hf : f < g.1) (hg : g.1 ≤ 12) : p_X4_needFloor (iH g) uC uT uI uM (nI f) = some (.inr ()) := by
  unfold p_X4_needFloor iH
  simp (disch := omega) only [↓Lm1, L0, L1, L2, L3, L4, L5, L7, L8, L9, L10, L12, L20, L21, L33, L40, L60, L80, L99, L108, nI_add, nI_mul, gd_nI, nI_cl, nI_lt', nI_le', nI_eq', bd_sm, nF_app, bF_app, bI_n0, nI_m1e, nI_m1e', nI_m1l, nI_m1l', nI_m1t, nI_m1t', if_true, if_false]
  rw [if_neg (by omega), if_pos hf]
theorem c_fore {N : Nat} (h1 : 1 ≤ N) (h2 : N ≤ 40) : p_X4_needForeseeable (nI N) = some (.inr ()) := by
  unfold p_X4_needForeseeable
  simp (disch := omega) only [↓Lm1, L0, L1, L2, L3, L4, L5, L7, L8, L9, L10, L12, L20, L21, L33, L40, L60, L80, L99, L108, nI_add, nI_mul, gd_nI, nI_cl, nI_lt', nI_le', nI_eq', bd_sm, nF_app, bF_app, bI_n0, nI_m1e, nI_m1e', nI_m1l, nI_m1l', nI_m1t, nI_m1t', if_true, if_false]
  rw [if_neg (by omega), if_pos h2]
theorem q_printed {g : tG} {fb : Nat → Bool} {A : tA} {B : tB} {N : Nat} {uT : tX0} (uI : tX2) (uM : tX3) (hR : iR g fb A B) (hh : A.1 < 900000) (h1 : 1 ≤ N) (h2 : N ≤ 40) (hT : zT uT) : ∃ (v : Nat) (uT' : tX0) (B' : tB), p_X4_printedIn (iH g) (iC fb A) uT uI uM (nI N) = some (.inr (nI v, uT')) ∧ zT uT' ∧ eR B B' ∧ ∀ (kp : Nat → Int32) (sd tw : Int32) (M : tM), ∃ (kp' : Nat → Int32) (sd' : Int32), p_X5_then (iL g fb A B kp sd tw M) (nI N) (nI 8) = some (nI (B.1 + v), iL g fb A B' kp' sd' tw M) := by
  obtain ⟨A', B', e1, e2, e3, e4⟩ := j_then (N := N) hR hh (by omega)
  have hle := e3.1
  refine ⟨B'.1 - B.1, iC fb A', bk B B', ?_, zT_of e2, eR_bk e3, fun kp sd tw M => ?_⟩
  · unfold p_X4_printedIn
    rw [bT_r (c_fore h1 h2), c_copy hR hT, bd_sm, e1, bd_sm]
  · obtain ⟨kp', sd', k, -⟩ := e4 kp sd tw M
    exact ⟨kp', sd', by rw [show B.1 + (B'.1 - B.1) = B'.1 by omega]; exact k⟩
theorem q_subs {g : tG} {fb : Nat → Bool} {A : tA} {B : tB} {N : Nat} {uT : tX0} (uI : tX2) (uM : tX3) (hR : iR g fb A B) (hh : A.1 < 900000) (h1 : 1 ≤ N) (h2 : N ≤ 40) (hT : zT uT) : ∃ (v : Int32) (uT' : tX0) (B' : tB), p_X4_subscribersIn (iH g) (iC fb A) uT uI uM (nI N) = some (.inr (v, uT')) ∧ zT uT' ∧ eR B B' ∧ ∀ (kp : Nat → Int32) (sd tw : Int32) (M : tM), ∃ (kp' : Nat → Int32) (sd' : Int32), p_X5_then (iL g fb A B kp sd tw M) (nI N) (nI 7) = some (v, iL g fb A B' kp' sd' tw M) := by
  obtain ⟨A', B', e1, e2, e3, e4⟩ := j_then (N := N) hR hh (by omega)
  refine ⟨nI (cnt A'.2.2.2.2.2.2.2.2.2.2.2 8), iC fb A', bk B B', ?_, zT_of e2, eR_bk e3, fun kp sd tw M => ?_⟩
  · unfold p_X4_subscribersIn
    rw [bT_r (c_fore h1 h2), c_copy hR hT, bd_sm, e1, bd_sm, c_subs e2, bd_sm]
  · obtain ⟨kp', sd', -, k, -⟩ := e4 kp sd tw M
    exact ⟨kp', sd', k⟩
def Acl (A : tA) (c : Nat → Bool) : tA := (A.1, A.2.1, A.2.2.1, A.2.2.2.1, A.2.2.2.2.1, A.2.2.2.2.2.1, A.2.2.2.2.2.2.1, c, A.2.2.2.2.2.2.2.2)
theorem R_call {g : tG} {fb : Nat → Bool} {A : tA} {B : tB} {f : Nat} (hR : iR g fb A B) (hf : f < g.1) : iR g fb (Acl A (ud A.2.2.2.2.2.2.2.1 f true)) B := by
  obtain ⟨⟨h1, h1b⟩, ⟨h2, h2b⟩, h3, h4, h5, h6, h7, h8, h9, h10, h11, h12, h13, h14, h15, h16, h17, h18, h19, h20, h21, h22, h23⟩ := hR
  refine ⟨⟨h1, h1b⟩, ⟨h2, h2b⟩, h3, h4, h5, h6, h7, h8, h9, h10, h11, h12, h13, h14, h15, fun k hk => ?_, h17, h18, h19, h20, h21, h22, h23⟩
  show ud A.2.2.2.2.2.2.2.1 f true k = false
  rw [ud_ne _ _ (by omega)]
  exact h16 k hk
theorem R_allow {g : tG} {fb : Nat → Bool} {A : tA} {B : tB} {t : Nat} (hR : iR g fb A B) : iR g (ud fb t false) A B := by
  obtain ⟨⟨h1, h1b⟩, ⟨h2, h2b⟩, h3, h4, h5, h6, h7, h8, h9, h10, h11, h12, h13, h14, h15, h16, h17, h18, h19, h20, h21, h22, h23⟩ := hR
  refine ⟨⟨h1, h1b⟩, ⟨h2, h2b⟩, h3, h4, h5, h6, h7, h8, fun k hk => ?_, h10, h11, h12, h13, h14, h15, h16, h17, h18, h19, h20, h21, h22, h23⟩
  show ud fb t false k = false
  by_cases h : k = t
  · subst h; exact ud_at _ _ _
  · rw [ud_ne _ _ h]; exact h9 k hk
theorem j_bcL {g : tG} {fb : Nat → Bool} {A : tA} {N : Nat} (uI : tX2) (uM : tX3) (hh : A.1 < 900000) (hN : N ≤ 60) : ∀ (n k : Nat) (b w : Int32) (uT : tX0) (B : tB) (fuel fuel2 : Nat), iR g fb A B → k + n = g.1 → n < fuel → n < fuel2 → zT uT → ∃ (v : Int32) (uT' : tX0) (B' : tB), p_X4_bestToCall_L11 fuel (iH g) (iC fb A) uT uI uM (nI N) b w (nI k) = some (.inr (v, uT')) ∧ zT uT' ∧ eR B B' ∧ ∀ (c : Nat → Bool) (kp : Nat → Int32) (sd tw : Int32) (M : tM), ∃ (kp' : Nat → Int32) (sd' : Int32), p_X5_callBest_L16 fuel2 (iL g fb (Acl A c) B kp sd tw M) (nI N) b w (mI A.2.2.2.2.2.2.2.1 12) (nI k) = some (v, iL g fb A B' kp' sd' tw M) := by
  intro n
  induction n with
  | zero =>
    intro k b w uT B fuel fuel2 hR hf h1 h2 hT
    have hg := hR.1.2
    obtain ⟨f, rfl⟩ : ∃ f, fuel = f + 1 := ⟨fuel - 1, by omega⟩
    obtain ⟨f2, rfl⟩ : ∃ f2, fuel2 = f2 + 1 := ⟨fuel2 - 1, by omega⟩
    refine ⟨b, uT, B, ?_, hT, eR_rf B, fun c kp sd tw M => ⟨kp, sd, ?_⟩⟩
    · rw [p_X4_bestToCall_L11]
      rw [if_pos (show (iH g).1 ≤ nI k from (nI_leI (by omega) (by omega)).mpr (by omega))]
    · rw [p_X5_callBest_L16]
      rw [if_pos (show (iL g fb (Acl A c) B kp sd tw M).2.2.2.2.1 ≤ nI k from (nI_leI (by omega) (by omega)).mpr (by omega))]
      unfold iL iN Acl
      rw [upN_6]
  | succ n ih =>
    intro k b w uT B fuel fuel2 hR hf h1 h2 hT
    have hg := hR.1.2
    obtain ⟨f, rfl⟩ : ∃ f, fuel = f + 1 := ⟨fuel - 1, by omega⟩
    obtain ⟨f2, rfl⟩ : ∃ f2, fuel2 = f2 + 1 := ⟨fuel2 - 1, by omega⟩
    have hRc := R_call (f := k) hR (by omega)
    obtain ⟨A', B1, e1, e2, e3, e4⟩ := j_then (N := N) hRc hh hN
    have hZ := zT_of e2
    generalize hq : nI (sm (fun r => if A'.2.2.2.2.2.2.2.2.2.2.2 r = true then A'.2.2.2.2.2.2.2.2.2.2.1 r else 0) g.2.2.1) = q at e4
    have kC : p_X4_bestToCall_L11 (f + 1) (iH g) (iC fb A) uT uI uM (nI N) b w (nI k) = if q ≤ w then p_X4_bestToCall_L11 f (iH g) (iC fb A) (iC fb A') uI uM (nI N) b w (nI (k + 1)) else p_X4_bestToCall_L11 f (iH g) (iC fb A) (iC fb A') uI uM (nI N) (nI k) q (nI (k + 1)) := by
      rw [p_X4_bestToCall_L11]
      rw [if_neg (show ¬ (iH g).1 ≤ nI k from mt (nI_leI (by omega) (by omega)).mp (by omega)), c_copy hR hT, bd_sm, gd_nI _ (by omega) (by omega), nI_cl (by omega), nar_1]
      have hu : (iC fb A).2.2.2.2.2.2.2.1 = bF A.2.2.2.2.2.2.2.1 := rfl
      rw [hu, upd_bF]
      have hv : ((iC fb A).1, (iC fb A).2.1, (iC fb A).2.2.1, (iC fb A).2.2.2.1, (iC fb A).2.2.2.2.1, (iC fb A).2.2.2.2.2.1, (iC fb A).2.2.2.2.2.2.1, bF (ud A.2.2.2.2.2.2.2.1 k true), (iC fb A).2.2.2.2.2.2.2.2) = iC fb (Acl A (ud A.2.2.2.2.2.2.2.1 k true)) := rfl
      rw [hv, e1, bd_sm, c_warms e2, bd_sm, hq, L1, nI_add]
    have kL : ∀ (c : Nat → Bool) (kp : Nat → Int32) (sd tw : Int32) (M : tM), ∃ (kp' : Nat → Int32) (sd' : Int32), p_X5_callBest_L16 (f2 + 1) (iL g fb (Acl A c) B kp sd tw M) (nI N) b w (mI A.2.2.2.2.2.2.2.1 12) (nI k) = if w < q then p_X5_callBest_L16 f2 (iL g fb (Acl A (ud A.2.2.2.2.2.2.2.1 k true)) (bk B B1) kp' sd' tw M) (nI N) (nI k) q (mI A.2.2.2.2.2.2.2.1 12) (nI (k + 1)) else p_X5_callBest_L16 f2 (iL g fb (Acl A (ud A.2.2.2.2.2.2.2.1 k true)) (bk B B1) kp' sd' tw M) (nI N) b w (mI A.2.2.2.2.2.2.2.1 12) (nI (k + 1)) := by
      intro c kp sd tw M
      obtain ⟨kp', sd', -, -, k33, -⟩ := e4 kp sd tw M
      refine ⟨kp', sd', ?_⟩
      rw [p_X5_callBest_L16]
      rw [if_neg (show ¬ (iL g fb (Acl A c) B kp sd tw M).2.2.2.2.1 ≤ nI k from mt (nI_leI (by omega) (by omega)).mp (by omega)), L1, mI_set1 (by omega) (by omega)]
      have hv : (upd (iL g fb (Acl A c) B kp sd tw M).1 6 (mI (ud A.2.2.2.2.2.2.2.1 k true) 12), (iL g fb (Acl A c) B kp sd tw M).2) = iL g fb (Acl A (ud A.2.2.2.2.2.2.2.1 k true)) B kp sd tw M := by
        unfold iL iN Acl
        rw [upN_6]
      rw [hv, L33, k33, bd_sm, nI_add]
    by_cases hqw : q ≤ w
    · obtain ⟨v, uT', B', i1, i2, i3, i4⟩ := ih (k + 1) b w (iC fb A') (bk B B1) f f2 (R_bk hR e3) (by omega) (by omega) (by omega) hZ
      refine ⟨v, uT', B', ?_, i2, eR_tr (eR_bk e3) i3, fun c kp sd tw M => ?_⟩
      · rw [kC, if_pos hqw]; exact i1
      · obtain ⟨kp1, sd1, j1⟩ := kL c kp sd tw M
        obtain ⟨kp2, sd2, j2⟩ := i4 (ud A.2.2.2.2.2.2.2.1 k true) kp1 sd1 tw M
        exact ⟨kp2, sd2, by rw [j1, if_neg (Int32.not_lt.mpr hqw)]; exact j2⟩
    · obtain ⟨v, uT', B', i1, i2, i3, i4⟩ := ih (k + 1) (nI k) q (iC fb A') (bk B B1) f f2 (R_bk hR e3) (by omega) (by omega) (by omega) hZ
      refine ⟨v, uT', B', ?_, i2, eR_tr (eR_bk e3) i3, fun c kp sd tw M => ?_⟩
      · rw [kC, if_neg hqw]; exact i1
      · obtain ⟨kp1, sd1, j1⟩ := kL c kp sd tw M
        obtain ⟨kp2, sd2, j2⟩ := i4 (ud A.2.2.2.2.2.2.2.1 k true) kp1 sd1 tw M
        exact ⟨kp2, sd2, by rw [j1, if_pos (Int32.not_le.mp hqw)]; exact j2⟩
theorem q_call {g : tG} {fb : Nat → Bool} {A : tA} {B : tB} {N : Nat} {uT : tX0} (uI : tX2) (uM : tX3) (hR : iR g fb A B) (hh : A.1 < 900000) (h1 : 1 ≤ N) (h2 : N ≤ 40) (hT : zT uT) : ∃ (v : Int32) (uT' : tX0) (B' : tB), p_X4_bestToCall (iH g) (iC fb A) uT uI uM (nI N) = some (.inr (v, uT')) ∧ zT uT' ∧ eR B B' ∧ ∀ (kp : Nat → Int32) (sd tw : Int32) (M : tM), ∃ (kp' : Nat → Int32) (sd' : Int32), p_X5_callBest (iL g fb A B kp sd tw M) (nI N) = some (v, iL g fb A B' kp' sd' tw M) := by
  have hg := hR.1.2
  obtain ⟨v, uT', B', i1, i2, i3, i4⟩ := j_bcL uI uM hh (show N ≤ 60 by omega) g.1 0 m1 m1 uT B 200 200 hR (by omega) (by omega) (by omega) hT
  refine ⟨v, uT', B', ?_, i2, i3, fun kp sd tw M => ?_⟩
  · unfold p_X4_bestToCall
    rw [bT_r (c_fore h1 h2), L0, Lm1]
    exact i1
  · obtain ⟨kp', sd', j⟩ := i4 A.2.2.2.2.2.2.2.1 kp sd tw M
    refine ⟨kp', sd', ?_⟩
    unfold p_X5_callBest
    rw [L0, Lm1]
    exact j
theorem j_baL {g : tG} {fb : Nat → Bool} {A : tA} {N : Nat} (uI : tX2) (uM : tX3) (hh : A.1 < 900000) (hN : N ≤ 60) : ∀ (n k : Nat) (b w : Int32) (uT : tX0) (B : tB) (fuel fuel2 : Nat), iR g fb A B → k + n = 8 → n < fuel → n < fuel2 → zT uT → ∃ (v : Int32) (uT' : tX0) (B' : tB), p_X4_bestToAllow_L37 fuel (iH g) (iC fb A) uT uI uM (nI N) b w (nI k) = some (.inr (v, uT')) ∧ zT uT' ∧ eR B B' ∧ ∀ (fx : Nat → Bool) (kp : Nat → Int32) (sd tw : Int32) (M : tM), ∃ (kp' : Nat → Int32) (sd' : Int32), p_X5_allowBest_L19 fuel2 (iL g fx A B kp sd tw M) (nI N) b w (mI fb 8) (nI k) = some (v, iL g fb A B' kp' sd' tw M) := by
  intro n
  induction n with
  | zero =>
    intro k b w uT B fuel fuel2 hR hf h1 h2 hT
    obtain ⟨f, rfl⟩ : ∃ f, fuel = f + 1 := ⟨fuel - 1, by omega⟩
    obtain ⟨f2, rfl⟩ : ∃ f2, fuel2 = f2 + 1 := ⟨fuel2 - 1, by omega⟩
    refine ⟨b, uT, B, ?_, hT, eR_rf B, fun fx kp sd tw M => ⟨kp, sd, ?_⟩⟩
    · rw [p_X4_bestToAllow_L37, L8, if_pos ((nI_leI (by omega) (by omega)).mpr (by omega))]
    · rw [p_X5_allowBest_L19, L8, if_pos ((nI_leI (by omega) (by omega)).mpr (by omega))]
      rfl
  | succ n ih =>
    intro k b w uT B fuel fuel2 hR hf h1 h2 hT
    obtain ⟨f, rfl⟩ : ∃ f, fuel = f + 1 := ⟨fuel - 1, by omega⟩
    obtain ⟨f2, rfl⟩ : ∃ f2, fuel2 = f2 + 1 := ⟨fuel2 - 1, by omega⟩
    have hu : (iC fb A).2.2.2.2.2.2.2.2.2.2.1 = bF fb := rfl
    cases hfb : fb k
    · obtain ⟨v, uT', B', i1, i2, i3, i4⟩ := ih (k + 1) b w uT B f f2 hR (by omega) (by omega) (by omega) hT
      refine ⟨v, uT', B', ?_, i2, i3, fun fx kp sd tw M => ?_⟩
      · rw [p_X4_bestToAllow_L37, L8, if_neg (mt (nI_leI (by omega) (by omega)).mp (by omega)), gd_nI _ (by omega) (by omega), nI_cl (by omega), hu, bF_app, if_pos (bI_eq hfb), L1, nI_add]
        exact i1
      · obtain ⟨kp', sd', j⟩ := i4 fx kp sd tw M
        refine ⟨kp', sd', ?_⟩
        rw [p_X5_allowBest_L19, L8, if_neg (mt (nI_leI (by omega) (by omega)).mp (by omega)), has8 (by omega), bd_sm, if_pos (bI_eq hfb), L1, nI_add]
        exact j
    · have hRc := R_allow (t := k) hR
      obtain ⟨A', B1, e1, e2, e3, e4⟩ := j_then (N := N) hRc hh hN
      have hZ := zT_of e2
      generalize hq : nI (sm A'.2.2.2.2.2.2.2.2.2.1 12) = q at e4
      have kC : p_X4_bestToAllow_L37 (f + 1) (iH g) (iC fb A) uT uI uM (nI N) b w (nI k) = if w ≤ q then p_X4_bestToAllow_L37 f (iH g) (iC fb A) (iC (ud fb k false) A') uI uM (nI N) b w (nI (k + 1)) else p_X4_bestToAllow_L37 f (iH g) (iC fb A) (iC (ud fb k false) A') uI uM (nI N) (nI k) q (nI (k + 1)) := by
        rw [p_X4_bestToAllow_L37, L8, if_neg (mt (nI_leI (by omega) (by omega)).mp (by omega)), gd_nI _ (by omega) (by omega), nI_cl (by omega), hu, bF_app, if_neg (bI_ne hfb), c_copy hR hT, bd_sm, hu, nar_0, upd_bF]
        have hv : ((iC fb A).1, (iC fb A).2.1, (iC fb A).2.2.1, (iC fb A).2.2.2.1, (iC fb A).2.2.2.2.1, (iC fb A).2.2.2.2.2.1, (iC fb A).2.2.2.2.2.2.1, (iC fb A).2.2.2.2.2.2.2.1, (iC fb A).2.2.2.2.2.2.2.2.1, (iC fb A).2.2.2.2.2.2.2.2.2.1, bF (ud fb k false), (iC fb A).2.2.2.2.2.2.2.2.2.2.2) = iC (ud fb k false) A := rfl
        rw [hv, e1, bd_sm, c_cut e2, bd_sm, hq, L1, nI_add]
      have kL : ∀ (fx : Nat → Bool) (kp : Nat → Int32) (sd tw : Int32) (M : tM), ∃ (kp' : Nat → Int32) (sd' : Int32), p_X5_allowBest_L19 (f2 + 1) (iL g fx A B kp sd tw M) (nI N) b w (mI fb 8) (nI k) = if q < w then p_X5_allowBest_L19 f2 (iL g (ud fb k false) A (bk B B1) kp' sd' tw M) (nI N) (nI k) q (mI fb 8) (nI (k + 1)) else p_X5_allowBest_L19 f2 (iL g (ud fb k false) A (bk B B1) kp' sd' tw M) (nI N) b w (mI fb 8) (nI (k + 1)) := by
        intro fx kp sd tw M
        obtain ⟨kp', sd', -, -, -, k21⟩ := e4 kp sd tw M
        refine ⟨kp', sd', ?_⟩
        rw [p_X5_allowBest_L19, L8, if_neg (mt (nI_leI (by omega) (by omega)).mp (by omega)), has8 (by omega), bd_sm, if_neg (bI_ne hfb), Lm1, L1, mI_clr1 (by omega) (by omega)]
        have hv : ((iL g fx A B kp sd tw M).1, (iL g fx A B kp sd tw M).2.1, (iL g fx A B kp sd tw M).2.2.1, (iL g fx A B kp sd tw M).2.2.2.1, (iL g fx A B kp sd tw M).2.2.2.2.1, (iL g fx A B kp sd tw M).2.2.2.2.2.1, mI (ud fb k false) 8, (iL g fx A B kp sd tw M).2.2.2.2.2.2.2) = iL g (ud fb k false) A B kp sd tw M := rfl
        rw [hv, L21, k21, bd_sm, nI_add]
      by_cases hqw : w ≤ q
      · obtain ⟨v, uT', B', i1, i2, i3, i4⟩ := ih (k + 1) b w (iC (ud fb k false) A') (bk B B1) f f2 (R_bk hR e3) (by omega) (by omega) (by omega) hZ
        refine ⟨v, uT', B', ?_, i2, eR_tr (eR_bk e3) i3, fun fx kp sd tw M => ?_⟩
        · rw [kC, if_pos hqw]; exact i1
        · obtain ⟨kp1, sd1, j1⟩ := kL fx kp sd tw M
          obtain ⟨kp2, sd2, j2⟩ := i4 (ud fb k false) kp1 sd1 tw M
          exact ⟨kp2, sd2, by rw [j1, if_neg (Int32.not_lt.mpr hqw)]; exact j2⟩
      · obtain ⟨v, uT', B', i1, i2, i3, i4⟩ := ih (k + 1) (nI k) q (iC (ud fb k false) A') (bk B B1) f f2 (R_bk hR e3) (by omega) (by omega) (by omega) hZ
        refine ⟨v, uT', B', ?_, i2, eR_tr (eR_bk e3) i3, fun fx kp sd tw M => ?_⟩
        · rw [kC, if_neg hqw]; exact i1
        · obtain ⟨kp1, sd1, j1⟩ := kL fx kp sd tw M
          obtain ⟨kp2, sd2, j2⟩ := i4 (ud fb k false) kp1 sd1 tw M
          exact ⟨kp2, sd2, by rw [j1, if_pos (Int32.not_le.mp hqw)]; exact j2⟩
theorem q_allow {g : tG} {fb : Nat → Bool} {A : tA} {B : tB} {N : Nat} {uT : tX0} (uI : tX2) (uM : tX3) (hR : iR g fb A B) (hh : A.1 < 900000) (h1 : 1 ≤ N) (h2 : N ≤ 40) (hT : zT uT) : ∃ (v : Int32) (uT' : tX0) (B' : tB), p_X4_bestToAllow (iH g) (iC fb A) uT uI uM (nI N) = some (.inr (v, uT')) ∧ zT uT' ∧ eR B B' ∧ ∀ (kp : Nat → Int32) (sd tw : Int32) (M : tM), ∃ (kp' : Nat → Int32) (sd' : Int32), p_X5_allowBest (iL g fb A B kp sd tw M) (nI N) = some (v, iL g fb A B' kp' sd' tw M) := by
  obtain ⟨A', B1, e1, e2, e3, e4⟩ := j_then (N := N) hR hh (show N ≤ 60 by omega)
  generalize hq : nI (sm A'.2.2.2.2.2.2.2.2.2.1 12) = q at e4
  obtain ⟨v, uT', B', i1, i2, i3, i4⟩ := j_baL uI uM hh (show N ≤ 60 by omega) 8 0 m1 q (iC fb A') (bk B B1) 200 200 (R_bk hR e3) (by omega) (by omega) (by omega) (zT_of e2)
  refine ⟨v, uT', B', ?_, i2, eR_tr (eR_bk e3) i3, fun kp sd tw M => ?_⟩
  · unfold p_X4_bestToAllow
    rw [bT_r (c_fore h1 h2), c_copy hR hT, bd_sm, e1, bd_sm, c_cut e2, bd_sm, hq, L0, Lm1]
    exact i1
  · obtain ⟨kp1, sd1, -, -, -, k21⟩ := e4 kp sd tw M
    obtain ⟨kp', sd', j⟩ := i4 fb kp1 sd1 tw M
    refine ⟨kp', sd', ?_⟩
    unfold p_X5_allowBest
    rw [L21, k21, bd_sm, L0, Lm1]
    exact j
