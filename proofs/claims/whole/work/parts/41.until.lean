/-! THE PURE PART: until it stops, until it is stuck -/
theorem j_stopL {g : tG} {fb : Nat → Bool} {k0 : Nat} (hk0 : k0 < 12) (uC : tX0) (uI : tX2) (uM : tX3) : ∀ (n k : Nat) (A : tA) (B : tB) (fuel fuel2 : Nat), iR g fb A B → A.1 + n < 1000000 → A.2.2.2.2.2.2.2.1 k0 = true → k + n = 81 → n < fuel → n + 1 < fuel2 → ∃ (v : Int32) (A' : tA) (B' : tB), p_X4_hoursUntilStop_L32 fuel (iH g) uC (iC fb A) uI uM (nI k0) (nI k) = some (.inr (v, iC fb A')) ∧ iR g fb A' B' ∧ kR B B' ∧ ∀ (kp : Nat → Int32) (sd tw : Int32) (M : tM), ∃ (sd' : Int32), p_X5_untilStop_L8 fuel2 (iL g fb A B kp sd tw M) (nI k0) m1 (nI k) = p_X5_untilStop_J39 (iL g fb A' B' kp sd' tw M) v := by
  intro n
  induction n with
  | zero =>
    intro k A B fuel fuel2 hR hh hc hk h1 h2
    obtain ⟨f, rfl⟩ : ∃ f, fuel = f + 1 := ⟨fuel - 1, by omega⟩
    obtain ⟨f2, rfl⟩ : ∃ f2, fuel2 = f2 + 1 := ⟨fuel2 - 1, by omega⟩
    refine ⟨m1, A, B, ?_, hR, kR_rf B, fun kp sd tw M => ⟨sd, ?_⟩⟩
    · rw [p_X4_hoursUntilStop_L32, L80, if_pos ((nI_ltI (by omega) (by omega)).mpr (by omega)), Lm1]
    · rw [p_X5_untilStop_L8, L80, if_pos ((nI_ltI (by omega) (by omega)).mpr (by omega))]
  | succ n ih =>
    intro k A B fuel fuel2 hR hh hc hk h1 h2
    obtain ⟨f, rfl⟩ : ∃ f, fuel = f + 1 := ⟨fuel - 1, by omega⟩
    obtain ⟨f2, rfl⟩ : ∃ f2, fuel2 = f2 + 1 := ⟨fuel2 - 1, by omega⟩
    obtain ⟨r, A1, B1, sd1, e1, e2, e3, e4, e5, e6⟩ := j_hour hR (by omega)
    have hk1 := kR_p e5
    have hu : (iC fb A1).2.2.2.2.2.2.2.1 = bF A1.2.2.2.2.2.2.2.1 := rfl
    have kC : p_X4_hoursUntilStop_L32 (f + 1) (iH g) uC (iC fb A) uI uM (nI k0) (nI k) = if bI (A1.2.2.2.2.2.2.2.1 k0) = 0 then some (.inr (nI k, iC fb A1)) else p_X4_hoursUntilStop_L32 f (iH g) uC (iC fb A1) uI uM (nI k0) (nI (k + 1)) := by
      rw [p_X4_hoursUntilStop_L32, L80, if_neg (mt (nI_ltI (by omega) (by omega)).mp (by omega)), e1, bd_sm, gd_nI _ (by omega) (by omega), nI_cl (by omega), hu, bF_app, L1, nI_add]
    have kL : ∀ (kp : Nat → Int32) (sd tw : Int32) (M : tM), p_X5_untilStop_L8 (f2 + 1) (iL g fb A B kp sd tw M) (nI k0) m1 (nI k) = if sd1 = nI k0 then p_X5_untilStop_L8 f2 (iL g fb A1 B1 kp sd1 tw M) (nI k0) (nI k) (nI (k + 1)) else p_X5_untilStop_L8 f2 (iL g fb A1 B1 kp sd1 tw M) (nI k0) m1 (nI (k + 1)) := by
      intro kp sd tw M
      rw [p_X5_untilStop_L8, L80, if_neg (mt (nI_ltI (by omega) (by omega)).mp (by omega)), Lm1, if_pos rfl, e2 kp sd tw M, bd_sm, L1, nI_add]
      rfl
    cases hc1 : A1.2.2.2.2.2.2.2.1 k0
    · refine ⟨nI k, A1, B1, ?_, e3, hk1, fun kp sd tw M => ⟨sd1, ?_⟩⟩
      · rw [kC, if_pos (bI_eq hc1)]
      · have hs : sd1 = nI k0 := (e6 k0 hk0).1.mpr ⟨hc, hc1⟩
        rw [kL, if_pos hs]
        obtain ⟨f3, rfl⟩ : ∃ f3, f2 = f3 + 1 := ⟨f2 - 1, by omega⟩
        rw [p_X5_untilStop_L8, L80]
        split
        · rfl
        · rw [Lm1, if_neg (of_eq_false (nI_m1e (by omega)))]
    · obtain ⟨v, A', B', i1, i2, i3, i4⟩ := ih (k + 1) A1 B1 f f2 e3 (by omega) hc1 (by omega) (by omega) (by omega)
      refine ⟨v, A', B', ?_, i2, kR_tr hk1 i3, fun kp sd tw M => ?_⟩
      · rw [kC, if_neg (bI_ne hc1)]; exact i1
      · obtain ⟨sd', j⟩ := i4 kp sd1 tw M
        refine ⟨sd', ?_⟩
        have hs : ¬ sd1 = nI k0 := fun e => by
          have := ((e6 k0 hk0).1.mp e).2
          rw [hc1] at this; cases this
        rw [kL, if_neg hs]; exact j
theorem j_stopN {g : tG} {fb : Nat → Bool} {k0 : Nat} (hk0 : k0 < 12) : ∀ (n k : Nat) (A : tA) (B : tB) (fuel2 : Nat), iR g fb A B → A.1 + n < 1000000 → A.2.2.2.2.2.2.2.1 k0 = false → k + n = 81 → n + 1 < fuel2 → ∃ (A' : tA) (B' : tB), kR B B' ∧ ∀ (kp : Nat → Int32) (sd tw : Int32) (M : tM), ∃ (sd' : Int32), p_X5_untilStop_L8 fuel2 (iL g fb A B kp sd tw M) (nI k0) m1 (nI k) = p_X5_untilStop_J39 (iL g fb A' B' kp sd' tw M) m1 := by
  intro n
  induction n with
  | zero =>
    intro k A B fuel2 hR hh hc hk h2
    obtain ⟨f2, rfl⟩ : ∃ f2, fuel2 = f2 + 1 := ⟨fuel2 - 1, by omega⟩
    refine ⟨A, B, kR_rf B, fun kp sd tw M => ⟨sd, ?_⟩⟩
    rw [p_X5_untilStop_L8, L80, if_pos ((nI_ltI (by omega) (by omega)).mpr (by omega))]
  | succ n ih =>
    intro k A B fuel2 hR hh hc hk h2
    obtain ⟨f2, rfl⟩ : ∃ f2, fuel2 = f2 + 1 := ⟨fuel2 - 1, by omega⟩
    obtain ⟨r, A1, B1, sd1, e1, e2, e3, e4, e5, e6⟩ := j_hour hR (by omega)
    have hk1 := kR_p e5
    have hc1 : A1.2.2.2.2.2.2.2.1 k0 = false := by
      cases hq : A1.2.2.2.2.2.2.2.1 k0
      · rfl
      · have := (e6 k0 hk0).2 hq
        rw [hc] at this; cases this
    have hs : ¬ sd1 = nI k0 := fun e => by
      have := ((e6 k0 hk0).1.mp e).1
      rw [hc] at this; cases this
    obtain ⟨A', B', i3, i4⟩ := ih (k + 1) A1 B1 f2 e3 (by omega) hc1 (by omega) (by omega)
    refine ⟨A', B', kR_tr hk1 i3, fun kp sd tw M => ?_⟩
    obtain ⟨sd', j⟩ := i4 kp sd1 tw M
    refine ⟨sd', ?_⟩
    have hs2 : ¬ (iL g fb A1 B1 kp sd1 tw M).2.2.1 = nI k0 := hs
    rw [p_X5_untilStop_L8, L80, if_neg (mt (nI_ltI (by omega) (by omega)).mp (by omega)), Lm1, if_pos rfl, e2 kp sd tw M, bd_sm, if_neg hs2, L1, nI_add]
    exact j
theorem q_stop {g : tG} {fb : Nat → Bool} {A : tA} {B : tB} {k : Nat} {uT : tX0} (uI : tX2) (uM : tX3) (hR : iR g fb A B) (hh : A.1 < 900000) (hk : k < g.1) (hT : zT uT) : ∃ (v : Int32) (uT' : tX0) (B' : tB), p_X4_hoursUntilStop (iH g) (iC fb A) uT uI uM (nI k) = some (.inr (v, uT')) ∧ zT uT' ∧ eR B B' ∧ ∀ (kp : Nat → Int32) (sd tw : Int32) (M : tM), ∃ (kp' : Nat → Int32) (sd' : Int32), p_X5_untilStop (iL g fb A B kp sd tw M) (nI k) = some (v, iL g fb A B' kp' sd' tw M) := by
  have hg := hR.1.2
  have hu : (iC fb A).2.2.2.2.2.2.2.1 = bF A.2.2.2.2.2.2.2.1 := rfl
  cases hc : A.2.2.2.2.2.2.2.1 k
  · obtain ⟨A', B', i3, i4⟩ := j_stopN (k0 := k) (by omega) 80 1 A B 200 hR (by omega) hc (by omega) (by omega)
    refine ⟨m1, uT, bk B B', ?_, hT, eR_bk i3, fun kp sd tw M => ?_⟩
    · unfold p_X4_hoursUntilStop
      rw [bT_r (c_need hk hg), gd_nI _ (by omega) (by omega), nI_cl (by omega), hu, bF_app, if_pos (bI_eq hc), Lm1]
    · obtain ⟨sd', j⟩ := i4 (va_cpy (iN A B.1) kp 0 0 41) sd tw M
      refine ⟨va_cpy (iN A B.1) kp 0 0 41, sd', ?_⟩
      unfold p_X5_untilStop
      rw [L_keep, bd_sm, Lm1, L1, j]
      unfold p_X5_untilStop_J39
      rw [L_back, bd_sm]
  · obtain ⟨v, A', B', i1, i2, i3, i4⟩ := j_stopL (k0 := k) (by omega) (iC fb A) uI uM 80 1 A B 200 200 hR (by omega) hc (by omega) (by omega) (by omega)
    refine ⟨v, iC fb A', bk B B', ?_, zT_of i2, eR_bk i3, fun kp sd tw M => ?_⟩
    · unfold p_X4_hoursUntilStop
      rw [bT_r (c_need hk hg), gd_nI _ (by omega) (by omega), nI_cl (by omega), hu, bF_app, if_neg (bI_ne hc), c_copy hR hT, bd_sm, L1]
      exact i1
    · obtain ⟨sd', j⟩ := i4 (va_cpy (iN A B.1) kp 0 0 41) sd tw M
      refine ⟨va_cpy (iN A B.1) kp 0 0 41, sd', ?_⟩
      unfold p_X5_untilStop
      rw [L_keep, bd_sm, Lm1, L1, j]
      unfold p_X5_untilStop_J39
      rw [L_back, bd_sm]
theorem j_stuckL {g : tG} {fb : Nat → Bool} (uC : tX0) (uI : tX2) (uM : tX3) : ∀ (n k : Nat) (A : tA) (B : tB) (fuel fuel2 : Nat), iR g fb A B → A.1 + n + 1 < 1000000 → k + n = 80 → n < fuel → n + 1 < fuel2 → ∃ (v : Int32) (A' A2 : tA) (B' B2 : tB) (w : Nat), p_X4_hoursUntilStuck_L13 fuel (iH g) uC (iC fb A) uI uM (nI k) = some (v, iC fb A') ∧ iR g fb A' B' ∧ kR B B2 ∧ w ≤ 81 ∧ v = (if w ≤ 80 then nI w else m1) ∧ ∀ (kp : Nat → Int32) (sd tw : Int32) (M : tM), ∃ (sd' : Int32), p_X5_untilStuck_L6 fuel2 (iL g fb A B kp sd tw M) (nI k) = p_X5_untilStuck_J31 (iL g fb A2 B2 kp sd' tw M) (nI w) := by
  intro n
  induction n with
  | zero =>
    intro k A B fuel fuel2 hR hh hk h1 h2
    obtain ⟨f, rfl⟩ : ∃ f, fuel = f + 1 := ⟨fuel - 1, by omega⟩
    obtain ⟨f2, rfl⟩ : ∃ f2, fuel2 = f2 + 1 := ⟨fuel2 - 1, by omega⟩
    have hst := hR.2.2.2.2.2.2.2.2.2.2.2.1
    have hk8 : k = 80 := by omega
    have q1 : (iC fb A).2.2.2.1 = nI A.2.2.2.1 := rfl
    have q2 : ∀ (kp : Nat → Int32) (sd tw : Int32) (M : tM), (iL g fb A B kp sd tw M).1 3 = nI A.2.2.2.1 := fun kp sd tw M => rfl
    by_cases h0 : A.2.2.2.1 = 0
    · obtain ⟨r, A1, B1, sd1, e1, e2, e3, e4, e5, e6⟩ := j_hour hR (by omega)
      refine ⟨m1, A, A1, B, B1, 81, ?_, hR, kR_p e5, by omega, by rw [if_neg (by omega)], fun kp sd tw M => ⟨sd1, ?_⟩⟩
      · rw [p_X4_hoursUntilStuck_L13, L80, if_pos ((nI_leI (by omega) (by omega)).mpr (by omega)), q1, L0, if_pos ((nI_leI (by omega) (by omega)).mpr (by omega)), Lm1]
      · rw [p_X5_untilStuck_L6, L80, if_neg (mt (nI_ltI (by omega) (by omega)).mp (by omega)), q2, L0, if_pos (by rw [h0]), e2, bd_sm, L1, nI_add]
        obtain ⟨f3, rfl⟩ : ∃ f3, f2 = f3 + 1 := ⟨f2 - 1, by omega⟩
        rw [p_X5_untilStuck_L6, L80, if_pos ((nI_ltI (by omega) (by omega)).mpr (by omega)), hk8]
    · refine ⟨nI 80, A, A, B, B, 80, ?_, hR, kR_rf B, by omega, by rw [if_pos (by omega)], fun kp sd tw M => ⟨sd, ?_⟩⟩
      · rw [p_X4_hoursUntilStuck_L13, L80, if_pos ((nI_leI (by omega) (by omega)).mpr (by omega)), q1, L0, if_neg (mt (nI_leI (by omega) (by omega)).mp (by omega))]
      · rw [p_X5_untilStuck_L6, L80, if_neg (mt (nI_ltI (by omega) (by omega)).mp (by omega)), q2, L0, if_neg (mt (nI_eq (by omega) (by omega)).mp (by omega)), hk8]
  | succ n ih =>
    intro k A B fuel fuel2 hR hh hk h1 h2
    obtain ⟨f, rfl⟩ : ∃ f, fuel = f + 1 := ⟨fuel - 1, by omega⟩
    obtain ⟨f2, rfl⟩ : ∃ f2, fuel2 = f2 + 1 := ⟨fuel2 - 1, by omega⟩
    have hst := hR.2.2.2.2.2.2.2.2.2.2.2.1
    have q1 : (iC fb A).2.2.2.1 = nI A.2.2.2.1 := rfl
    have q2 : ∀ (kp : Nat → Int32) (sd tw : Int32) (M : tM), (iL g fb A B kp sd tw M).1 3 = nI A.2.2.2.1 := fun kp sd tw M => rfl
    by_cases h0 : A.2.2.2.1 = 0
    · obtain ⟨r, A1, B1, sd1, e1, e2, e3, e4, e5, e6⟩ := j_hour hR (by omega)
      obtain ⟨v, A', A2, B', B2, w, i1, i2, i3, i4, i5, i6⟩ := ih (k + 1) A1 B1 f f2 e3 (by omega) (by omega) (by omega) (by omega)
      refine ⟨v, A', A2, B', B2, w, ?_, i2, kR_tr (kR_p e5) i3, i4, i5, fun kp sd tw M => ?_⟩
      · rw [p_X4_hoursUntilStuck_L13, L80, if_neg (mt (nI_leI (by omega) (by omega)).mp (by omega)), q1, L0, if_pos ((nI_leI (by omega) (by omega)).mpr (by omega)), e1, bd_sm, L1, nI_add]
        exact i1
      · obtain ⟨sd', j⟩ := i6 kp sd1 tw M
        refine ⟨sd', ?_⟩
        rw [p_X5_untilStuck_L6, L80, if_neg (mt (nI_ltI (by omega) (by omega)).mp (by omega)), q2, L0, if_pos (by rw [h0]), e2, bd_sm, L1, nI_add]
        exact j
    · refine ⟨nI k, A, A, B, B, k, ?_, hR, kR_rf B, by omega, by rw [if_pos (by omega)], fun kp sd tw M => ⟨sd, ?_⟩⟩
      · rw [p_X4_hoursUntilStuck_L13, L80, if_neg (mt (nI_leI (by omega) (by omega)).mp (by omega)), q1, L0, if_neg (mt (nI_leI (by omega) (by omega)).mp (by omega))]
      · rw [p_X5_untilStuck_L6, L80, if_neg (mt (nI_ltI (by omega) (by omega)).mp (by omega)), q2, L0, if_neg (mt (nI_eq (by omega) (by omega)).mp (by omega))]
theorem q_stuck {g : tG} {fb : Nat → Bool} {A : tA} {B : tB} {uT : tX0} (uI : tX2) (uM : tX3) (hR : iR g fb A B) (hh : A.1 < 900000) (hT : zT uT) : ∃ (v : Int32) (uT' : tX0) (B' : tB), p_X4_hoursUntilStuck (iH g) (iC fb A) uT uI uM = some (v, uT') ∧ zT uT' ∧ eR B B' ∧ ∀ (kp : Nat → Int32) (sd tw : Int32) (M : tM), ∃ (kp' : Nat → Int32) (sd' : Int32), p_X5_untilStuck (iL g fb A B kp sd tw M) = some (v, iL g fb A B' kp' sd' tw M) := by
  obtain ⟨v, A', A2, B', B2, w, i1, i2, i3, i4, i5, i6⟩ := j_stuckL (iC fb A) uI uM 80 0 A B 200 200 hR (by omega) (by omega) (by omega) (by omega)
  refine ⟨v, iC fb A', bk B B2, ?_, zT_of i2, eR_bk i3, fun kp sd tw M => ?_⟩
  · unfold p_X4_hoursUntilStuck
    rw [c_copy hR hT, bd_sm, L0]
    exact i1
  · obtain ⟨sd', j⟩ := i6 (va_cpy (iN A B.1) kp 0 0 41) sd tw M
    refine ⟨va_cpy (iN A B.1) kp 0 0 41, sd', ?_⟩
    unfold p_X5_untilStuck
    rw [L_keep, bd_sm, L0, j]
    unfold p_X5_untilStuck_J31
    rw [L_back, bd_sm, L80, Lm1, i5]
    by_cases hw : w ≤ 80
    · rw [if_pos hw, if_pos ((nI_leI (by omega) (by omega)).mpr hw)]
    · rw [if_neg hw, if_neg (mt (nI_leI (by omega) (by omega)).mp hw)]
