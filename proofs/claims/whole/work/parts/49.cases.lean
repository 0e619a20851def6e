/-! THE PURE PART: the law's cases -/
def wS (n : Nat) (uL : tX5) (uH : tX1) (uC uT : tX0) (uI : tX2) (uM : tX3) : Prop := ∃ (g : tG) (fb : Nat → Bool) (A : tA) (B : tB) (kp : Nat → Int32) (sd tw : Int32) (M : tM), uL = iL g fb A B kp sd tw M ∧ uH = iH g ∧ uC = iC fb A ∧ uM = iM M ∧ iR g fb A B ∧ uR B uI ∧ zT uT ∧ oM4 M ∧ A.1 ≤ n
theorem wS_mk {n : Nat} {g : tG} {fb : Nat → Bool} {A : tA} {B : tB} (kp : Nat → Int32) (sd tw : Int32) {M : tM} {uT : tX0} {uI : tX2} (hR : iR g fb A B) (hU : uR B uI) (hT : zT uT) (hM : oM4 M) (hn : A.1 ≤ n) : wS n (iL g fb A B kp sd tw M) (iH g) (iC fb A) uT uI (iM M) := ⟨g, fb, A, B, kp, sd, tw, M, rfl, rfl, rfl, rfl, hR, hU, hT, hM, hn⟩
def wZ (n : Nat) (z : tX5 × tX1 × tX0 × tX0 × tX2 × tX3 × (Nat → Int64)) : Prop := wS n z.1 z.2.1 z.2.2.1 z.2.2.2.1 z.2.2.2.2.1 z.2.2.2.2.2.1
theorem cmp_self (x : Int64) : lg_cmp x x = 0 := by
  unfold lg_cmp
  have h : ¬ x > x := fun h => absurd (Int64.lt_iff_toInt_lt.mp h) (by omega)
  rw [if_neg h, if_pos rfl]
theorem one0 : ¬ (1 : Int32) = 0 := by decide +kernel
theorem two0 : ¬ (2 : Int32) = 0 := by decide +kernel
theorem three0 : ¬ (3 : Int32) = 0 := by decide +kernel
theorem upL_0 (fO : Nat → Int64) (x : Int64) : vp_updL fO 0 x 0 = x := rfl
theorem thr_il (g : tG) (fb : Nat → Bool) (A : tA) (B : tB) (kp : Nat → Int32) (sd tw : Int32) (M : tM) : p_X5_thrown (iL g fb A B kp sd tw M) = some tw := rfl
theorem bK_1 {α : Type} {x y : Option α} (E : String) : (if E = E then x else y) = x := if_pos rfl
theorem P1 {X : Option Int32} {Y : Option (Int32 × tX5)} {z0 : tX5} (uH : tX1) (uC uT : tX0) (uI : tX2) (uM : tX3) (fO : Nat → Int64) (ha : ag1 X Y z0) : bd X (fun v1 => bd Y (fun v2 => if v1 = v2.1 then some (v2.2, uH, uC, uT, uI, uM, fO) else none)) = some (z0, uH, uC, uT, uI, uM, fO) := by
  obtain ⟨v, e1, e2⟩ := ha
  rw [e1, bd_sm, e2, bd_sm, if_pos rfl]
theorem P2 {X : Option (String ⊕ Int32)} {Y : Option (Int32 × tX5)} {E0 : String} {z0 z1 : tX5} (uH : tX1) (uC uT : tX0) (uI : tX2) (uM : tX3) (fO : Nat → Int64) (ha : ag X Y E0 z0 z1) (t0 : p_X5_thrown z0 = some 0) (t1 : p_X5_thrown z1 = some 1) : ∃ (zz : tX5) (fO' : Nat → Int64), (zz = z0 ∨ zz = z1) ∧ bd (bC X (fun v => some ((0 : Int32), vp_updL fO 0 v.toInt64)) (fun E => if E = E0 then some ((1 : Int32), fO) else none)) (fun v2 => bd Y (fun v3 => bd (p_X5_thrown v3.2) (fun v4 => if v4 = v2.1 then (if v2.1 = 0 then (if (lg_cmp (v2.2 0) v3.1.toInt64) = 0 then some (v3.2, uH, uC, uT, uI, uM, v2.2) else none) else some (v3.2, uH, uC, uT, uI, uM, v2.2)) else none))) = some (zz, uH, uC, uT, uI, uM, fO') := by
  rcases ha with ⟨v, e1, e2⟩ | ⟨e1, v, e2⟩
  · refine ⟨z0, vp_updL fO 0 v.toInt64, Or.inl rfl, ?_⟩
    rw [bC_r e1, bd_sm, e2, bd_sm, t0, bd_sm, if_pos rfl, if_pos rfl]
    exact if_pos (cmp_self _)
  · refine ⟨z1, fO, Or.inr rfl, ?_⟩
    rw [bC_l e1, bK_1, bd_sm, e2, bd_sm, t1, bd_sm, if_pos rfl, if_neg one0]
theorem P3 {X : Option (String ⊕ Int32)} {Y : Option (Int32 × tX5)} {E0 : String} {z0 z1 : tX5} (uH : tX1) (uC uT : tX0) (uI : tX2) (uM : tX3) (fO : Nat → Int64) (ha : ag X Y E0 z0 z1) (t0 : p_X5_thrown z0 = some 0) (t1 : p_X5_thrown z1 = some 1) : ∃ (zz : tX5) (fO' : Nat → Int64), (zz = z0 ∨ zz = z1) ∧ bd (bC X (fun v => if v = 0 then some ((0 : Int32), vp_updL fO 0 (0 : Int64)) else some ((0 : Int32), vp_updL fO 0 (1 : Int64))) (fun E => if E = E0 then some ((1 : Int32), fO) else none)) (fun v2 => bd Y (fun v3 => bd (p_X5_thrown v3.2) (fun v4 => if v4 = v2.1 then (if v2.1 = 0 then (if v3.1 = 0 then (if (lg_cmp (v2.2 0) (0 : Int64)) = 0 then some (v3.2, uH, uC, uT, uI, uM, v2.2) else none) else (if (lg_cmp (v2.2 0) (1 : Int64)) = 0 then some (v3.2, uH, uC, uT, uI, uM, v2.2) else none)) else some (v3.2, uH, uC, uT, uI, uM, v2.2)) else none))) = some (zz, uH, uC, uT, uI, uM, fO') := by
  rcases ha with ⟨v, e1, e2⟩ | ⟨e1, v, e2⟩
  · by_cases hv : v = 0
    · refine ⟨z0, vp_updL fO 0 (0 : Int64), Or.inl rfl, ?_⟩
      rw [bC_r e1, if_pos hv, bd_sm, e2, bd_sm, t0, bd_sm, if_pos rfl, if_pos rfl, if_pos hv]
      exact if_pos (cmp_self _)
    · refine ⟨z0, vp_updL fO 0 (1 : Int64), Or.inl rfl, ?_⟩
      rw [bC_r e1, if_neg hv, bd_sm, e2, bd_sm, t0, bd_sm, if_pos rfl, if_pos rfl, if_neg hv]
      exact if_pos (cmp_self _)
  · refine ⟨z1, fO, Or.inr rfl, ?_⟩
    rw [bC_l e1, bK_1, bd_sm, e2, bd_sm, t1, bd_sm, if_pos rfl, if_neg one0]
theorem P4 {g : tG} {fb : Nat → Bool} {A : tA} {B : tB} {M : tM} {kp : Nat → Int32} {sd : Int32} {X : Option (String ⊕ (Int32 × tX0))} {Y : Option (Int32 × tX5)} {E0 : String} (uH : tX1) (uC uT : tX0) (uI : tX2) (uM : tX3) (fO : Nat → Int64) (ha : agL g fb A B M X Y E0 (iL g fb A B kp sd 1 M)) (hT : zT uT) : ∃ (B' : tB) (kp' : Nat → Int32) (sd' tw' : Int32) (uT' : tX0) (fO' : Nat → Int64), zT uT' ∧ eR B B' ∧ bd (bC X (fun v => some ((0 : Int32), v.2, vp_updL fO 0 v.1.toInt64)) (fun E => if E = E0 then some ((1 : Int32), uT, fO) else none)) (fun v2 => bd Y (fun v3 => bd (p_X5_thrown v3.2) (fun v4 => if v4 = v2.1 then (if v2.1 = 0 then (if (lg_cmp (v2.2.2 0) v3.1.toInt64) = 0 then some (v3.2, uH, uC, v2.2.1, uI, uM, v2.2.2) else none) else some (v3.2, uH, uC, v2.2.1, uI, uM, v2.2.2)) else none))) = some (iL g fb A B' kp' sd' tw' M, uH, uC, uT', uI, uM, fO') := by
  rcases ha with ⟨v, uT', B', kp', sd', e1, e2, e3, e4⟩ | ⟨e1, v, e2⟩
  · refine ⟨B', kp', sd', 0, uT', vp_updL fO 0 v.toInt64, e3, e4, ?_⟩
    rw [bC_r e1, bd_sm, e2, bd_sm, thr_il, bd_sm, if_pos rfl, if_pos rfl]
    exact if_pos (cmp_self _)
  · refine ⟨B, kp, sd, 1, uT, fO, hT, eR_rf B, ?_⟩
    rw [bC_l e1, bK_1, bd_sm, e2, bd_sm, thr_il, bd_sm, if_pos rfl, if_neg one0]
section
variable {xs : Nat → Int32} {Lc : Nat} {i : Int32} {uL : tX5} {uH : tX1} {uC uT : tX0} {uI : tX2} {uM : tX3} {fO : Nat → Int64} {n : Nat}
theorem C_9 (h : wS n uL uH uC uT uI uM) (hn : n < 800000) (v1 : vp_in (i + 1) Lc) (v2 : vp_in (i + 2) Lc) (v3 : vp_in (i + 3) Lc) : ∃ z, p_L_C9 xs Lc i uL uH uC uT uI uM fO = some z ∧ wZ (n + 60) z := by
  obtain ⟨g, fb, A, B, kp, sd, tw, M, rfl, rfl, rfl, rfl, hR, hU, hT, hM, hA⟩ := h
  exact ⟨_, P1 _ _ _ _ _ _ (a_floors), wS_mk kp sd 0 hR hU hT hM (by omega)⟩
theorem C_10 (h : wS n uL uH uC uT uI uM) (hn : n < 800000) (v1 : vp_in (i + 1) Lc) (v2 : vp_in (i + 2) Lc) (v3 : vp_in (i + 3) Lc) : ∃ z, p_L_C10 xs Lc i uL uH uC uT uI uM fO = some z ∧ wZ (n + 60) z := by
  obtain ⟨g, fb, A, B, kp, sd, tw, M, rfl, rfl, rfl, rfl, hR, hU, hT, hM, hA⟩ := h
  exact ⟨_, P1 _ _ _ _ _ _ (a_hours), wS_mk kp sd 0 hR hU hT hM (by omega)⟩
theorem C_11 (h : wS n uL uH uC uT uI uM) (hn : n < 800000) (v1 : vp_in (i + 1) Lc) (v2 : vp_in (i + 2) Lc) (v3 : vp_in (i + 3) Lc) : ∃ z, p_L_C11 xs Lc i uL uH uC uT uI uM fO = some z ∧ wZ (n + 60) z := by
  obtain ⟨g, fb, A, B, kp, sd, tw, M, rfl, rfl, rfl, rfl, hR, hU, hT, hM, hA⟩ := h
  exact ⟨_, P1 _ _ _ _ _ _ (a_liftAt), wS_mk kp sd 0 hR hU hT hM (by omega)⟩
theorem C_12 (h : wS n uL uH uC uT uI uM) (hn : n < 800000) (v1 : vp_in (i + 1) Lc) (v2 : vp_in (i + 2) Lc) (v3 : vp_in (i + 3) Lc) : ∃ z, p_L_C12 xs Lc i uL uH uC uT uI uM fO = some z ∧ wZ (n + 60) z := by
  obtain ⟨g, fb, A, B, kp, sd, tw, M, rfl, rfl, rfl, rfl, hR, hU, hT, hM, hA⟩ := h
  exact ⟨_, P1 _ _ _ _ _ _ (a_goes), wS_mk kp sd 0 hR hU hT hM (by omega)⟩
theorem C_14 (h : wS n uL uH uC uT uI uM) (hn : n < 800000) (v1 : vp_in (i + 1) Lc) (v2 : vp_in (i + 2) Lc) (v3 : vp_in (i + 3) Lc) : ∃ z, p_L_C14 xs Lc i uL uH uC uT uI uM fO = some z ∧ wZ (n + 60) z := by
  obtain ⟨g, fb, A, B, kp, sd, tw, M, rfl, rfl, rfl, rfl, hR, hU, hT, hM, hA⟩ := h
  exact ⟨_, P1 _ _ _ _ _ _ (a_calls), wS_mk kp sd 0 hR hU hT hM (by omega)⟩
theorem C_15 (h : wS n uL uH uC uT uI uM) (hn : n < 800000) (v1 : vp_in (i + 1) Lc) (v2 : vp_in (i + 2) Lc) (v3 : vp_in (i + 3) Lc) : ∃ z, p_L_C15 xs Lc i uL uH uC uT uI uM fO = some z ∧ wZ (n + 60) z := by
  obtain ⟨g, fb, A, B, kp, sd, tw, M, rfl, rfl, rfl, rfl, hR, hU, hT, hM, hA⟩ := h
  exact ⟨_, P1 _ _ _ _ _ _ (a_stuckFor), wS_mk kp sd 0 hR hU hT hM (by omega)⟩
theorem C_16 (h : wS n uL uH uC uT uI uM) (hn : n < 800000) (v1 : vp_in (i + 1) Lc) (v2 : vp_in (i + 2) Lc) (v3 : vp_in (i + 3) Lc) : ∃ z, p_L_C16 xs Lc i uL uH uC uT uI uM fO = some z ∧ wZ (n + 60) z := by
  obtain ⟨g, fb, A, B, kp, sd, tw, M, rfl, rfl, rfl, rfl, hR, hU, hT, hM, hA⟩ := h
  exact ⟨_, P1 _ _ _ _ _ _ (a_wear), wS_mk kp sd 0 hR hU hT hM (by omega)⟩
theorem C_17 (h : wS n uL uH uC uT uI uM) (hn : n < 800000) (v1 : vp_in (i + 1) Lc) (v2 : vp_in (i + 2) Lc) (v3 : vp_in (i + 3) Lc) : ∃ z, p_L_C17 xs Lc i uL uH uC uT uI uM fO = some z ∧ wZ (n + 60) z := by
  obtain ⟨g, fb, A, B, kp, sd, tw, M, rfl, rfl, rfl, rfl, hR, hU, hT, hM, hA⟩ := h
  exact ⟨_, P1 _ _ _ _ _ _ (a_limit), wS_mk kp sd 0 hR hU hT hM (by omega)⟩
theorem C_18 (h : wS n uL uH uC uT uI uM) (hn : n < 800000) (v1 : vp_in (i + 1) Lc) (v2 : vp_in (i + 2) Lc) (v3 : vp_in (i + 3) Lc) : ∃ z, p_L_C18 xs Lc i uL uH uC uT uI uM fO = some z ∧ wZ (n + 60) z := by
  obtain ⟨g, fb, A, B, kp, sd, tw, M, rfl, rfl, rfl, rfl, hR, hU, hT, hM, hA⟩ := h
  exact ⟨_, P1 _ _ _ _ _ _ (a_suspense), wS_mk kp sd 0 hR hU hT hM (by omega)⟩
theorem C_25 (h : wS n uL uH uC uT uI uM) (hn : n < 800000) (v1 : vp_in (i + 1) Lc) (v2 : vp_in (i + 2) Lc) (v3 : vp_in (i + 3) Lc) : ∃ z, p_L_C25 xs Lc i uL uH uC uT uI uM fO = some z ∧ wZ (n + 60) z := by
  obtain ⟨g, fb, A, B, kp, sd, tw, M, rfl, rfl, rfl, rfl, hR, hU, hT, hM, hA⟩ := h
  exact ⟨_, P1 _ _ _ _ _ _ (a_cuts hR), wS_mk kp sd 0 hR hU hT hM (by omega)⟩
theorem C_27 (h : wS n uL uH uC uT uI uM) (hn : n < 800000) (v1 : vp_in (i + 1) Lc) (v2 : vp_in (i + 2) Lc) (v3 : vp_in (i + 3) Lc) : ∃ z, p_L_C27 xs Lc i uL uH uC uT uI uM fO = some z ∧ wZ (n + 60) z := by
  obtain ⟨g, fb, A, B, kp, sd, tw, M, rfl, rfl, rfl, rfl, hR, hU, hT, hM, hA⟩ := h
  exact ⟨_, P1 _ _ _ _ _ _ (a_instalments hU), wS_mk kp sd 0 hR hU hT hM (by omega)⟩
theorem C_32 (h : wS n uL uH uC uT uI uM) (hn : n < 800000) (v1 : vp_in (i + 1) Lc) (v2 : vp_in (i + 2) Lc) (v3 : vp_in (i + 3) Lc) : ∃ z, p_L_C32 xs Lc i uL uH uC uT uI uM fO = some z ∧ wZ (n + 60) z := by
  obtain ⟨g, fb, A, B, kp, sd, tw, M, rfl, rfl, rfl, rfl, hR, hU, hT, hM, hA⟩ := h
  exact ⟨_, P1 _ _ _ _ _ _ (a_mostThrilling hR hU), wS_mk kp sd 0 hR hU hT hM (by omega)⟩
theorem C_33 (h : wS n uL uH uC uT uI uM) (hn : n < 800000) (v1 : vp_in (i + 1) Lc) (v2 : vp_in (i + 2) Lc) (v3 : vp_in (i + 3) Lc) : ∃ z, p_L_C33 xs Lc i uL uH uC uT uI uM fO = some z ∧ wZ (n + 60) z := by
  obtain ⟨g, fb, A, B, kp, sd, tw, M, rfl, rfl, rfl, rfl, hR, hU, hT, hM, hA⟩ := h
  exact ⟨_, P1 _ _ _ _ _ _ (a_longestWait hR hU), wS_mk kp sd 0 hR hU hT hM (by omega)⟩
theorem C_34 (h : wS n uL uH uC uT uI uM) (hn : n < 800000) (v1 : vp_in (i + 1) Lc) (v2 : vp_in (i + 2) Lc) (v3 : vp_in (i + 3) Lc) : ∃ z, p_L_C34 xs Lc i uL uH uC uT uI uM fO = some z ∧ wZ (n + 60) z := by
  obtain ⟨g, fb, A, B, kp, sd, tw, M, rfl, rfl, rfl, rfl, hR, hU, hT, hM, hA⟩ := h
  exact ⟨_, P1 _ _ _ _ _ _ (a_climbs hR hU), wS_mk kp sd 0 hR hU hT hM (by omega)⟩
theorem C_35 (h : wS n uL uH uC uT uI uM) (hn : n < 800000) (v1 : vp_in (i + 1) Lc) (v2 : vp_in (i + 2) Lc) (v3 : vp_in (i + 3) Lc) : ∃ z, p_L_C35 xs Lc i uL uH uC uT uI uM fO = some z ∧ wZ (n + 60) z := by
  obtain ⟨g, fb, A, B, kp, sd, tw, M, rfl, rfl, rfl, rfl, hR, hU, hT, hM, hA⟩ := h
  exact ⟨_, P1 _ _ _ _ _ _ (a_readers), wS_mk kp sd 0 hR hU hT hM (by omega)⟩
theorem C_36 (h : wS n uL uH uC uT uI uM) (hn : n < 800000) (v1 : vp_in (i + 1) Lc) (v2 : vp_in (i + 2) Lc) (v3 : vp_in (i + 3) Lc) : ∃ z, p_L_C36 xs Lc i uL uH uC uT uI uM fO = some z ∧ wZ (n + 60) z := by
  obtain ⟨g, fb, A, B, kp, sd, tw, M, rfl, rfl, rfl, rfl, hR, hU, hT, hM, hA⟩ := h
  exact ⟨_, P1 _ _ _ _ _ _ (a_subscribers hR), wS_mk kp sd 0 hR hU hT hM (by omega)⟩
theorem C_40 (h : wS n uL uH uC uT uI uM) (hn : n < 800000) (v1 : vp_in (i + 1) Lc) (v2 : vp_in (i + 2) Lc) (v3 : vp_in (i + 3) Lc) : ∃ z, p_L_C40 xs Lc i uL uH uC uT uI uM fO = some z ∧ wZ (n + 60) z := by
  obtain ⟨g, fb, A, B, kp, sd, tw, M, rfl, rfl, rfl, rfl, hR, hU, hT, hM, hA⟩ := h
  exact ⟨_, P1 _ _ _ _ _ _ (a_warmest hR), wS_mk kp sd 0 hR hU hT hM (by omega)⟩
theorem C_41 (h : wS n uL uH uC uT uI uM) (hn : n < 800000) (v1 : vp_in (i + 1) Lc) (v2 : vp_in (i + 2) Lc) (v3 : vp_in (i + 3) Lc) : ∃ z, p_L_C41 xs Lc i uL uH uC uT uI uM fO = some z ∧ wZ (n + 60) z := by
  obtain ⟨g, fb, A, B, kp, sd, tw, M, rfl, rfl, rfl, rfl, hR, hU, hT, hM, hA⟩ := h
  exact ⟨_, P1 _ _ _ _ _ _ (a_mirrors), wS_mk kp sd 0 hR hU hT hM (by omega)⟩
theorem C_45 (h : wS n uL uH uC uT uI uM) (hn : n < 800000) (v1 : vp_in (i + 1) Lc) (v2 : vp_in (i + 2) Lc) (v3 : vp_in (i + 3) Lc) : ∃ z, p_L_C45 xs Lc i uL uH uC uT uI uM fO = some z ∧ wZ (n + 60) z := by
  obtain ⟨g, fb, A, B, kp, sd, tw, M, rfl, rfl, rfl, rfl, hR, hU, hT, hM, hA⟩ := h
  exact ⟨_, P1 _ _ _ _ _ _ (a_kindest hR hU hM), wS_mk kp sd 0 hR hU hT hM (by omega)⟩
theorem C_19 (h : wS n uL uH uC uT uI uM) (hn : n < 800000) (v1 : vp_in (i + 1) Lc) (v2 : vp_in (i + 2) Lc) (v3 : vp_in (i + 3) Lc) : ∃ z, p_L_C19 xs Lc i uL uH uC uT uI uM fO = some z ∧ wZ (n + 60) z := by
  obtain ⟨g, fb, A, B, kp, sd, tw, M, rfl, rfl, rfl, rfl, hR, hU, hT, hM, hA⟩ := h
  obtain ⟨zz, fO', hz, e⟩ := P2 (iH g) (iC fb A) uT uI (iM M) fO (a_paragraphs (kp := kp) (sd := sd) (tw := tw) (M := M) (uT := uT) (uI := uI) hR _) rfl rfl
  refine ⟨(zz, iH g, iC fb A, uT, uI, iM M, fO'), ?_, ?_⟩
  · unfold p_L_C19 p_L_paragraphs
    rw [gd_in v1]
    exact e
  · rcases hz with rfl | rfl
    · exact wS_mk kp sd 0 hR hU hT hM (by omega)
    · exact wS_mk kp sd 1 hR hU hT hM (by omega)
theorem C_20 (h : wS n uL uH uC uT uI uM) (hn : n < 800000) (v1 : vp_in (i + 1) Lc) (v2 : vp_in (i + 2) Lc) (v3 : vp_in (i + 3) Lc) : ∃ z, p_L_C20 xs Lc i uL uH uC uT uI uM fO = some z ∧ wZ (n + 60) z := by
  obtain ⟨g, fb, A, B, kp, sd, tw, M, rfl, rfl, rfl, rfl, hR, hU, hT, hM, hA⟩ := h
  obtain ⟨zz, fO', hz, e⟩ := P2 (iH g) (iC fb A) uT uI (iM M) fO (a_nextParagraph (kp := kp) (sd := sd) (tw := tw) (M := M) (uT := uT) (uI := uI) hR _) rfl rfl
  refine ⟨(zz, iH g, iC fb A, uT, uI, iM M, fO'), ?_, ?_⟩
  · unfold p_L_C20 p_L_nextParagraph
    rw [gd_in v1]
    exact e
  · rcases hz with rfl | rfl
    · exact wS_mk kp sd 0 hR hU hT hM (by omega)
    · exact wS_mk kp sd 1 hR hU hT hM (by omega)
theorem C_21 (h : wS n uL uH uC uT uI uM) (hn : n < 800000) (v1 : vp_in (i + 1) Lc) (v2 : vp_in (i + 2) Lc) (v3 : vp_in (i + 3) Lc) : ∃ z, p_L_C21 xs Lc i uL uH uC uT uI uM fO = some z ∧ wZ (n + 60) z := by
  obtain ⟨g, fb, A, B, kp, sd, tw, M, rfl, rfl, rfl, rfl, hR, hU, hT, hM, hA⟩ := h
  obtain ⟨zz, fO', hz, e⟩ := P2 (iH g) (iC fb A) uT uI (iM M) fO (a_topicOf (kp := kp) (sd := sd) (tw := tw) (M := M) (uT := uT) (uI := uI) hR _ _) rfl rfl
  refine ⟨(zz, iH g, iC fb A, uT, uI, iM M, fO'), ?_, ?_⟩
  · unfold p_L_C21 p_L_topicOf
    rw [gd_in v1, gd_in v2]
    exact e
  · rcases hz with rfl | rfl
    · exact wS_mk kp sd 0 hR hU hT hM (by omega)
    · exact wS_mk kp sd 1 hR hU hT hM (by omega)
theorem C_22 (h : wS n uL uH uC uT uI uM) (hn : n < 800000) (v1 : vp_in (i + 1) Lc) (v2 : vp_in (i + 2) Lc) (v3 : vp_in (i + 3) Lc) : ∃ z, p_L_C22 xs Lc i uL uH uC uT uI uM fO = some z ∧ wZ (n + 60) z := by
  obtain ⟨g, fb, A, B, kp, sd, tw, M, rfl, rfl, rfl, rfl, hR, hU, hT, hM, hA⟩ := h
  obtain ⟨zz, fO', hz, e⟩ := P2 (iH g) (iC fb A) uT uI (iM M) fO (a_thrillOf (kp := kp) (sd := sd) (tw := tw) (M := M) (uT := uT) (uI := uI) hR _ _) rfl rfl
  refine ⟨(zz, iH g, iC fb A, uT, uI, iM M, fO'), ?_, ?_⟩
  · unfold p_L_C22 p_L_thrillOf
    rw [gd_in v1, gd_in v2]
    exact e
  · rcases hz with rfl | rfl
    · exact wS_mk kp sd 0 hR hU hT hM (by omega)
    · exact wS_mk kp sd 1 hR hU hT hM (by omega)
theorem C_23 (h : wS n uL uH uC uT uI uM) (hn : n < 800000) (v1 : vp_in (i + 1) Lc) (v2 : vp_in (i + 2) Lc) (v3 : vp_in (i + 3) Lc) : ∃ z, p_L_C23 xs Lc i uL uH uC uT uI uM fO = some z ∧ wZ (n + 60) z := by
  obtain ⟨g, fb, A, B, kp, sd, tw, M, rfl, rfl, rfl, rfl, hR, hU, hT, hM, hA⟩ := h
  obtain ⟨zz, fO', hz, e⟩ := P2 (iH g) (iC fb A) uT uI (iM M) fO (a_cutOn (kp := kp) (sd := sd) (tw := tw) (M := M) (uT := uT) (uI := uI) hR _) rfl rfl
  refine ⟨(zz, iH g, iC fb A, uT, uI, iM M, fO'), ?_, ?_⟩
  · unfold p_L_C23 p_L_cutOn
    rw [gd_in v1]
    exact e
  · rcases hz with rfl | rfl
    · exact wS_mk kp sd 0 hR hU hT hM (by omega)
    · exact wS_mk kp sd 1 hR hU hT hM (by omega)
theorem C_26 (h : wS n uL uH uC uT uI uM) (hn : n < 800000) (v1 : vp_in (i + 1) Lc) (v2 : vp_in (i + 2) Lc) (v3 : vp_in (i + 3) Lc) : ∃ z, p_L_C26 xs Lc i uL uH uC uT uI uM fO = some z ∧ wZ (n + 60) z := by
  obtain ⟨g, fb, A, B, kp, sd, tw, M, rfl, rfl, rfl, rfl, hR, hU, hT, hM, hA⟩ := h
  obtain ⟨zz, fO', hz, e⟩ := P2 (iH g) (iC fb A) uT uI (iM M) fO (a_toCome (kp := kp) (sd := sd) (tw := tw) (M := M) (uT := uT) (uI := uI) hR _) rfl rfl
  refine ⟨(zz, iH g, iC fb A, uT, uI, iM M, fO'), ?_, ?_⟩
  · unfold p_L_C26 p_L_toCome
    rw [gd_in v1]
    exact e
  · rcases hz with rfl | rfl
    · exact wS_mk kp sd 0 hR hU hT hM (by omega)
    · exact wS_mk kp sd 1 hR hU hT hM (by omega)
theorem C_28 (h : wS n uL uH uC uT uI uM) (hn : n < 800000) (v1 : vp_in (i + 1) Lc) (v2 : vp_in (i + 2) Lc) (v3 : vp_in (i + 3) Lc) : ∃ z, p_L_C28 xs Lc i uL uH uC uT uI uM fO = some z ∧ wZ (n + 60) z := by
  obtain ⟨g, fb, A, B, kp, sd, tw, M, rfl, rfl, rfl, rfl, hR, hU, hT, hM, hA⟩ := h
  obtain ⟨zz, fO', hz, e⟩ := P2 (iH g) (iC fb A) uT uI (iM M) fO (a_floorIn (kp := kp) (sd := sd) (tw := tw) (M := M) (uT := uT) (uI := uI) hR hU _) rfl rfl
  refine ⟨(zz, iH g, iC fb A, uT, uI, iM M, fO'), ?_, ?_⟩
  · unfold p_L_C28 p_L_floorIn
    rw [gd_in v1]
    exact e
  · rcases hz with rfl | rfl
    · exact wS_mk kp sd 0 hR hU hT hM (by omega)
    · exact wS_mk kp sd 1 hR hU hT hM (by omega)
theorem C_29 (h : wS n uL uH uC uT uI uM) (hn : n < 800000) (v1 : vp_in (i + 1) Lc) (v2 : vp_in (i + 2) Lc) (v3 : vp_in (i + 3) Lc) : ∃ z, p_L_C29 xs Lc i uL uH uC uT uI uM fO = some z ∧ wZ (n + 60) z := by
  obtain ⟨g, fb, A, B, kp, sd, tw, M, rfl, rfl, rfl, rfl, hR, hU, hT, hM, hA⟩ := h
  obtain ⟨zz, fO', hz, e⟩ := P2 (iH g) (iC fb A) uT uI (iM M) fO (a_paragraphIn (kp := kp) (sd := sd) (tw := tw) (M := M) (uT := uT) (uI := uI) hR hU _) rfl rfl
  refine ⟨(zz, iH g, iC fb A, uT, uI, iM M, fO'), ?_, ?_⟩
  · unfold p_L_C29 p_L_paragraphIn
    rw [gd_in v1]
    exact e
  · rcases hz with rfl | rfl
    · exact wS_mk kp sd 0 hR hU hT hM (by omega)
    · exact wS_mk kp sd 1 hR hU hT hM (by omega)
theorem C_30 (h : wS n uL uH uC uT uI uM) (hn : n < 800000) (v1 : vp_in (i + 1) Lc) (v2 : vp_in (i + 2) Lc) (v3 : vp_in (i + 3) Lc) : ∃ z, p_L_C30 xs Lc i uL uH uC uT uI uM fO = some z ∧ wZ (n + 60) z := by
  obtain ⟨g, fb, A, B, kp, sd, tw, M, rfl, rfl, rfl, rfl, hR, hU, hT, hM, hA⟩ := h
  obtain ⟨zz, fO', hz, e⟩ := P2 (iH g) (iC fb A) uT uI (iM M) fO (a_thrillIn (kp := kp) (sd := sd) (tw := tw) (M := M) (uT := uT) (uI := uI) hR hU _) rfl rfl
  refine ⟨(zz, iH g, iC fb A, uT, uI, iM M, fO'), ?_, ?_⟩
  · unfold p_L_C30 p_L_thrillIn
    rw [gd_in v1]
    exact e
  · rcases hz with rfl | rfl
    · exact wS_mk kp sd 0 hR hU hT hM (by omega)
    · exact wS_mk kp sd 1 hR hU hT hM (by omega)
theorem C_31 (h : wS n uL uH uC uT uI uM) (hn : n < 800000) (v1 : vp_in (i + 1) Lc) (v2 : vp_in (i + 2) Lc) (v3 : vp_in (i + 3) Lc) : ∃ z, p_L_C31 xs Lc i uL uH uC uT uI uM fO = some z ∧ wZ (n + 60) z := by
  obtain ⟨g, fb, A, B, kp, sd, tw, M, rfl, rfl, rfl, rfl, hR, hU, hT, hM, hA⟩ := h
  obtain ⟨zz, fO', hz, e⟩ := P2 (iH g) (iC fb A) uT uI (iM M) fO (a_hourIn (kp := kp) (sd := sd) (tw := tw) (M := M) (uT := uT) (uI := uI) hR hU _) rfl rfl
  refine ⟨(zz, iH g, iC fb A, uT, uI, iM M, fO'), ?_, ?_⟩
  · unfold p_L_C31 p_L_hourIn
    rw [gd_in v1]
    exact e
  · rcases hz with rfl | rfl
    · exact wS_mk kp sd 0 hR hU hT hM (by omega)
    · exact wS_mk kp sd 1 hR hU hT hM (by omega)
theorem C_37 (h : wS n uL uH uC uT uI uM) (hn : n < 800000) (v1 : vp_in (i + 1) Lc) (v2 : vp_in (i + 2) Lc) (v3 : vp_in (i + 3) Lc) : ∃ z, p_L_C37 xs Lc i uL uH uC uT uI uM fO = some z ∧ wZ (n + 60) z := by
  obtain ⟨g, fb, A, B, kp, sd, tw, M, rfl, rfl, rfl, rfl, hR, hU, hT, hM, hA⟩ := h
  obtain ⟨zz, fO', hz, e⟩ := P2 (iH g) (iC fb A) uT uI (iM M) fO (a_tasteOf (kp := kp) (sd := sd) (tw := tw) (M := M) (uT := uT) (uI := uI) hR _) rfl rfl
  refine ⟨(zz, iH g, iC fb A, uT, uI, iM M, fO'), ?_, ?_⟩
  · unfold p_L_C37 p_L_tasteOf
    rw [gd_in v1]
    exact e
  · rcases hz with rfl | rfl
    · exact wS_mk kp sd 0 hR hU hT hM (by omega)
    · exact wS_mk kp sd 1 hR hU hT hM (by omega)
theorem C_38 (h : wS n uL uH uC uT uI uM) (hn : n < 800000) (v1 : vp_in (i + 1) Lc) (v2 : vp_in (i + 2) Lc) (v3 : vp_in (i + 3) Lc) : ∃ z, p_L_C38 xs Lc i uL uH uC uT uI uM fO = some z ∧ wZ (n + 60) z := by
  obtain ⟨g, fb, A, B, kp, sd, tw, M, rfl, rfl, rfl, rfl, hR, hU, hT, hM, hA⟩ := h
  obtain ⟨zz, fO', hz, e⟩ := P2 (iH g) (iC fb A) uT uI (iM M) fO (a_warmthOf (kp := kp) (sd := sd) (tw := tw) (M := M) (uT := uT) (uI := uI) hR _) rfl rfl
  refine ⟨(zz, iH g, iC fb A, uT, uI, iM M, fO'), ?_, ?_⟩
  · unfold p_L_C38 p_L_warmthOf
    rw [gd_in v1]
    exact e
  · rcases hz with rfl | rfl
    · exact wS_mk kp sd 0 hR hU hT hM (by omega)
    · exact wS_mk kp sd 1 hR hU hT hM (by omega)
theorem C_42 (h : wS n uL uH uC uT uI uM) (hn : n < 800000) (v1 : vp_in (i + 1) Lc) (v2 : vp_in (i + 2) Lc) (v3 : vp_in (i + 3) Lc) : ∃ z, p_L_C42 xs Lc i uL uH uC uT uI uM fO = some z ∧ wZ (n + 60) z := by
  obtain ⟨g, fb, A, B, kp, sd, tw, M, rfl, rfl, rfl, rfl, hR, hU, hT, hM, hA⟩ := h
  obtain ⟨zz, fO', hz, e⟩ := P2 (iH g) (iC fb A) uT uI (iM M) fO (a_grade (kp := kp) (sd := sd) (tw := tw) (M := M) (uT := uT) (uI := uI) hR hU hM _ _) rfl rfl
  refine ⟨(zz, iH g, iC fb A, uT, uI, iM M, fO'), ?_, ?_⟩
  · unfold p_L_C42 p_L_grade
    rw [gd_in v1, gd_in v2]
    exact e
  · rcases hz with rfl | rfl
    · exact wS_mk kp sd 0 hR hU hT hM (by omega)
    · exact wS_mk kp sd 1 hR hU hT hM (by omega)
theorem C_43 (h : wS n uL uH uC uT uI uM) (hn : n < 800000) (v1 : vp_in (i + 1) Lc) (v2 : vp_in (i + 2) Lc) (v3 : vp_in (i + 3) Lc) : ∃ z, p_L_C43 xs Lc i uL uH uC uT uI uM fO = some z ∧ wZ (n + 60) z := by
  obtain ⟨g, fb, A, B, kp, sd, tw, M, rfl, rfl, rfl, rfl, hR, hU, hT, hM, hA⟩ := h
  obtain ⟨zz, fO', hz, e⟩ := P2 (iH g) (iC fb A) uT uI (iM M) fO (a_gradesBy (kp := kp) (sd := sd) (tw := tw) (M := M) (uT := uT) (uI := uI) hR hU hM _) rfl rfl
  refine ⟨(zz, iH g, iC fb A, uT, uI, iM M, fO'), ?_, ?_⟩
  · unfold p_L_C43 p_L_gradesBy
    rw [gd_in v1]
    exact e
  · rcases hz with rfl | rfl
    · exact wS_mk kp sd 0 hR hU hT hM (by omega)
    · exact wS_mk kp sd 1 hR hU hT hM (by omega)
theorem C_44 (h : wS n uL uH uC uT uI uM) (hn : n < 800000) (v1 : vp_in (i + 1) Lc) (v2 : vp_in (i + 2) Lc) (v3 : vp_in (i + 3) Lc) : ∃ z, p_L_C44 xs Lc i uL uH uC uT uI uM fO = some z ∧ wZ (n + 60) z := by
  obtain ⟨g, fb, A, B, kp, sd, tw, M, rfl, rfl, rfl, rfl, hR, hU, hT, hM, hA⟩ := h
  obtain ⟨zz, fO', hz, e⟩ := P2 (iH g) (iC fb A) uT uI (iM M) fO (a_favouriteOf (kp := kp) (sd := sd) (tw := tw) (M := M) (uT := uT) (uI := uI) hR hU hM _) rfl rfl
  refine ⟨(zz, iH g, iC fb A, uT, uI, iM M, fO'), ?_, ?_⟩
  · unfold p_L_C44 p_L_favouriteOf
    rw [gd_in v1]
    exact e
  · rcases hz with rfl | rfl
    · exact wS_mk kp sd 0 hR hU hT hM (by omega)
    · exact wS_mk kp sd 1 hR hU hT hM (by omega)
theorem C_13 (h : wS n uL uH uC uT uI uM) (hn : n < 800000) (v1 : vp_in (i + 1) Lc) (v2 : vp_in (i + 2) Lc) (v3 : vp_in (i + 3) Lc) : ∃ z, p_L_C13 xs Lc i uL uH uC uT uI uM fO = some z ∧ wZ (n + 60) z := by
  obtain ⟨g, fb, A, B, kp, sd, tw, M, rfl, rfl, rfl, rfl, hR, hU, hT, hM, hA⟩ := h
  obtain ⟨zz, fO', hz, e⟩ := P3 (iH g) (iC fb A) uT uI (iM M) fO (a_isCalled (g := g) (fb := fb) (A := A) (B := B) (kp := kp) (sd := sd) (tw := tw) (M := M) (uT := uT) (uI := uI) hR _) rfl rfl
  refine ⟨(zz, iH g, iC fb A, uT, uI, iM M, fO'), ?_, ?_⟩
  · unfold p_L_C13 p_L_isCalled
    rw [gd_in v1]
    exact e
  · rcases hz with rfl | rfl
    · exact wS_mk kp sd 0 hR hU hT hM (by omega)
    · exact wS_mk kp sd 1 hR hU hT hM (by omega)
theorem C_24 (h : wS n uL uH uC uT uI uM) (hn : n < 800000) (v1 : vp_in (i + 1) Lc) (v2 : vp_in (i + 2) Lc) (v3 : vp_in (i + 3) Lc) : ∃ z, p_L_C24 xs Lc i uL uH uC uT uI uM fO = some z ∧ wZ (n + 60) z := by
  obtain ⟨g, fb, A, B, kp, sd, tw, M, rfl, rfl, rfl, rfl, hR, hU, hT, hM, hA⟩ := h
  obtain ⟨zz, fO', hz, e⟩ := P3 (iH g) (iC fb A) uT uI (iM M) fO (a_isForbidden (g := g) (fb := fb) (A := A) (B := B) (kp := kp) (sd := sd) (tw := tw) (M := M) (uT := uT) (uI := uI) _) rfl rfl
  refine ⟨(zz, iH g, iC fb A, uT, uI, iM M, fO'), ?_, ?_⟩
  · unfold p_L_C24 p_L_isForbidden
    rw [gd_in v1]
    exact e
  · rcases hz with rfl | rfl
    · exact wS_mk kp sd 0 hR hU hT hM (by omega)
    · exact wS_mk kp sd 1 hR hU hT hM (by omega)
theorem C_39 (h : wS n uL uH uC uT uI uM) (hn : n < 800000) (v1 : vp_in (i + 1) Lc) (v2 : vp_in (i + 2) Lc) (v3 : vp_in (i + 3) Lc) : ∃ z, p_L_C39 xs Lc i uL uH uC uT uI uM fO = some z ∧ wZ (n + 60) z := by
  obtain ⟨g, fb, A, B, kp, sd, tw, M, rfl, rfl, rfl, rfl, hR, hU, hT, hM, hA⟩ := h
  obtain ⟨zz, fO', hz, e⟩ := P3 (iH g) (iC fb A) uT uI (iM M) fO (a_isSubscriber (g := g) (fb := fb) (A := A) (B := B) (kp := kp) (sd := sd) (tw := tw) (M := M) (uT := uT) (uI := uI) hR _) rfl rfl
  refine ⟨(zz, iH g, iC fb A, uT, uI, iM M, fO'), ?_, ?_⟩
  · unfold p_L_C39 p_L_isSubscriber
    rw [gd_in v1]
    exact e
  · rcases hz with rfl | rfl
    · exact wS_mk kp sd 0 hR hU hT hM (by omega)
    · exact wS_mk kp sd 1 hR hU hT hM (by omega)
theorem C_46 (h : wS n uL uH uC uT uI uM) (hn : n < 800000) (v1 : vp_in (i + 1) Lc) (v2 : vp_in (i + 2) Lc) (v3 : vp_in (i + 3) Lc) : ∃ z, p_L_C46 xs Lc i uL uH uC uT uI uM fO = some z ∧ wZ (n + 60) z := by
  obtain ⟨g, fb, A, B, kp, sd, tw, M, rfl, rfl, rfl, rfl, hR, hU, hT, hM, hA⟩ := h
  obtain ⟨B', kp', sd', tw', uT', fO', z1, z2, e⟩ := P4 (iH g) (iC fb A) uT uI (iM M) fO (q_hoursUntilStop (kp := kp) (sd := sd) (tw := tw) (M := M) (uI := uI) hR (by omega) hT _) hT
  refine ⟨(iL g fb A B' kp' sd' tw' M, iH g, iC fb A, uT', uI, iM M, fO'), ?_, wS_mk kp' sd' tw' (R_e hR z2) (U_e hU z2) z1 hM (by omega)⟩
  unfold p_L_C46 p_L_hoursUntilStop
  rw [gd_in v1]
  exact e
theorem C_48 (h : wS n uL uH uC uT uI uM) (hn : n < 800000) (v1 : vp_in (i + 1) Lc) (v2 : vp_in (i + 2) Lc) (v3 : vp_in (i + 3) Lc) : ∃ z, p_L_C48 xs Lc i uL uH uC uT uI uM fO = some z ∧ wZ (n + 60) z := by
  obtain ⟨g, fb, A, B, kp, sd, tw, M, rfl, rfl, rfl, rfl, hR, hU, hT, hM, hA⟩ := h
  obtain ⟨B', kp', sd', tw', uT', fO', z1, z2, e⟩ := P4 (iH g) (iC fb A) uT uI (iM M) fO (q_printedIn (kp := kp) (sd := sd) (tw := tw) (M := M) (uI := uI) hR (by omega) hT _) hT
  refine ⟨(iL g fb A B' kp' sd' tw' M, iH g, iC fb A, uT', uI, iM M, fO'), ?_, wS_mk kp' sd' tw' (R_e hR z2) (U_e hU z2) z1 hM (by omega)⟩
  unfold p_L_C48 p_L_printedIn
  rw [gd_in v1]
  exact e
theorem C_49 (h : wS n uL uH uC uT uI uM) (hn : n < 800000) (v1 : vp_in (i + 1) Lc) (v2 : vp_in (i + 2) Lc) (v3 : vp_in (i + 3) Lc) : ∃ z, p_L_C49 xs Lc i uL uH uC uT uI uM fO = some z ∧ wZ (n + 60) z := by
  obtain ⟨g, fb, A, B, kp, sd, tw, M, rfl, rfl, rfl, rfl, hR, hU, hT, hM, hA⟩ := h
  obtain ⟨B', kp', sd', tw', uT', fO', z1, z2, e⟩ := P4 (iH g) (iC fb A) uT uI (iM M) fO (q_subscribersIn (kp := kp) (sd := sd) (tw := tw) (M := M) (uI := uI) hR (by omega) hT _) hT
  refine ⟨(iL g fb A B' kp' sd' tw' M, iH g, iC fb A, uT', uI, iM M, fO'), ?_, wS_mk kp' sd' tw' (R_e hR z2) (U_e hU z2) z1 hM (by omega)⟩
  unfold p_L_C49 p_L_subscribersIn
  rw [gd_in v1]
  exact e
theorem C_50 (h : wS n uL uH uC uT uI uM) (hn : n < 800000) (v1 : vp_in (i + 1) Lc) (v2 : vp_in (i + 2) Lc) (v3 : vp_in (i + 3) Lc) : ∃ z, p_L_C50 xs Lc i uL uH uC uT uI uM fO = some z ∧ wZ (n + 60) z := by
  obtain ⟨g, fb, A, B, kp, sd, tw, M, rfl, rfl, rfl, rfl, hR, hU, hT, hM, hA⟩ := h
  obtain ⟨B', kp', sd', tw', uT', fO', z1, z2, e⟩ := P4 (iH g) (iC fb A) uT uI (iM M) fO (q_bestToCall (kp := kp) (sd := sd) (tw := tw) (M := M) (uI := uI) hR (by omega) hT _) hT
  refine ⟨(iL g fb A B' kp' sd' tw' M, iH g, iC fb A, uT', uI, iM M, fO'), ?_, wS_mk kp' sd' tw' (R_e hR z2) (U_e hU z2) z1 hM (by omega)⟩
  unfold p_L_C50 p_L_bestToCall
  rw [gd_in v1]
  exact e
theorem C_51 (h : wS n uL uH uC uT uI uM) (hn : n < 800000) (v1 : vp_in (i + 1) Lc) (v2 : vp_in (i + 2) Lc) (v3 : vp_in (i + 3) Lc) : ∃ z, p_L_C51 xs Lc i uL uH uC uT uI uM fO = some z ∧ wZ (n + 60) z := by
  obtain ⟨g, fb, A, B, kp, sd, tw, M, rfl, rfl, rfl, rfl, hR, hU, hT, hM, hA⟩ := h
  obtain ⟨B', kp', sd', tw', uT', fO', z1, z2, e⟩ := P4 (iH g) (iC fb A) uT uI (iM M) fO (q_bestToAllow (kp := kp) (sd := sd) (tw := tw) (M := M) (uI := uI) hR (by omega) hT _) hT
  refine ⟨(iL g fb A B' kp' sd' tw' M, iH g, iC fb A, uT', uI, iM M, fO'), ?_, wS_mk kp' sd' tw' (R_e hR z2) (U_e hU z2) z1 hM (by omega)⟩
  unfold p_L_C51 p_L_bestToAllow
  rw [gd_in v1]
  exact e
theorem C_47 (h : wS n uL uH uC uT uI uM) (hn : n < 800000) (v1 : vp_in (i + 1) Lc) (v2 : vp_in (i + 2) Lc) (v3 : vp_in (i + 3) Lc) : ∃ z, p_L_C47 xs Lc i uL uH uC uT uI uM fO = some z ∧ wZ (n + 60) z := by
  obtain ⟨g, fb, A, B, kp, sd, tw, M, rfl, rfl, rfl, rfl, hR, hU, hT, hM, hA⟩ := h
  obtain ⟨v, uT', B', kp', sd', e1, e2, e3, e4⟩ := q_hoursUntilStuck (kp := kp) (sd := sd) (tw := tw) (M := M) (uI := uI) hR (by omega) hT
  refine ⟨(iL g fb A B' kp' sd' 0 M, iH g, iC fb A, uT', uI, iM M, fO), ?_, wS_mk kp' sd' 0 (R_e hR e4) (U_e hU e4) e3 hM (by omega)⟩
  unfold p_L_C47
  rw [e1, bd_sm, e2, bd_sm, if_pos rfl]
theorem C_53 (h : wS n uL uH uC uT uI uM) (hn : n < 800000) (v1 : vp_in (i + 1) Lc) (v2 : vp_in (i + 2) Lc) (v3 : vp_in (i + 3) Lc) : ∃ z, p_L_C53 xs Lc i uL uH uC uT uI uM fO = some z ∧ wZ (n + 60) z := by
  obtain ⟨g, fb, A, B, kp, sd, tw, M, rfl, rfl, rfl, rfl, hR, hU, hT, hM, hA⟩ := h
  obtain ⟨v, uT', B', kp', sd', e1, e2, e3, e4⟩ := g_digest (kp := kp) (sd := sd) (tw := tw) hR hU hM (by omega) hT
  refine ⟨(iL g fb A B' kp' sd' 0 M, iH g, iC fb A, uT', uI, iM M, fO), ?_, wS_mk kp' sd' 0 (R_e hR e4) (U_e hU e4) e3 hM (by omega)⟩
  unfold p_L_C53
  rw [e1, bd_sm, e2, bd_sm, cmp_self, if_pos rfl]
theorem C_52 (h : wS n uL uH uC uT uI uM) (hn : n < 800000) (v1 : vp_in (i + 1) Lc) (v2 : vp_in (i + 2) Lc) (v3 : vp_in (i + 3) Lc) : ∃ z, p_L_C52 xs Lc i uL uH uC uT uI uM fO = some z ∧ wZ (n + 60) z := by
  obtain ⟨g, fb, A, B, kp, sd, tw, M, rfl, rfl, rfl, rfl, hR, hU, hT, hM, hA⟩ := h
  obtain ⟨v, e1, e2, e3⟩ := q_mean (kp := kp) (sd := sd) (tw := tw) (M := M) (uT := uT) (uI := uI) hR
  refine ⟨(iL g fb A B kp sd 0 M, iH g, iC fb A, uT, uI, iM M, fO), ?_, wS_mk kp sd 0 hR hU hT hM (by omega)⟩
  unfold p_L_C52
  rw [e1, bd_sm, e2, bd_sm, if_pos e3]
theorem C_7 (h : wS n uL uH uC uT uI uM) (hn : n < 800000) (v1 : vp_in (i + 1) Lc) (v2 : vp_in (i + 2) Lc) (v3 : vp_in (i + 3) Lc) : ∃ z, p_L_C7 xs Lc i uL uH uC uT uI uM fO = some z ∧ wZ (n + 60) z := by
  obtain ⟨g, fb, A, B, kp, sd, tw, M, rfl, rfl, rfl, rfl, hR, hU, hT, hM, hA⟩ := h
  obtain ⟨v, A', e1, e2, e3, e4⟩ := m_repair (kp := kp) (sd := sd) (tw := tw) (M := M) (uT := uT) (uI := uI) hR
  refine ⟨(iL g fb A' B kp sd 0 M, iH g, iC fb A', uT, uI, iM M, fO), ?_, wS_mk kp sd 0 e3 hU hT hM (by omega)⟩
  unfold p_L_C7
  rw [e1, bd_sm, e2, bd_sm, if_pos rfl]
theorem C_0 (h : wS n uL uH uC uT uI uM) (hn : n < 800000) (v1 : vp_in (i + 1) Lc) (v2 : vp_in (i + 2) Lc) (v3 : vp_in (i + 3) Lc) : ∃ z, p_L_C0 xs Lc i uL uH uC uT uI uM fO = some z ∧ wZ (n + 60) z := by
  obtain ⟨g, fb, A, B, kp, sd, tw, M, rfl, rfl, rfl, rfl, hR, hU, hT, hM, hA⟩ := h
  rcases m_begin (kp := kp) (sd := sd) (tw := tw) (M := M) (uT := uT) (uI := uI) hR (xs (i + (1 : Int32)).toNatClampNeg) with ⟨v, g', A', B', uI', e1, e2, e3, e4, e5⟩ | ⟨e1, v, e2⟩
  · refine ⟨(iL g' fb A' B' kp sd 0 M, iH g', iC fb A', uT, uI', iM M, vp_updL fO 0 v.toInt64), ?_, wS_mk kp sd 0 e3 e4 hT hM (by omega)⟩
    unfold p_L_C0 p_L_begin
    rw [gd_in v1]
    rw [bC_r e1, bd_sm, e2, bd_sm, thr_il, bd_sm, if_pos rfl, if_pos rfl]
    exact if_pos (cmp_self _)
  · refine ⟨(iL g fb A B kp sd 1 M, iH g, iC fb A, uT, uI, iM M, fO), ?_, wS_mk kp sd 1 hR hU hT hM (by omega)⟩
    unfold p_L_C0 p_L_begin
    rw [gd_in v1]
    rw [bC_l e1, bK_1, bd_sm, e2, bd_sm, thr_il, bd_sm, if_pos rfl, if_neg one0]
theorem C_3 (h : wS n uL uH uC uT uI uM) (hn : n < 800000) (v1 : vp_in (i + 1) Lc) (v2 : vp_in (i + 2) Lc) (v3 : vp_in (i + 3) Lc) : ∃ z, p_L_C3 xs Lc i uL uH uC uT uI uM fO = some z ∧ wZ (n + 60) z := by
  obtain ⟨g, fb, A, B, kp, sd, tw, M, rfl, rfl, rfl, rfl, hR, hU, hT, hM, hA⟩ := h
  rcases m_setLimit (kp := kp) (sd := sd) (tw := tw) (M := M) (uT := uT) (uI := uI) hR (xs (i + (1 : Int32)).toNatClampNeg) with ⟨v, g', e1, e2, e3⟩ | ⟨e1, v, e2⟩
  · refine ⟨(iL g' fb A B kp sd 0 M, iH g', iC fb A, uT, uI, iM M, vp_updL fO 0 v.toInt64), ?_, wS_mk kp sd 0 e3 hU hT hM (by omega)⟩
    unfold p_L_C3 p_L_setLimit
    rw [gd_in v1]
    rw [bC_r e1, bd_sm, e2, bd_sm, thr_il, bd_sm, if_pos rfl, if_pos rfl]
    exact if_pos (cmp_self _)
  · refine ⟨(iL g fb A B kp sd 1 M, iH g, iC fb A, uT, uI, iM M, fO), ?_, wS_mk kp sd 1 hR hU hT hM (by omega)⟩
    unfold p_L_C3 p_L_setLimit
    rw [gd_in v1]
    rw [bC_l e1, bK_1, bd_sm, e2, bd_sm, thr_il, bd_sm, if_pos rfl, if_neg one0]
theorem C_8 (h : wS n uL uH uC uT uI uM) (hn : n < 800000) (v1 : vp_in (i + 1) Lc) (v2 : vp_in (i + 2) Lc) (v3 : vp_in (i + 3) Lc) : ∃ z, p_L_C8 xs Lc i uL uH uC uT uI uM fO = some z ∧ wZ (n + 60) z := by
  obtain ⟨g, fb, A, B, kp, sd, tw, M, rfl, rfl, rfl, rfl, hR, hU, hT, hM, hA⟩ := h
  rcases m_pass (kp := kp) (sd := sd) (tw := tw) (M := M) (uT := uT) hR hU (by omega) (xs (i + (1 : Int32)).toNatClampNeg) with ⟨v, A', B', uI', sd', e1, e2, e3, e4, e5⟩ | ⟨e1, v, e2⟩
  · refine ⟨(iL g fb A' B' kp sd' 0 M, iH g, iC fb A', uT, uI', iM M, vp_updL fO 0 v.toInt64), ?_, wS_mk kp sd' 0 e3 e4 hT hM (by omega)⟩
    unfold p_L_C8 p_L_passHours
    rw [gd_in v1]
    rw [bC_r e1, bd_sm, e2, bd_sm, thr_il, bd_sm, if_pos rfl, if_pos rfl]
    exact if_pos (cmp_self _)
  · refine ⟨(iL g fb A B kp sd 1 M, iH g, iC fb A, uT, uI, iM M, fO), ?_, wS_mk kp sd 1 hR hU hT hM (by omega)⟩
    unfold p_L_C8 p_L_passHours
    rw [gd_in v1]
    rw [bC_l e1, bK_1, bd_sm, e2, bd_sm, thr_il, bd_sm, if_pos rfl, if_neg one0]
theorem C_6 (h : wS n uL uH uC uT uI uM) (hn : n < 800000) (v1 : vp_in (i + 1) Lc) (v2 : vp_in (i + 2) Lc) (v3 : vp_in (i + 3) Lc) : ∃ z, p_L_C6 xs Lc i uL uH uC uT uI uM fO = some z ∧ wZ (n + 60) z := by
  obtain ⟨g, fb, A, B, kp, sd, tw, M, rfl, rfl, rfl, rfl, hR, hU, hT, hM, hA⟩ := h
  have hA2 : A.1 ≤ n + 60 := by omega
  rcases m_call (kp := kp) (sd := sd) (tw := tw) (M := M) (uT := uT) (uI := uI) hR (xs (i + (1 : Int32)).toNatClampNeg) with ⟨b, A', e1, e2, e3, e4⟩ | ⟨e1, v, e2⟩
  · cases b
    · refine ⟨(iL g fb A' B kp sd 0 M, iH g, iC fb A', uT, uI, iM M, vp_updL fO 0 (0 : Int64)), ?_, wS_mk kp sd 0 e3 hU hT hM (by omega)⟩
      unfold p_L_C6 p_L_call
      rw [gd_in v1]
      rw [bC_r e1, if_pos (bI_eq rfl), bd_sm, e2, bd_sm, thr_il, bd_sm, if_pos rfl, if_pos rfl, if_pos (bI_eq rfl)]
      exact if_pos (cmp_self _)
    · refine ⟨(iL g fb A' B kp sd 0 M, iH g, iC fb A', uT, uI, iM M, vp_updL fO 0 (1 : Int64)), ?_, wS_mk kp sd 0 e3 hU hT hM (by omega)⟩
      unfold p_L_C6 p_L_call
      rw [gd_in v1]
      rw [bC_r e1, if_neg (bI_ne rfl), bd_sm, e2, bd_sm, thr_il, bd_sm, if_pos rfl, if_pos rfl, if_neg (bI_ne rfl)]
      exact if_pos (cmp_self _)
  · refine ⟨(iL g fb A B kp sd 1 M, iH g, iC fb A, uT, uI, iM M, fO), ?_, wS_mk kp sd 1 hR hU hT hM (by omega)⟩
    unfold p_L_C6 p_L_call
    rw [gd_in v1]
    rw [bC_l e1, bK_1, bd_sm, e2, bd_sm, thr_il, bd_sm, if_pos rfl, if_neg one0]
theorem C_2 (h : wS n uL uH uC uT uI uM) (hn : n < 800000) (v1 : vp_in (i + 1) Lc) (v2 : vp_in (i + 2) Lc) (v3 : vp_in (i + 3) Lc) : ∃ z, p_L_C2 xs Lc i uL uH uC uT uI uM fO = some z ∧ wZ (n + 60) z := by
  obtain ⟨g, fb, A, B, kp, sd, tw, M, rfl, rfl, rfl, rfl, hR, hU, hT, hM, hA⟩ := h
  have hA2 : A.1 ≤ n + 60 := by omega
  rcases m_turn (kp := kp) (sd := sd) (tw := tw) (M := M) (uT := uT) (uI := uI) hR (xs (i + (1 : Int32)).toNatClampNeg) with ⟨b, fb', e1, e2, e3⟩ | ⟨e1, v, e2⟩
  · cases b
    · refine ⟨(iL g fb' A B kp sd 0 M, iH g, iC fb' A, uT, uI, iM M, vp_updL fO 0 (0 : Int64)), ?_, wS_mk kp sd 0 e3 hU hT hM hA2⟩
      unfold p_L_C2 p_L_turnTopic
      rw [gd_in v1]
      rw [bC_r e1, if_pos (bI_eq rfl), bd_sm, e2, bd_sm, thr_il, bd_sm, if_pos rfl, if_pos rfl, if_pos (bI_eq rfl)]
      exact if_pos (cmp_self _)
    · refine ⟨(iL g fb' A B kp sd 0 M, iH g, iC fb' A, uT, uI, iM M, vp_updL fO 0 (1 : Int64)), ?_, wS_mk kp sd 0 e3 hU hT hM hA2⟩
      unfold p_L_C2 p_L_turnTopic
      rw [gd_in v1]
      rw [bC_r e1, if_neg (bI_ne rfl), bd_sm, e2, bd_sm, thr_il, bd_sm, if_pos rfl, if_pos rfl, if_neg (bI_ne rfl)]
      exact if_pos (cmp_self _)
  · refine ⟨(iL g fb A B kp sd 1 M, iH g, iC fb A, uT, uI, iM M, fO), ?_, wS_mk kp sd 1 hR hU hT hM (by omega)⟩
    unfold p_L_C2 p_L_turnTopic
    rw [gd_in v1]
    rw [bC_l e1, bK_1, bd_sm, e2, bd_sm, thr_il, bd_sm, if_pos rfl, if_neg one0]
theorem C_1 (h : wS n uL uH uC uT uI uM) (hn : n < 800000) (v1 : vp_in (i + 1) Lc) (v2 : vp_in (i + 2) Lc) (v3 : vp_in (i + 3) Lc) : ∃ z, p_L_C1 xs Lc i uL uH uC uT uI uM fO = some z ∧ wZ (n + 60) z := by
  obtain ⟨g, fb, A, B, kp, sd, tw, M, rfl, rfl, rfl, rfl, hR, hU, hT, hM, hA⟩ := h
  rcases m_addP (kp := kp) (sd := sd) (tw := tw) (M := M) (uT := uT) (uI := uI) hR (xs (i + (1 : Int32)).toNatClampNeg) (xs (i + (2 : Int32)).toNatClampNeg) (xs (i + (3 : Int32)).toNatClampNeg) with ⟨v, g', e1, e2, e3⟩ | ⟨E, c, v, e1, e2, e3⟩
  · refine ⟨(iL g' fb A B kp sd 0 M, iH g', iC fb A, uT, uI, iM M, vp_updL fO 0 v.toInt64), ?_, wS_mk kp sd 0 e3 hU hT hM (by omega)⟩
    unfold p_L_C1 p_L_addParagraph
    rw [gd_in v1, gd_in v2, gd_in v3]
    rw [bC_r e1, bd_sm, e2, bd_sm, thr_il, bd_sm, if_pos rfl, if_pos rfl]
    exact if_pos (cmp_self _)
  · refine ⟨(iL g fb A B kp sd c M, iH g, iC fb A, uT, uI, iM M, fO), ?_, wS_mk kp sd c hR hU hT hM (by omega)⟩
    unfold p_L_C1 p_L_addParagraph
    rw [gd_in v1, gd_in v2, gd_in v3]
    rcases e3 with ⟨rfl, rfl⟩ | ⟨rfl, rfl⟩ | ⟨rfl, rfl⟩
    · rw [bC_l e1, bK_1, bd_sm, e2, bd_sm, thr_il, bd_sm, if_pos rfl, if_neg one0]
    · rw [bC_l e1, if_neg (show ¬ xIAE = xIOB by decide +kernel), bK_1, bd_sm, e2, bd_sm, thr_il, bd_sm, if_pos rfl, if_neg two0]
    · rw [bC_l e1, if_neg (show ¬ xISE = xIOB by decide +kernel), if_neg (show ¬ xISE = xIAE by decide +kernel), bK_1, bd_sm, e2, bd_sm, thr_il, bd_sm, if_pos rfl, if_neg three0]
theorem C_4 (h : wS n uL uH uC uT uI uM) (hn : n < 800000) (v1 : vp_in (i + 1) Lc) (v2 : vp_in (i + 2) Lc) (v3 : vp_in (i + 3) Lc) : ∃ z, p_L_C4 xs Lc i uL uH uC uT uI uM fO = some z ∧ wZ (n + 60) z := by
  obtain ⟨g, fb, A, B, kp, sd, tw, M, rfl, rfl, rfl, rfl, hR, hU, hT, hM, hA⟩ := h
  rcases m_addR (kp := kp) (sd := sd) (tw := tw) (M := M) (uT := uT) (uI := uI) hR (xs (i + (1 : Int32)).toNatClampNeg) (xs (i + (2 : Int32)).toNatClampNeg) with ⟨v, g', A', e1, e2, e3, e4⟩ | ⟨E, c, v, e1, e2, e3⟩
  · refine ⟨(iL g' fb A' B kp sd 0 M, iH g', iC fb A', uT, uI, iM M, vp_updL fO 0 v.toInt64), ?_, wS_mk kp sd 0 e3 hU hT hM (by omega)⟩
    unfold p_L_C4 p_L_addReader
    rw [gd_in v1, gd_in v2]
    rw [bC_r e1, bd_sm, e2, bd_sm, thr_il, bd_sm, if_pos rfl, if_pos rfl]
    exact if_pos (cmp_self _)
  · refine ⟨(iL g fb A B kp sd c M, iH g, iC fb A, uT, uI, iM M, fO), ?_, wS_mk kp sd c hR hU hT hM (by omega)⟩
    unfold p_L_C4 p_L_addReader
    rw [gd_in v1, gd_in v2]
    rcases e3 with ⟨rfl, rfl⟩ | ⟨rfl, rfl⟩
    · rw [bC_l e1, bK_1, bd_sm, e2, bd_sm, thr_il, bd_sm, if_pos rfl, if_neg one0]
    · rw [bC_l e1, if_neg (show ¬ xISE = xIAE by decide +kernel), bK_1, bd_sm, e2, bd_sm, thr_il, bd_sm, if_pos rfl, if_neg two0]
theorem C_5 (h : wS n uL uH uC uT uI uM) (hn : n < 800000) (v1 : vp_in (i + 1) Lc) (v2 : vp_in (i + 2) Lc) (v3 : vp_in (i + 3) Lc) : ∃ z, p_L_C5 xs Lc i uL uH uC uT uI uM fO = some z ∧ wZ (n + 60) z := by
  obtain ⟨g, fb, A, B, kp, sd, tw, M, rfl, rfl, rfl, rfl, hR, hU, hT, hM, hA⟩ := h
  rcases m_addM (g := g) (fb := fb) (A := A) (B := B) (kp := kp) (sd := sd) (tw := tw) (M := M) (uT := uT) (uI := uI) hM (xs (i + (1 : Int32)).toNatClampNeg) (xs (i + (2 : Int32)).toNatClampNeg) with ⟨v, M', e1, e2, e3⟩ | ⟨E, c, v, e1, e2, e3⟩
  · refine ⟨(iL g fb A B kp sd 0 M', iH g, iC fb A, uT, uI, iM M', vp_updL fO 0 v.toInt64), ?_, wS_mk kp sd 0 hR hU hT e3 (by omega)⟩
    unfold p_L_C5 p_L_addMirror
    rw [gd_in v1, gd_in v2]
    rw [bC_r e1, bd_sm, e2, bd_sm, thr_il, bd_sm, if_pos rfl, if_pos rfl]
    exact if_pos (cmp_self _)
  · refine ⟨(iL g fb A B kp sd c M, iH g, iC fb A, uT, uI, iM M, fO), ?_, wS_mk kp sd c hR hU hT hM (by omega)⟩
    unfold p_L_C5 p_L_addMirror
    rw [gd_in v1, gd_in v2]
    rcases e3 with ⟨rfl, rfl⟩ | ⟨rfl, rfl⟩
    · rw [bC_l e1, bK_1, bd_sm, e2, bd_sm, thr_il, bd_sm, if_pos rfl, if_neg one0]
    · rw [bC_l e1, if_neg (show ¬ xISE = xIAE by decide +kernel), bK_1, bd_sm, e2, bd_sm, thr_il, bd_sm, if_pos rfl, if_neg two0]
end
