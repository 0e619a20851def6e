/-! THE PURE PART: the law, what is asked of a state: instalments, mirrors, readers -/
section
variable {hr a st wr sp la : Nat} {wy : Int32} {cl fb rd : Nat → Bool} {nx ct wm : Nat → Nat} {fl lim nr : Nat} {len tp th ta : Nat → Nat} {sd : Int32} {nm mn : Nat} {lk dl tl Ts Hs : Nat → Nat} {uT : tX0} {uG : tX5} {xv : Nat → Int32} {Lc : Nat} {rec22 : tX1 → tX0 → tX0 → tX2 → tX3 → tX5 → Int32 → Option Unit} {l3 l7 : Int32} {f0 f1 : Nat → Int32} {n0 n1 : Nat}
/-- what the instalments are, in numbers -/
theorem in_T (hy : iRy th nx hr mn tl Ts Hs) (hh : hr < 1000000) : ∀ i, i < mn → Ts i < 100000000 := fun i hi => by have := hy.2.2.2.2 i hi; omega
theorem in_q (h : iRx fl lim nr len tp th ta fb hr a wy st wr sp la cl nx ct wm rd mn tl) : ∀ i, i < mn → tl i < 108 := by
  obtain ⟨⟨h1, h1b⟩, ⟨h2, h2b⟩, h3, h4, h5, h6, h7, h8, h9, h10, h11, h12, h13, h14, h15, h16, h17, h18, h19, h20, h21, h22, h23⟩ := h
  exact fun i hi => (h23 i hi).1
theorem w_L500 {rec359 : tX1 → tX0 → tX0 → tX2 → tX3 → tX5 → (Nat → Int32) → Nat → (Nat → Int32) → Nat → Int32 → Int32 → Int32 → Int32 → Int32 → Option Unit} {l5 l6 : Int32} {k : Nat} (h : iRx fl lim nr len tp th ta fb hr a wy st wr sp la cl nx ct wm rd mn tl) (hy : iRy th nx hr mn tl Ts Hs) (hm : oM4 (nm, lk, dl)) (hh : hr < 1000000) (hk : k < mn) : ∀ n i fuel, i + n = nm → n < fuel → p_L_law_L500 xv Lc rec22 rec359 fuel (nI fl, nI lim, nI nr, nF len, nF tp, nF th, nF ta) (nI hr, nI a, wy, nI st, nI wr, nI sp, nI la, bF cl, nF nx, nF ct, bF fb, nF wm, bF rd) uT (nI mn, (fun i => nI (tl i / 9)), (fun i => nI (tl i % 9)), nF Ts, nF Hs) (nI nm, nF lk, nF dl) uG f0 n0 f1 n1 l3 l5 l6 l7 (nI k) (nI i) = rec359 (nI fl, nI lim, nI nr, nF len, nF tp, nF th, nF ta) (nI hr, nI a, wy, nI st, nI wr, nI sp, nI la, bF cl, nF nx, nF ct, bF fb, nF wm, bF rd) uT (nI mn, (fun i => nI (tl i / 9)), (fun i => nI (tl i % 9)), nF Ts, nF Hs) (nI nm, nF lk, nF dl) uG f0 n0 f1 n1 l3 l5 l6 l7 (nI (k + 1)) := by
  have hmn := R_mn2 h
  have hT := in_T hy hh
  have hq := in_q h
  obtain ⟨m1, m2, m3⟩ := hm
  have m1 : nm ≤ 4 := m1
  have mlk : ∀ m, lk m < 8 := fun m => (m2 m).1
  have mdl : ∀ m, dl m < 8 := fun m => (m2 m).2
  obtain ⟨⟨h1, h1b⟩, ⟨h2, h2b⟩, h3, h4, h5, h6, h7, h8, h9, h10, h11, h12, h13, h14, h15, h16, h17, h18, h19, h20, h21, h22, h23⟩ := h
  intro n
  induction n with
  | zero =>
    intro i fuel hi hf
    obtain ⟨f, rfl⟩ : ∃ f, fuel = f + 1 := ⟨fuel - 1, by omega⟩
    rw [p_L_law_L500]
    unfold p_X4_mirrors
    rw [bd_sm, if_pos (nI_leI (by omega) (by omega) |>.mpr (by omega)), L1, nI_add]
  | succ n ih =>
    intro i fuel hi hf
    obtain ⟨f, rfl⟩ : ∃ f, fuel = f + 1 := ⟨fuel - 1, by omega⟩
    have hi2 : i < nm := by omega
    obtain ⟨q, q1, q2⟩ := am_le (w := gG lk dl tp tl Ts i) (p := fun _ => true) mn 0 none k (Or.inr ⟨Nat.zero_le _, by omega, rfl⟩)
    have q3 : q < mn := by
      rcases am_lt _ _ _ _ q1 with e | e
      · cases e
      · omega
    have g1 := gG_le (lk := lk) (dl := dl) (tp := tp) (tl := tl) (Ts := Ts) (m := i) (i := k)
    have g2 := gG_le (lk := lk) (dl := dl) (tp := tp) (tl := tl) (Ts := Ts) (m := i) (i := q)
    rw [p_L_law_L500]
    unfold p_X4_mirrors
    rw [bd_sm, if_neg (mt (nI_leI (by omega) (by omega)).mp (by omega)), X_grade h6 mlk mdl hmn hq hT m1 hi2 hk, bd_sm, if_neg (of_eq_false (nI_neg00 (by omega))), bd_sm, L10, if_neg (mt (nI_ltI (by omega) (by omega)).mp (by omega)), bd_sm, X_fav h6 mlk mdl hmn hq hT m1 hi2, bd_sm, q1]
    rw [show oI (some q) = nI q from rfl, X_grade h6 mlk mdl hmn hq hT m1 hi2 q3, bd_sm, if_pos (nI_leI (by omega) (by omega) |>.mpr q2), L1, nI_add]
    exact ih (i + 1) f (by omega) (by omega)
theorem w_L456 {rec359 : tX1 → tX0 → tX0 → tX2 → tX3 → tX5 → (Nat → Int32) → Nat → (Nat → Int32) → Nat → Int32 → Int32 → Int32 → Int32 → Int32 → Option Unit} {l5 l6 : Int32} {k : Nat} (h : iRx fl lim nr len tp th ta fb hr a wy st wr sp la cl nx ct wm rd mn tl) (hy : iRy th nx hr mn tl Ts Hs) (hm : oM4 (nm, lk, dl)) (hh : hr < 1000000) (hk : k < mn) : ∀ n i fuel, i + n = k → n < fuel → p_L_law_L456 xv Lc rec22 rec359 fuel (nI fl, nI lim, nI nr, nF len, nF tp, nF th, nF ta) (nI hr, nI a, wy, nI st, nI wr, nI sp, nI la, bF cl, nF nx, nF ct, bF fb, nF wm, bF rd) uT (nI mn, (fun i => nI (tl i / 9)), (fun i => nI (tl i % 9)), nF Ts, nF Hs) (nI nm, nF lk, nF dl) uG f0 n0 f1 n1 l3 l5 l6 l7 (nI k) (nI (tl k / 9)) (nI i) = rec359 (nI fl, nI lim, nI nr, nF len, nF tp, nF th, nF ta) (nI hr, nI a, wy, nI st, nI wr, nI sp, nI la, bF cl, nF nx, nF ct, bF fb, nF wm, bF rd) uT (nI mn, (fun i => nI (tl i / 9)), (fun i => nI (tl i % 9)), nF Ts, nF Hs) (nI nm, nF lk, nF dl) uG f0 n0 f1 n1 l3 l5 l6 l7 (nI (k + 1)) := by
  have hmn := R_mn2 h
  have hq := in_q h
  have hnm : nm ≤ 4 := hm.1
  intro n
  induction n with
  | zero =>
    intro i fuel hi hf
    obtain ⟨f, rfl⟩ : ∃ f, fuel = f + 1 := ⟨fuel - 1, by omega⟩
    rw [p_L_law_L456, if_pos (nI_leI (by omega) (by omega) |>.mpr (by omega)), L0]
    exact w_L500 h hy hm hh hk nm 0 200 (by omega) (by omega)
  | succ n ih =>
    intro i fuel hi hf
    obtain ⟨f, rfl⟩ : ∃ f, fuel = f + 1 := ⟨fuel - 1, by omega⟩
    have hq1 := hq i (by omega)
    have hq2 := hq k hk
    rw [p_L_law_L456, if_neg (mt (nI_leI (by omega) (by omega)).mp (by omega)), X_floorIn hmn (by omega), bd_sm]
    by_cases e : tl i / 9 = tl k / 9
    · have := hy.2.1 i k (by omega) hk e
      rw [if_pos (by rw [e]), X_paraIn hmn (by omega), bd_sm, X_paraIn hmn hk, bd_sm, if_pos (nI_ltI (by omega) (by omega) |>.mpr this), L1, nI_add]
      exact ih (i + 1) f (by omega) (by omega)
    · rw [if_neg (mt (nI_eq (by omega) (by omega)).mp e), L1, nI_add]
      exact ih (i + 1) f (by omega) (by omega)
theorem w_J434 {rec359 : tX1 → tX0 → tX0 → tX2 → tX3 → tX5 → (Nat → Int32) → Nat → (Nat → Int32) → Nat → Int32 → Int32 → Int32 → Int32 → Int32 → Option Unit} {l5 l6 : Int32} {k : Nat} (h : iRx fl lim nr len tp th ta fb hr a wy st wr sp la cl nx ct wm rd mn tl) (hy : iRy th nx hr mn tl Ts Hs) (hm : oM4 (nm, lk, dl)) (hh : hr < 1000000) (hk : k < mn) : p_L_law_J434 xv Lc rec22 rec359 (nI fl, nI lim, nI nr, nF len, nF tp, nF th, nF ta) (nI hr, nI a, wy, nI st, nI wr, nI sp, nI la, bF cl, nF nx, nF ct, bF fb, nF wm, bF rd) uT (nI mn, (fun i => nI (tl i / 9)), (fun i => nI (tl i % 9)), nF Ts, nF Hs) (nI nm, nF lk, nF dl) uG f0 n0 f1 n1 l3 l5 l6 l7 (nI k) (nI (tl k / 9)) = rec359 (nI fl, nI lim, nI nr, nF len, nF tp, nF th, nF ta) (nI hr, nI a, wy, nI st, nI wr, nI sp, nI la, bF cl, nF nx, nF ct, bF fb, nF wm, bF rd) uT (nI mn, (fun i => nI (tl i / 9)), (fun i => nI (tl i % 9)), nF Ts, nF Hs) (nI nm, nF lk, nF dl) uG f0 n0 f1 n1 l3 l5 l6 l7 (nI (k + 1)) := by
  have hmn := R_mn2 h
  have hT := in_T hy hh
  obtain ⟨q, q1, q2⟩ := am_le (w := Ts) (p := fun _ => true) mn 0 none k (Or.inr ⟨Nat.zero_le _, by omega, rfl⟩)
  have q3 : q < mn := by
    rcases am_lt _ _ _ _ q1 with e | e
    · cases e
    · omega
  have t1 := hT k hk
  have t2 := hT q q3
  unfold p_L_law_J434
  rw [X_thrillIn hmn hk, bd_sm, X_most hmn hT, bd_sm, q1, show oI (some q) = nI q from rfl, X_thrillIn hmn q3, bd_sm, if_pos (nI_leI (by omega) (by omega) |>.mpr q2), L0]
  exact w_L456 h hy hm hh hk k 0 200 (by omega) (by omega)
theorem w_L359 {l5 : Int32} (h : iRx fl lim nr len tp th ta fb hr a wy st wr sp la cl nx ct wm rd mn tl) (hy : iRy th nx hr mn tl Ts Hs) (hm : oM4 (nm, lk, dl)) (hh : hr < 1000000) : ∀ n i fuel, i + n = mn → n < fuel → p_L_law_L359 xv Lc rec22 fuel (nI fl, nI lim, nI nr, nF len, nF tp, nF th, nF ta) (nI hr, nI a, wy, nI st, nI wr, nI sp, nI la, bF cl, nF nx, nF ct, bF fb, nF wm, bF rd) uT (nI mn, (fun i => nI (tl i / 9)), (fun i => nI (tl i % 9)), nF Ts, nF Hs) (nI nm, nF lk, nF dl) uG f0 n0 f1 n1 l3 l5 (nI mn) l7 (nI i) = p_L_law_L573 xv Lc rec22 200 (nI fl, nI lim, nI nr, nF len, nF tp, nF th, nF ta) (nI hr, nI a, wy, nI st, nI wr, nI sp, nI la, bF cl, nF nx, nF ct, bF fb, nF wm, bF rd) uT (nI mn, (fun i => nI (tl i / 9)), (fun i => nI (tl i % 9)), nF Ts, nF Hs) (nI nm, nF lk, nF dl) uG f0 n0 f1 n1 l3 l5 (nI mn) l7 (nI 0) := by
  have hmn := R_mn2 h
  have hT := in_T hy hh
  have hq := in_q h
  have h00 := h
  obtain ⟨⟨h1, h1b⟩, ⟨h2, h2b⟩, h3, h4, h5, h6, h7, h8, h9, h10, h11, h12, h13, h14, h15, h16, h17, h18, h19, h20, h21, h22, h23⟩ := h
  intro n
  induction n with
  | zero =>
    intro i fuel hi hf
    obtain ⟨f, rfl⟩ : ∃ f, fuel = f + 1 := ⟨fuel - 1, by omega⟩
    rw [p_L_law_L359, if_pos (nI_leI (by omega) (by omega) |>.mpr (by omega)), L0]
  | succ n ih =>
    intro i fuel hi hf
    obtain ⟨f, rfl⟩ : ∃ f, fuel = f + 1 := ⟨fuel - 1, by omega⟩
    have hi2 : i < mn := by omega
    have hq1 := h23 i hi2
    have t1 := hT i hi2
    have y5 := (hy.2.2.2.2 i hi2).1
    have y3 := hy.2.2.1 i hi2
    have t9 := h7 (tl i)
    have hfl : tl i / 9 < fl := by
      by_cases e : tl i / 9 < fl
      · exact e
      · have := h5 (tl i / 9) (by omega); omega
    have ih2 := ih (i + 1) f (by omega) (by omega)
    rw [p_L_law_L359, if_neg (mt (nI_leI (by omega) (by omega)).mp (by omega)), X_floorIn hmn hi2, bd_sm, X_paraIn hmn hi2, bd_sm, X_thrillOf h4 hfl h1b hq1.2, bd_sm, X_thrillIn hmn hi2, bd_sm, show 9 * (tl i / 9) + tl i % 9 = tl i by omega, if_neg (mt (nI_ltI (by omega) (by omega)).mp (by omega)), X_hourIn hmn hi2, bd_sm]
    unfold p_X4_hours
    rw [bd_sm, if_neg (mt (nI_leI (by omega) (by omega)).mp (by omega))]
    by_cases h0 : i = 0
    · rw [if_pos (by rw [h0]; decide +kernel), w_J434 h00 hy hm hh hi2, ih2]
    · have y4 := hy.2.2.2.1 (i - 1) i (by omega) hi2
      rw [if_neg (by rw [nI_le0 (by omega)]; exact h0), bd_sm, L1, nI_sub (by omega), X_hourIn hmn (by omega), bd_sm, if_neg (mt (nI_leI (by omega) (by omega)).mp (by omega)), w_J434 h00 hy hm hh hi2, ih2]
theorem gL_nI {α : Type} {n N : Nat} {k : Option α} (h : n ≤ N) (hN : N < 2147483648) : gL (nI n) N k = k := gL_in ⟨of_eq_false (nI_neg00 (by omega)), by rw [nI_cl (by omega)]; exact h⟩
theorem w_L573 {l5 : Int32} (h : iRx fl lim nr len tp th ta fb hr a wy st wr sp la cl nx ct wm rd mn tl) (hy : iRy th nx hr mn tl Ts Hs) (hm : oM4 (nm, lk, dl)) (hh : hr < 1000000) : ∀ n i fuel, i + n = nm → n < fuel → p_L_law_L573 xv Lc rec22 fuel (nI fl, nI lim, nI nr, nF len, nF tp, nF th, nF ta) (nI hr, nI a, wy, nI st, nI wr, nI sp, nI la, bF cl, nF nx, nF ct, bF fb, nF wm, bF rd) uT (nI mn, (fun i => nI (tl i / 9)), (fun i => nI (tl i % 9)), nF Ts, nF Hs) (nI nm, nF lk, nF dl) uG f0 n0 f1 n1 l3 l5 (nI mn) l7 (nI i) = p_L_law_L648 xv Lc rec22 200 (nI fl, nI lim, nI nr, nF len, nF tp, nF th, nF ta) (nI hr, nI a, wy, nI st, nI wr, nI sp, nI la, bF cl, nF nx, nF ct, bF fb, nF wm, bF rd) uT (nI mn, (fun i => nI (tl i / 9)), (fun i => nI (tl i % 9)), nF Ts, nF Hs) (nI nm, nF lk, nF dl) uG f0 n0 f1 n1 z0F nr z0F nr l3 l5 (nI mn) l7 (nI nr) (nI 0) (nI 0) (nI 0) := by
  have hmn := R_mn2 h
  have hT := in_T hy hh
  have hq := in_q h
  obtain ⟨m1, m2, m3⟩ := hm
  have m1 : nm ≤ 4 := m1
  have mlk : ∀ m, lk m < 8 := fun m => (m2 m).1
  have mdl : ∀ m, dl m < 8 := fun m => (m2 m).2
  obtain ⟨⟨h1, h1b⟩, ⟨h2, h2b⟩, h3, h4, h5, h6, h7, h8, h9, h10, h11, h12, h13, h14, h15, h16, h17, h18, h19, h20, h21, h22, h23⟩ := h
  intro n
  induction n with
  | zero =>
    intro i fuel hi hf
    obtain ⟨f, rfl⟩ : ∃ f, fuel = f + 1 := ⟨fuel - 1, by omega⟩
    rw [p_L_law_L573]
    unfold p_X4_mirrors p_X4_readers
    rw [bd_sm, if_pos (nI_leI (by omega) (by omega) |>.mpr (by omega)), bd_sm, gL_nI (by omega) (by omega), gL_nI (by omega) (by omega), nI_cl (by omega), ← L0]
  | succ n ih =>
    intro i fuel hi hf
    obtain ⟨f, rfl⟩ : ∃ f, fuel = f + 1 := ⟨fuel - 1, by omega⟩
    have hi2 : i < nm := by omega
    obtain ⟨q, q1, q2⟩ := am_le (w := gK lk dl tp tl Ts mn) (p := fun _ => true) nm 0 none i (Or.inr ⟨Nat.zero_le _, by omega, rfl⟩)
    have q3 : q < nm := by
      rcases am_lt _ _ _ _ q1 with e | e
      · cases e
      · omega
    have g1 := gK_le (lk := lk) (dl := dl) (tp := tp) (tl := tl) (Ts := Ts) (mn := mn) (m := i)
    have g2 := gK_le (lk := lk) (dl := dl) (tp := tp) (tl := tl) (Ts := Ts) (mn := mn) (m := q)
    have s1 : sm (gG lk dl tp tl Ts i) mn = gK lk dl tp tl Ts mn i := rfl
    have s2 : sm (gG lk dl tp tl Ts q) mn = gK lk dl tp tl Ts mn q := rfl
    rw [p_L_law_L573]
    unfold p_X4_mirrors
    rw [bd_sm, if_neg (mt (nI_leI (by omega) (by omega)).mp (by omega)), X_gradesBy h6 mlk mdl hmn hq hT m1 hi2, bd_sm, X_kind h6 mlk mdl hmn hq hT m1, bd_sm, q1, show oI (some q) = nI q from rfl, X_gradesBy h6 mlk mdl hmn hq hT m1 q3, bd_sm, s1, s2, if_neg (mt (nI_ltI (by omega) (by omega)).mp (by omega)), bd_sm, L10, nI_mul, if_pos (nI_leI (by omega) (by omega) |>.mpr g1), L1, nI_add]
    exact ih (i + 1) f (by omega) (by omega)
/-- readers -/
theorem wm1_le (hw : ∀ r, wm r ≤ 99) (r : Nat) : wm1 wm rd r ≤ 99 := by
  unfold wm1
  have := hw r
  split <;> omega
theorem w_J692 {rec648 : tX1 → tX0 → tX0 → tX2 → tX3 → tX5 → (Nat → Int32) → Nat → (Nat → Int32) → Nat → (Nat → Int32) → Nat → (Nat → Int32) → Nat → Int32 → Int32 → Int32 → Int32 → Int32 → Int32 → Int32 → Int32 → Option Unit} {f2 f3 : Nat → Int32} {i s u b : Nat} {l5 l6 l13 : Int32} (h : iRx fl lim nr len tp th ta fb hr a wy st wr sp la cl nx ct wm rd mn tl) (hi : i < nr) (hf2 : f2 i = nI (wm1 wm rd i)) (hf3 : f3 i = bI (rd i)) : p_L_law_J692 xv Lc rec22 rec648 (nI fl, nI lim, nI nr, nF len, nF tp, nF th, nF ta) (nI hr, nI a, wy, nI st, nI wr, nI sp, nI la, bF cl, nF nx, nF ct, bF fb, nF wm, bF rd) uT (nI mn, (fun i => nI (tl i / 9)), (fun i => nI (tl i % 9)), nF Ts, nF Hs) (nI nm, nF lk, nF dl) uG f0 n0 f1 n1 f2 nr f3 nr l3 l5 l6 l7 l13 (nI u) (nI i) (nI b) (nI s) = rec648 (nI fl, nI lim, nI nr, nF len, nF tp, nF th, nF ta) (nI hr, nI a, wy, nI st, nI wr, nI sp, nI la, bF cl, nF nx, nF ct, bF fb, nF wm, bF rd) uT (nI mn, (fun i => nI (tl i / 9)), (fun i => nI (tl i % 9)), nF Ts, nF Hs) (nI nm, nF lk, nF dl) uG f0 n0 f1 n1 f2 nr f3 nr l3 l5 l6 l7 l13 (nI (s + b)) (nI (u + wm1 wm rd i)) (nI (i + 1)) := by
  obtain ⟨⟨h1, h1b⟩, ⟨h2, h2b⟩, h3, h4, h5, h6, h7, h8, h9, h10, h11, h12, h13, h14, h15, h16, h17, h18, h19, h20, h21, h22, h23⟩ := h
  have hw := wm1_le (rd := rd) h20 i
  have e0 : ∀ X : Option Unit, gd (nI i) nr X = X := fun X => gd_nI X hi (by omega)
  unfold p_L_law_J692 p_L_law_J739
  rw [e0, nI_cl (by omega), hf2, hf3, if_neg (of_eq_false (nI_neg00 (by omega))), L99, if_neg (mt (nI_ltI (by omega) (by omega)).mp (by omega)), e0, e0]
  cases hc : rd i
  · have e : wm1 wm rd i = 0 := by unfold wm1; rw [hc]; rfl
    rw [if_pos (show bI false = 0 from rfl), e, if_neg (show ¬ (0 : Int32) < nI 0 by decide +kernel), if_pos (show bI false = 0 from rfl), nI_add, nI_add, L1, nI_add]
  · obtain ⟨q, q1, q2⟩ := am_le (w := wm) (p := rd) nr 0 none i (Or.inr ⟨Nat.zero_le _, by omega, hc⟩)
    obtain ⟨q3, q4⟩ : q < nr ∧ rd q = true := by
      rcases am_lt _ _ _ _ q1 with e | e
      · cases e
      · exact ⟨by omega, e.2.2⟩
    have e : wm1 wm rd i = wm i := by unfold wm1; rw [hc]; rfl
    have e2 : wm1 wm rd q = wm q := by unfold wm1; rw [q4]; rfl
    have w1 := h20 i
    have w2 := h20 q
    rw [if_neg (show ¬ bI true = 0 by decide +kernel), if_neg (show ¬ bI true = 0 by decide +kernel), e0, X_warmest h3 h20, bd_sm, q1, show oI (some q) = nI q from rfl, X_warmth h3 q3, bd_sm, e, e2, if_pos (nI_leI (by omega) (by omega) |>.mpr q2), nI_add, nI_add, L1, nI_add]
theorem w_J792 {f2 f3 : Nat → Int32} {l5 l6 l13 : Int32} (h : iRx fl lim nr len tp th ta fb hr a wy st wr sp la cl nx ct wm rd mn tl) : p_L_law_J792 xv Lc rec22 (nI fl, nI lim, nI nr, nF len, nF tp, nF th, nF ta) (nI hr, nI a, wy, nI st, nI wr, nI sp, nI la, bF cl, nF nx, nF ct, bF fb, nF wm, bF rd) uT (nI mn, (fun i => nI (tl i / 9)), (fun i => nI (tl i % 9)), nF Ts, nF Hs) (nI nm, nF lk, nF dl) uG f0 n0 f1 n1 f2 nr f3 nr l3 l5 l6 l7 l13 (nI (cnt rd nr)) (nI (sm (wm1 wm rd) nr)) (if cnt rd nr = 0 then 1 else 0) = (bd (p_X4_liftAt (nI fl, nI lim, nI nr, nF len, nF tp, nF th, nF ta) (nI hr, nI a, wy, nI st, nI wr, nI sp, nI la, bF cl, nF nx, nF ct, bF fb, nF wm, bF rd) uT (nI mn, (fun i => nI (tl i / 9)), (fun i => nI (tl i % 9)), nF Ts, nF Hs) (nI nm, nF lk, nF dl)) (fun v74 => bd (p_X4_stuckFor (nI fl, nI lim, nI nr, nF len, nF tp, nF th, nF ta) (nI hr, nI a, wy, nI st, nI wr, nI sp, nI la, bF cl, nF nx, nF ct, bF fb, nF wm, bF rd) uT (nI mn, (fun i => nI (tl i / 9)), (fun i => nI (tl i % 9)), nF Ts, nF Hs) (nI nm, nF lk, nF dl)) (fun v75 => bd (p_X4_suspense (nI fl, nI lim, nI nr, nF len, nF tp, nF th, nF ta) (nI hr, nI a, wy, nI st, nI wr, nI sp, nI la, bF cl, nF nx, nF ct, bF fb, nF wm, bF rd) uT (nI mn, (fun i => nI (tl i / 9)), (fun i => nI (tl i % 9)), nF Ts, nF Hs) (nI nm, nF lk, nF dl)) (fun v76 => bd (p_X4_cuts (nI fl, nI lim, nI nr, nF len, nF tp, nF th, nF ta) (nI hr, nI a, wy, nI st, nI wr, nI sp, nI la, bF cl, nF nx, nF ct, bF fb, nF wm, bF rd) uT (nI mn, (fun i => nI (tl i / 9)), (fun i => nI (tl i % 9)), nF Ts, nF Hs) (nI nm, nF lk, nF dl)) (fun v77 => bd (p_X4_passHours (nI fl, nI lim, nI nr, nF len, nF tp, nF th, nF ta) (nI hr, nI a, wy, nI st, nI wr, nI sp, nI la, bF cl, nF nx, nF ct, bF fb, nF wm, bF rd) uT (nI mn, (fun i => nI (tl i / 9)), (fun i => nI (tl i % 9)), nF Ts, nF Hs) (nI nm, nF lk, nF dl) (1 : Int32)) (fun v78 => bd (p_X5_pass uG) (fun v79 => bd (p_X4_liftAt (nI fl, nI lim, nI nr, nF len, nF tp, nF th, nF ta) v78.2.1 uT v78.2.2 (nI nm, nF lk, nF dl)) (fun v81 => p_L_law_L881 xv Lc rec22 200 (nI fl, nI lim, nI nr, nF len, nF tp, nF th, nF ta) v78.2.1 uT v78.2.2 (nI nm, nF lk, nF dl) v79 f0 n0 f1 n1 f2 nr f3 nr l3 l5 l6 l7 l13 v74 v75 v76 v77 v78.1 (v81 - v74) (0 : Int32) (0 : Int32))))))))) := by
  obtain ⟨⟨h1, h1b⟩, ⟨h2, h2b⟩, h3, h4, h5, h6, h7, h8, h9, h10, h11, h12, h13, h14, h15, h16, h17, h18, h19, h20, h21, h22, h23⟩ := h
  have hc := cnt_le nr rd
  have hs : sm (wm1 wm rd) nr ≤ nr * 99 := by
    rw [← sm_c]
    exact sm_le nr (fun j _ => wm1_le h20 j)
  have hs2 : nr * 99 ≤ 8 * 99 := Nat.mul_le_mul_right _ h3
  unfold p_L_law_J792 p_L_law_J802
  rw [X_mean h3 h20]
  by_cases h0 : cnt rd nr = 0
  · rw [if_pos h0, h0, if_pos (show nI 0 = 0 by decide +kernel), if_pos rfl, bd_sm, if_pos rfl, if_pos (show nI 0 = 0 by decide +kernel)]
    unfold p_L_law_J825
    rw [if_pos cmp0]
  · have e : ¬ nI (cnt rd nr) = 0 := by rw [nI_eq0 (by omega)]; exact h0
    rw [if_neg h0, if_neg e, if_pos rfl, bd_sm, if_neg e, if_neg h0, gq_in (okQ_1 (by omega) (by omega) (by omega))]
    unfold p_L_law_J825
    rw [if_pos (okQ_2 (by omega) (by omega) (by omega))]
theorem w_L648 {l5 l6 : Int32} (h : iRx fl lim nr len tp th ta fb hr a wy st wr sp la cl nx ct wm rd mn tl) : ∀ n i fuel, i + n = nr → n < fuel → p_L_law_L648 xv Lc rec22 fuel (nI fl, nI lim, nI nr, nF len, nF tp, nF th, nF ta) (nI hr, nI a, wy, nI st, nI wr, nI sp, nI la, bF cl, nF nx, nF ct, bF fb, nF wm, bF rd) uT (nI mn, (fun i => nI (tl i / 9)), (fun i => nI (tl i % 9)), nF Ts, nF Hs) (nI nm, nF lk, nF dl) uG f0 n0 f1 n1 (mixF (nF (wm1 wm rd)) z0F i) nr (mixF (bF rd) z0F i) nr l3 l5 l6 l7 (nI nr) (nI (cnt rd i)) (nI (sm (wm1 wm rd) i)) (nI i) = p_L_law_J792 xv Lc rec22 (nI fl, nI lim, nI nr, nF len, nF tp, nF th, nF ta) (nI hr, nI a, wy, nI st, nI wr, nI sp, nI la, bF cl, nF nx, nF ct, bF fb, nF wm, bF rd) uT (nI mn, (fun i => nI (tl i / 9)), (fun i => nI (tl i % 9)), nF Ts, nF Hs) (nI nm, nF lk, nF dl) uG f0 n0 f1 n1 (mixF (nF (wm1 wm rd)) z0F nr) nr (mixF (bF rd) z0F nr) nr l3 l5 l6 l7 (nI nr) (nI (cnt rd nr)) (nI (sm (wm1 wm rd) nr)) (if cnt rd nr = 0 then 1 else 0) := by
  have h00 := h
  obtain ⟨⟨h1, h1b⟩, ⟨h2, h2b⟩, h3, h4, h5, h6, h7, h8, h9, h10, h11, h12, h13, h14, h15, h16, h17, h18, h19, h20, h21, h22, h23⟩ := h
  have hc := cnt_le nr rd
  intro n
  induction n with
  | zero =>
    intro i fuel hi hf
    obtain ⟨f, rfl⟩ : ∃ f, fuel = f + 1 := ⟨fuel - 1, by omega⟩
    have : i = nr := by omega
    subst this
    rw [p_L_law_L648, if_pos (nI_leI (by omega) (by omega) |>.mpr (Nat.le_refl _)), X_subs h3, bd_sm, if_pos rfl, X_warmest h3 h20, bd_sm]
    cases hb : am wm rd i 0 none with
    | none =>
      have h0 : cnt rd i = 0 := cnt_0 fun j hj => by
        cases hq : rd j
        · rfl
        · obtain ⟨q, q1, q2⟩ := am_le (w := wm) (p := rd) i 0 none j (Or.inr ⟨Nat.zero_le _, by omega, hq⟩)
          rw [hb] at q1; cases q1
      rw [show oI none = m1 from rfl, if_neg (of_eq_false m1_pos0), if_pos h0]
    | some q =>
      obtain ⟨q3, q4⟩ : q < i ∧ rd q = true := by
        rcases am_lt _ _ _ _ hb with e | e
        · cases e
        · exact ⟨by omega, e.2.2⟩
      rw [show oI (some q) = nI q from rfl, if_pos (of_eq_true (nI_pos0 (by omega))), if_neg (cnt_ne q3 q4)]
  | succ n ih =>
    intro i fuel hi hf
    obtain ⟨f, rfl⟩ : ∃ f, fuel = f + 1 := ⟨fuel - 1, by omega⟩
    have hi2 : i < nr := by omega
    have e0 : ∀ X : Option Unit, gd (nI i) nr X = X := fun X => gd_nI X hi2 (by omega)
    have st : p_L_law_J692 xv Lc rec22 (p_L_law_L648 xv Lc rec22 f) (nI fl, nI lim, nI nr, nF len, nF tp, nF th, nF ta) (nI hr, nI a, wy, nI st, nI wr, nI sp, nI la, bF cl, nF nx, nF ct, bF fb, nF wm, bF rd) uT (nI mn, (fun i => nI (tl i / 9)), (fun i => nI (tl i % 9)), nF Ts, nF Hs) (nI nm, nF lk, nF dl) uG f0 n0 f1 n1 (mixF (nF (wm1 wm rd)) z0F (i + 1)) nr (mixF (bF rd) z0F (i + 1)) nr l3 l5 l6 l7 (nI nr) (nI (sm (wm1 wm rd) i)) (nI i) (nI (b1 (rd i))) (nI (cnt rd i)) = p_L_law_J792 xv Lc rec22 (nI fl, nI lim, nI nr, nF len, nF tp, nF th, nF ta) (nI hr, nI a, wy, nI st, nI wr, nI sp, nI la, bF cl, nF nx, nF ct, bF fb, nF wm, bF rd) uT (nI mn, (fun i => nI (tl i / 9)), (fun i => nI (tl i % 9)), nF Ts, nF Hs) (nI nm, nF lk, nF dl) uG f0 n0 f1 n1 (mixF (nF (wm1 wm rd)) z0F nr) nr (mixF (bF rd) z0F nr) nr l3 l5 l6 l7 (nI nr) (nI (cnt rd nr)) (nI (sm (wm1 wm rd) nr)) (if cnt rd nr = 0 then 1 else 0) := by
      rw [w_J692 h00 hi2 (mixF_at (by omega)) (mixF_at (by omega)), ← cnt_succ, ← sm_succ]
      exact ih (i + 1) f (by omega) (by omega)
    rw [p_L_law_L648, if_neg (mt (nI_leI (by omega) (by omega)).mp (by omega)), X_warmth h3 hi2, bd_sm, e0, X_isSub h3 hi2, bd_sm, e0, nI_cl (by omega), nar_bI, mixF_b, mixF_n, mixF_at (by omega)]
    rw [← st]
    cases hc : rd i
    · rw [if_pos (show bF rd i = 0 by show bI (rd i) = 0; rw [hc]; rfl)]; rfl
    · rw [if_neg (show ¬ bF rd i = 0 by show ¬ bI (rd i) = 0; rw [hc]; decide +kernel)]; rfl
end
