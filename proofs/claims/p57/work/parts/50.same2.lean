/-! THE PURE PART: class and law's own are the same, as asked -/
section
variable {hr a st wr sp la : Nat} {wy : Int32} {cl fb rd : Nat → Bool} {nx ct wm : Nat → Nat} {fl lim nr : Nat} {len tp th ta : Nat → Nat} {sd : Int32} {nm mn : Nat} {lk dl tl Ts Hs : Nat → Nat} {uT : tX0}
theorem q_L695 (h : iRx fl lim nr len tp th ta fb hr a wy st wr sp la cl nx ct wm rd mn tl) (hy : iRy th nx hr mn tl Ts Hs) (hm : oM4 (nm, lk, dl)) (hh : hr < 1000000) : ∀ n i fuel bk, i + n = nm → n < fuel → (∀ k, bk = some k → k < i) → am (gK lk dl tp tl Ts mn) (fun _ => true) n i bk = am (gK lk dl tp tl Ts mn) (fun _ => true) nm 0 none → p_X5_isSame_L695 fuel (nI fl, nI lim, nI nr, nF len, nF tp, nF th, nF ta) (nI hr, nI a, wy, nI st, nI wr, nI sp, nI la, bF cl, nF nx, nF ct, bF fb, nF wm, bF rd) uT (nI mn, (fun i => nI (tl i / 9)), (fun i => nI (tl i % 9)), nF Ts, nF Hs) (nI nm, nF lk, nF dl) (nI hr, nI a, wy, nI st, nI wr, nI lim, nI sp, (fl, bF cl), bF fb, (fl, sCh len nx ct tp th), (nr, sRd nr ta wm rd), (nm, sMi nm lk dl), (mn, sPr mn tl Ts Hs tp th), sd) (oI (am Ts (fun _ => true) mn 0 none)) (nI (fo (wtS Hs) mn 0 0)) (nI (fo (cbS tl) mn 0 0)) (oI (am wm rd nr 0 none)) (oI bk) (oV (gK lk dl tp tl Ts mn) bk) (nI i) = some (1 : Int32) := by
  have hmn := R_mn2 h
  have hT := in_T hy hh
  have hq := in_q h
  have h00 := h
  have hm0 := hm
  obtain ⟨hnm, m2, m3⟩ := hm
  have hnm : nm ≤ 4 := hnm
  have mlk : ∀ m, lk m < 8 := fun m => (m2 m).1
  have mdl : ∀ m, dl m < 8 := fun m => (m2 m).2
  obtain ⟨⟨h1, h1b⟩, ⟨h2, h2b⟩, h3, h4, h5, h6, h7, h8, h9, h10, h11, h12, h13, h14, h15, h16, h17, h18, h19, h20, h21, h22, h23⟩ := h
  have hc := cnt_le nr rd
  have hs : sm (wm1 wm rd) nr ≤ nr * 99 := by
    rw [← sm_c]
    exact sm_le nr (fun j _ => wm1_le h20 j)
  have hs2 : nr * 99 ≤ 8 * 99 := Nat.mul_le_mul_right _ h3
  intro n
  induction n with
  | zero =>
    intro i fuel bk hi hf hb he
    obtain ⟨f, rfl⟩ : ∃ f, fuel = f + 1 := ⟨fuel - 1, by omega⟩
    rw [am_0] at he
    rw [p_X5_isSame_L695]
    dsimp only
    rw [if_pos (nI_leI (by omega) (by omega) |>.mpr (by omega)), X_most hmn hT, bd_sm, if_pos rfl, X_wait hmn hh hy.2.2.1 hy.2.2.2.1, bd_sm, if_pos rfl, X_climbs hmn hq, bd_sm, if_pos rfl, X_warmest h3 h20, bd_sm, if_pos rfl, X_kind h6 mlk mdl hmn hq hT hnm, bd_sm, he, if_pos rfl, X_mean h3 h20, bd_sm, sS_subs h3, bd_sm]
    unfold p_X5_isSame_J920
    by_cases h0 : cnt rd nr = 0
    · rw [if_pos h0, h0, if_pos (show nI 0 = 0 by decide +kernel), if_pos cmp0]
    · rw [if_neg h0, if_neg (by rw [nI_eq0 (by omega)]; exact h0), sS_warm h3, bd_sm, bd_sm, gq_in (okQ_1 (by omega) (by omega) (by omega)), if_pos (okQ_2 (by omega) (by omega) (by omega))]
  | succ n ih =>
    intro i fuel bk hi hf hb he
    obtain ⟨f, rfl⟩ : ∃ f, fuel = f + 1 := ⟨fuel - 1, by omega⟩
    have hi2 : i < nm := by omega
    rw [am_s] at he
    rw [p_X5_isSame_L695]
    dsimp only
    rw [if_neg (mt (nI_leI (by omega) (by omega)).mp (by omega))]
    have e := q_L714 (uT := uT) (sd := sd) (rec695 := p_X5_isSame_L695 f) (l4 := oI (am Ts (fun _ => true) mn 0 none)) (l5 := nI (fo (wtS Hs) mn 0 0)) (l6 := nI (fo (cbS tl) mn 0 0)) (l7 := oI (am wm rd nr 0 none)) (m := i) (bk := bk) h00 hy hm0 hh hi2 mn 0 200 none (by omega) (by omega) (fun k h => nomatch h)
    rw [q_J819 h00 hy hm0 hh hi2] at e
    rw [L0]
    refine e.trans ?_
    exact ih (i + 1) f _ (by omega) (by omega) (amS_b hb) he
theorem q_J625 {rec573 : tX1 → tX0 → tX0 → tX2 → tX3 → tX5 → Int32 → Int32 → Int32 → Int32 → Int32 → Option Int32} {l4 l5 l6 l7 : Int32} {i : Nat} (h : iRx fl lim nr len tp th ta fb hr a wy st wr sp la cl nx ct wm rd mn tl) (hi : i < nr) : p_X5_isSame_J625 rec573 (nI fl, nI lim, nI nr, nF len, nF tp, nF th, nF ta) (nI hr, nI a, wy, nI st, nI wr, nI sp, nI la, bF cl, nF nx, nF ct, bF fb, nF wm, bF rd) uT (nI mn, (fun i => nI (tl i / 9)), (fun i => nI (tl i % 9)), nF Ts, nF Hs) (nI nm, nF lk, nF dl) (nI hr, nI a, wy, nI st, nI wr, nI lim, nI sp, (fl, bF cl), bF fb, (fl, sCh len nx ct tp th), (nr, sRd nr ta wm rd), (nm, sMi nm lk dl), (mn, sPr mn tl Ts Hs tp th), sd) i l4 l5 l6 l7 (nI i) = rec573 (nI fl, nI lim, nI nr, nF len, nF tp, nF th, nF ta) (nI hr, nI a, wy, nI st, nI wr, nI sp, nI la, bF cl, nF nx, nF ct, bF fb, nF wm, bF rd) uT (nI mn, (fun i => nI (tl i / 9)), (fun i => nI (tl i % 9)), nF Ts, nF Hs) (nI nm, nF lk, nF dl) (nI hr, nI a, wy, nI st, nI wr, nI lim, nI sp, (fl, bF cl), bF fb, (fl, sCh len nx ct tp th), (nr, sRd nr ta wm rd), (nm, sMi nm lk dl), (mn, sPr mn tl Ts Hs tp th), sd) l4 l5 l6 l7 (nI (i + 1)) := by
  obtain ⟨⟨h1, h1b⟩, ⟨h2, h2b⟩, h3, h4, h5, h6, h7, h8, h9, h10, h11, h12, h13, h14, h15, h16, h17, h18, h19, h20, h21, h22, h23⟩ := h
  have e0 : ∀ X : Option Int32, gN i nr X = X := fun X => gN_in hi
  have w1 := h20 i
  have g0 : ∀ X : Option Int32, gd (0 : Int32) 3 X = X := fun X => by rw [L0]; exact gd_nI X (by omega) (by omega)
  have g1 : ∀ X : Option Int32, gd (1 : Int32) 3 X = X := fun X => by rw [L1]; exact gd_nI X (by omega) (by omega)
  have g2 : ∀ X : Option Int32, gd (2 : Int32) 3 X = X := fun X => by rw [L2]; exact gd_nI X (by omega) (by omega)
  unfold p_X5_isSame_J625 p_X5_isSame_J675
  dsimp only
  rw [X_taste h3 hi, bd_sm, e0, sRd_1 hi, sRd_t hi, g0, if_pos rfl, X_warmth h3 hi, bd_sm, g1, g2, sRd_w hi, sRd_r hi, X_isSub h3 hi, bd_sm]
  have e : nI (wm1 wm rd i) = nI (wm i) * bI (rd i) := by
    unfold wm1
    cases rd i
    · rw [bI_f0, nI_mul]; rfl
    · rw [bI_t1, nI_mul, Nat.mul_one]; rfl
  rw [if_pos e, L1, nI_add, ← L1]
  cases rd i
  · rw [if_neg (show ¬ bI false = 1 by decide +kernel), if_pos (show bI false = 0 from rfl)]
  · rw [if_pos (show bI true = 1 from rfl), if_pos (show bI true = 1 from rfl)]
theorem q_L573 (h : iRx fl lim nr len tp th ta fb hr a wy st wr sp la cl nx ct wm rd mn tl) (hy : iRy th nx hr mn tl Ts Hs) (hm : oM4 (nm, lk, dl)) (hh : hr < 1000000) : ∀ n i fuel b, i + n = nr → n < fuel → (∀ k, b = some k → k < i ∧ rd k = true) → am wm rd n i b = am wm rd nr 0 none → p_X5_isSame_L573 fuel (nI fl, nI lim, nI nr, nF len, nF tp, nF th, nF ta) (nI hr, nI a, wy, nI st, nI wr, nI sp, nI la, bF cl, nF nx, nF ct, bF fb, nF wm, bF rd) uT (nI mn, (fun i => nI (tl i / 9)), (fun i => nI (tl i % 9)), nF Ts, nF Hs) (nI nm, nF lk, nF dl) (nI hr, nI a, wy, nI st, nI wr, nI lim, nI sp, (fl, bF cl), bF fb, (fl, sCh len nx ct tp th), (nr, sRd nr ta wm rd), (nm, sMi nm lk dl), (mn, sPr mn tl Ts Hs tp th), sd) (oI (am Ts (fun _ => true) mn 0 none)) (nI (fo (wtS Hs) mn 0 0)) (nI (fo (cbS tl) mn 0 0)) (oI b) (nI i) = some (1 : Int32) := by
  have h00 := h
  have hnm : nm ≤ 4 := hm.1
  obtain ⟨⟨h1, h1b⟩, ⟨h2, h2b⟩, h3, h4, h5, h6, h7, h8, h9, h10, h11, h12, h13, h14, h15, h16, h17, h18, h19, h20, h21, h22, h23⟩ := h
  intro n
  induction n with
  | zero =>
    intro i fuel b hi hf hb he
    obtain ⟨f, rfl⟩ : ∃ f, fuel = f + 1 := ⟨fuel - 1, by omega⟩
    rw [am_0] at he
    rw [p_X5_isSame_L573]
    dsimp only
    rw [if_pos (nI_leI (by omega) (by omega) |>.mpr (by omega)), he, L0]
    exact q_L695 h00 hy hm hh nm 0 200 none (by omega) (by omega) (fun k h => nomatch h) rfl
  | succ n ih =>
    intro i fuel b hi hf hb he
    obtain ⟨f, rfl⟩ : ∃ f, fuel = f + 1 := ⟨fuel - 1, by omega⟩
    have hi2 : i < nr := by omega
    rw [am_s] at he
    have g2 : ∀ X : Option Int32, gd (2 : Int32) 3 X = X := fun X => by rw [L2]; exact gd_nI X (by omega) (by omega)
    have g1 : ∀ X : Option Int32, gd (1 : Int32) 3 X = X := fun X => by rw [L1]; exact gd_nI X (by omega) (by omega)
    rw [p_X5_isSame_L573]
    unfold p_X5_isSame_J621
    dsimp only
    rw [if_neg (mt (nI_leI (by omega) (by omega)).mp (by omega)), gd_nI _ hi2 (by omega), nI_cl (by omega), sRd_1 hi2, g2, sRd_r hi2, q_J625 h00 hi2, q_J625 h00 hi2]
    cases hc : rd i
    · rw [amS_f hc] at he
      rw [if_neg (show ¬ bI false = 1 by decide +kernel)]
      exact ih (i + 1) f b (by omega) (by omega) (fun k hk => ⟨by have := (hb k hk).1; omega, (hb k hk).2⟩) he
    · rw [if_pos (show bI true = 1 from rfl)]
      cases b with
      | none =>
        rw [amS_n hc] at he
        rw [if_pos (show oI none < 0 by decide +kernel)]
        exact ih (i + 1) f (some i) (by omega) (by omega) (fun k hk => by cases hk; exact ⟨by omega, hc⟩) he
      | some q =>
        obtain ⟨hq1, hq2⟩ := hb q rfl
        have hq3 : q < nr := by omega
        have w1 := h20 i
        have w2 := h20 q
        rw [show oI (some q) = nI q from rfl, if_neg (show ¬ nI q < 0 from of_eq_false (nI_neg00 (by omega))), g1, gd_nI _ hq3 (by omega), nI_cl (by omega), sRd_1 hq3, g1, sRd_w hi2, sRd_w hq3]
        by_cases e : wm i ≤ wm q
        · rw [amS_l hc e] at he
          rw [if_pos (nI_leI (by omega) (by omega) |>.mpr e)]
          exact ih (i + 1) f (some q) (by omega) (by omega) (fun k hk => by cases hk; exact ⟨by omega, hq2⟩) he
        · rw [amS_g hc e] at he
          rw [if_neg (mt (nI_leI (by omega) (by omega)).mp e)]
          exact ih (i + 1) f (some i) (by omega) (by omega) (fun k hk => by cases hk; exact ⟨by omega, hc⟩) he
theorem q_J507 {rec409 : tX1 → tX0 → tX0 → tX2 → tX3 → tX5 → Int32 → Int32 → Int32 → Int32 → Option Int32} {l4 l5 l6 : Int32} {i : Nat} (hmn : mn ≤ 108) (hi : i < mn) : p_X5_isSame_J507 rec409 (nI fl, nI lim, nI nr, nF len, nF tp, nF th, nF ta) (nI hr, nI a, wy, nI st, nI wr, nI sp, nI la, bF cl, nF nx, nF ct, bF fb, nF wm, bF rd) uT (nI mn, (fun i => nI (tl i / 9)), (fun i => nI (tl i % 9)), nF Ts, nF Hs) (nI nm, nF lk, nF dl) (nI hr, nI a, wy, nI st, nI wr, nI lim, nI sp, (fl, bF cl), bF fb, (fl, sCh len nx ct tp th), (nr, sRd nr ta wm rd), (nm, sMi nm lk dl), (mn, sPr mn tl Ts Hs tp th), sd) i l4 l5 l6 (nI i) = rec409 (nI fl, nI lim, nI nr, nF len, nF tp, nF th, nF ta) (nI hr, nI a, wy, nI st, nI wr, nI sp, nI la, bF cl, nF nx, nF ct, bF fb, nF wm, bF rd) uT (nI mn, (fun i => nI (tl i / 9)), (fun i => nI (tl i % 9)), nF Ts, nF Hs) (nI nm, nF lk, nF dl) (nI hr, nI a, wy, nI st, nI wr, nI lim, nI sp, (fl, bF cl), bF fb, (fl, sCh len nx ct tp th), (nr, sRd nr ta wm rd), (nm, sMi nm lk dl), (mn, sPr mn tl Ts Hs tp th), sd) l4 l5 l6 (nI (i + 1)) := by
  have e0 : ∀ X : Option Int32, gN i mn X = X := fun X => gN_in hi
  have g0 : ∀ X : Option Int32, gd (0 : Int32) 6 X = X := fun X => by rw [L0]; exact gd_nI X (by omega) (by omega)
  have g1 : ∀ X : Option Int32, gd (1 : Int32) 6 X = X := fun X => by rw [L1]; exact gd_nI X (by omega) (by omega)
  have g4 : ∀ X : Option Int32, gd (4 : Int32) 6 X = X := fun X => by rw [L4]; exact gd_nI X (by omega) (by omega)
  have g5 : ∀ X : Option Int32, gd (5 : Int32) 6 X = X := fun X => by rw [L5]; exact gd_nI X (by omega) (by omega)
  unfold p_X5_isSame_J507
  dsimp only
  rw [X_floorIn hmn hi, bd_sm, e0, sPr_1 hi, g0, sPr_a hi, if_pos rfl, X_paraIn hmn hi, bd_sm, g1, sPr_p hi, if_pos rfl, X_thrillIn hmn hi, bd_sm, g4, sPr_s hi, if_pos rfl, X_hourIn hmn hi, bd_sm, g5, sPr_h hi, if_pos rfl, L1, nI_add]
theorem q_J453 {rec409 : tX1 → tX0 → tX0 → tX2 → tX3 → tX5 → Int32 → Int32 → Int32 → Int32 → Option Int32} {l4 : Int32} {i v c : Nat} (h : iRx fl lim nr len tp th ta fb hr a wy st wr sp la cl nx ct wm rd mn tl) (hy : iRy th nx hr mn tl Ts Hs) (hh : hr < 1000000) (hi : i < mn) (hv : v ≤ hr) : p_X5_isSame_J453 rec409 (nI fl, nI lim, nI nr, nF len, nF tp, nF th, nF ta) (nI hr, nI a, wy, nI st, nI wr, nI sp, nI la, bF cl, nF nx, nF ct, bF fb, nF wm, bF rd) uT (nI mn, (fun i => nI (tl i / 9)), (fun i => nI (tl i % 9)), nF Ts, nF Hs) (nI nm, nF lk, nF dl) (nI hr, nI a, wy, nI st, nI wr, nI lim, nI sp, (fl, bF cl), bF fb, (fl, sCh len nx ct tp th), (nr, sRd nr ta wm rd), (nm, sMi nm lk dl), (mn, sPr mn tl Ts Hs tp th), sd) i l4 (nI v) (nI c) (nI i) = rec409 (nI fl, nI lim, nI nr, nF len, nF tp, nF th, nF ta) (nI hr, nI a, wy, nI st, nI wr, nI sp, nI la, bF cl, nF nx, nF ct, bF fb, nF wm, bF rd) uT (nI mn, (fun i => nI (tl i / 9)), (fun i => nI (tl i % 9)), nF Ts, nF Hs) (nI nm, nF lk, nF dl) (nI hr, nI a, wy, nI st, nI wr, nI lim, nI sp, (fl, bF cl), bF fb, (fl, sCh len nx ct tp th), (nr, sRd nr ta wm rd), (nm, sMi nm lk dl), (mn, sPr mn tl Ts Hs tp th), sd) l4 (nI (wtS Hs i v)) (nI (cbS tl i c)) (nI (i + 1)) := by
  have hmn := R_mn2 h
  have hq := in_q h
  have g0 : ∀ X : Option Int32, gd (0 : Int32) 6 X = X := fun X => by rw [L0]; exact gd_nI X (by omega) (by omega)
  have g5 : ∀ X : Option Int32, gd (5 : Int32) 6 X = X := fun X => by rw [L5]; exact gd_nI X (by omega) (by omega)
  unfold p_X5_isSame_J453 p_X5_isSame_J481
  dsimp only
  by_cases e : i = 0
  · subst e
    have p0 : (nI 0 ≤ 0) := by decide +kernel
    rw [if_pos p0, if_pos p0, q_J507 hmn hi]
    rfl
  · have hi1 : i - 1 < mn := by omega
    have n0 : ¬ nI i ≤ 0 := by rw [nI_le0 (by omega)]; exact e
    have b1 := hy.2.2.1 i hi
    have b2 := hy.2.2.1 (i - 1) hi1
    have b3 := hy.2.2.2.1 (i - 1) i (by omega) hi
    have b4 := hq i hi
    have b5 := hq (i - 1) hi1
    have e1 : nI i - 1 = nI (i - 1) := by rw [L1, nI_sub (by omega)]
    have ec : (nI (i - 1)).toNatClampNeg = i - 1 := nI_cl (by omega)
    have gi : ∀ X : Option Int32, gN i mn X = X := fun X => gN_in hi
    have gj : ∀ X : Option Int32, gd (nI (i - 1)) mn X = X := fun X => gd_nI X hi1 (by omega)
    have ew : (if nI v < nI (Hs i) - nI (Hs (i - 1)) then nI (Hs i) - nI (Hs (i - 1)) else nI v) = nI (wtS Hs i v) := by
      unfold wtS
      rw [if_neg e, nI_sub (by omega)]
      by_cases q : v < Hs i - Hs (i - 1)
      · rw [if_pos q, if_pos (nI_ltI (by omega) (by omega) |>.mpr q)]
      · rw [if_neg q, if_neg (mt (nI_ltI (by omega) (by omega)).mp q)]
    rw [if_neg n0, gi, sPr_1 hi, g5, e1, gj, ec, sPr_1 hi1, g5, sPr_h hi, sPr_h hi1, ew, if_neg n0, gi, g0, gj, g0, sPr_a hi, sPr_a hi1, q_J507 hmn hi, L1, nI_add, q_J507 hmn hi]
    unfold cbS
    rw [if_neg e]
    by_cases q : tl i / 9 ≤ tl (i - 1) / 9
    · rw [if_pos q, if_pos (nI_leI (by omega) (by omega) |>.mpr q)]
    · rw [if_neg q, if_neg (mt (nI_leI (by omega) (by omega)).mp q)]
theorem q_L409 (h : iRx fl lim nr len tp th ta fb hr a wy st wr sp la cl nx ct wm rd mn tl) (hy : iRy th nx hr mn tl Ts Hs) (hm : oM4 (nm, lk, dl)) (hh : hr < 1000000) : ∀ n i fuel b v c, i + n = mn → n < fuel → (∀ k, b = some k → k < i) → v ≤ hr → am Ts (fun _ => true) n i b = am Ts (fun _ => true) mn 0 none → fo (wtS Hs) n i v = fo (wtS Hs) mn 0 0 → fo (cbS tl) n i c = fo (cbS tl) mn 0 0 → p_X5_isSame_L409 fuel (nI fl, nI lim, nI nr, nF len, nF tp, nF th, nF ta) (nI hr, nI a, wy, nI st, nI wr, nI sp, nI la, bF cl, nF nx, nF ct, bF fb, nF wm, bF rd) uT (nI mn, (fun i => nI (tl i / 9)), (fun i => nI (tl i % 9)), nF Ts, nF Hs) (nI nm, nF lk, nF dl) (nI hr, nI a, wy, nI st, nI wr, nI lim, nI sp, (fl, bF cl), bF fb, (fl, sCh len nx ct tp th), (nr, sRd nr ta wm rd), (nm, sMi nm lk dl), (mn, sPr mn tl Ts Hs tp th), sd) (oI b) (nI v) (nI c) (nI i) = some (1 : Int32) := by
  have h00 := h
  have hmn := R_mn2 h
  have hT := in_T hy hh
  have hn8 : nr ≤ 8 := h.2.2.1
  intro n
  induction n with
  | zero =>
    intro i fuel b v c hi hf hb hv he ew ec
    obtain ⟨f, rfl⟩ : ∃ f, fuel = f + 1 := ⟨fuel - 1, by omega⟩
    rw [am_0] at he
    have ew : v = fo (wtS Hs) mn 0 0 := ew
    have ec : c = fo (cbS tl) mn 0 0 := ec
    rw [p_X5_isSame_L409]
    dsimp only
    rw [if_pos (nI_leI (by omega) (by omega) |>.mpr (by omega)), he, ew, ec, L0]
    exact q_L573 h00 hy hm hh nr 0 200 none (by omega) (by omega) (fun k h => nomatch h) rfl
  | succ n ih =>
    intro i fuel b v c hi hf hb hv he ew ec
    obtain ⟨f, rfl⟩ : ∃ f, fuel = f + 1 := ⟨fuel - 1, by omega⟩
    have hi2 : i < mn := by omega
    have g4 : ∀ X : Option Int32, gd (4 : Int32) 6 X = X := fun X => by rw [L4]; exact gd_nI X (by omega) (by omega)
    have w1 := hT i hi2
    rw [am_s] at he
    rw [fo_s] at ew ec
    have k := ih (i + 1) f (amS Ts (fun _ => true) i b) (wtS Hs i v) (cbS tl i c) (by omega) (by omega) (amS_b hb) (wtS_le hy.2.2.1 hi2 hv) he ew ec
    rw [p_X5_isSame_L409]
    unfold p_X5_isSame_J449
    dsimp only
    rw [if_neg (mt (nI_leI (by omega) (by omega)).mp (by omega)), gd_nI _ hi2 (by omega), nI_cl (by omega), q_J453 h00 hy hh hi2 hv, q_J453 h00 hy hh hi2 hv]
    cases b with
    | none =>
      rw [amS_n rfl] at k
      rw [if_pos (show oI none < 0 by decide +kernel)]
      exact k
    | some q =>
      have hq1 := hb q rfl
      have hq2 : q < mn := by omega
      have w2 := hT q hq2
      rw [show oI (some q) = nI q from rfl, if_neg (show ¬ nI q < 0 from of_eq_false (nI_neg00 (by omega))), sPr_1 hi2, g4, gd_nI _ hq2 (by omega), nI_cl (by omega), sPr_1 hq2, g4, sPr_s hi2, sPr_s hq2]
      by_cases e : Ts i ≤ Ts q
      · rw [amS_l rfl e] at k
        rw [if_pos (nI_leI (by omega) (by omega) |>.mpr e)]
        exact k
      · rw [amS_g rfl e] at k
        rw [if_neg (mt (nI_leI (by omega) (by omega)).mp e)]
        exact k
theorem q_L353 (h : iRx fl lim nr len tp th ta fb hr a wy st wr sp la cl nx ct wm rd mn tl) (hy : iRy th nx hr mn tl Ts Hs) (hm : oM4 (nm, lk, dl)) (hh : hr < 1000000) {f0 : Nat → Int32} (hf0 : ∀ t, t < 8 → f0 t = nI (tcG len nx tp fl t)) : ∀ n i fuel, i + n = 8 → n < fuel → p_X5_isSame_L353 fuel (nI fl, nI lim, nI nr, nF len, nF tp, nF th, nF ta) (nI hr, nI a, wy, nI st, nI wr, nI sp, nI la, bF cl, nF nx, nF ct, bF fb, nF wm, bF rd) uT (nI mn, (fun i => nI (tl i / 9)), (fun i => nI (tl i % 9)), nF Ts, nF Hs) (nI nm, nF lk, nF dl) (nI hr, nI a, wy, nI st, nI wr, nI lim, nI sp, (fl, bF cl), bF fb, (fl, sCh len nx ct tp th), (nr, sRd nr ta wm rd), (nm, sMi nm lk dl), (mn, sPr mn tl Ts Hs tp th), sd) f0 (nI i) = some (1 : Int32) := by
  have h00 := h
  have hmn := R_mn2 h
  obtain ⟨⟨h1, h1b⟩, ⟨h2, h2b⟩, h3, h4, h5, h6, h7, h8, h9, h10, h11, h12, h13, h14, h15, h16, h17, h18, h19, h20, h21, h22, h23⟩ := h
  intro n
  induction n with
  | zero =>
    intro i fuel hi hf
    obtain ⟨f, rfl⟩ : ∃ f, fuel = f + 1 := ⟨fuel - 1, by omega⟩
    rw [p_X5_isSame_L353, L8, if_pos (nI_leI (by omega) (by omega) |>.mpr (by omega)), L0]
    exact q_L409 h00 hy hm hh mn 0 200 none 0 0 (by omega) (by omega) (fun k h => nomatch h) (Nat.zero_le _) rfl rfl rfl
  | succ n ih =>
    intro i fuel hi hf
    obtain ⟨f, rfl⟩ : ∃ f, fuel = f + 1 := ⟨fuel - 1, by omega⟩
    have hi2 : i < 8 := by omega
    have k := ih (i + 1) f (by omega) (by omega)
    rw [p_X5_isSame_L353, L8, if_neg (mt (nI_leI (by omega) (by omega)).mp (by omega))]
    dsimp only
    rw [X_forb hi2, bd_sm, gd_nI _ hi2 (by omega), nI_cl (by omega), if_pos (show bI (fb i) = bF fb i from rfl), X_toCome h4 h17 h6 h1b hi2, bd_sm, hf0 i hi2, if_pos rfl, L1, nI_add]
    exact k
/-- the law's own count of what is to come -/
def tcA (len nx tp : Nat → Nat) (k j : Nat) : Nat → Nat := fun t => sm (tcF len nx tp t) k + sF (tcI tp t k) (nx k) (j - nx k)
theorem sF_succ (w : Nat → Nat) (i n : Nat) : sF w i (n + 1) = sF w i n + w (i + n) := by
  rw [sF_add w n i 1, sF, sF, Nat.add_zero]
theorem tcA_skip {k j : Nat} (hj : j < nx k) : tcA len nx tp k (j + 1) = tcA len nx tp k j := by
  funext t
  unfold tcA
  rw [show j + 1 - nx k = 0 by omega, show j - nx k = 0 by omega]
theorem tcA_put {k j : Nat} (hj : nx k ≤ j) : tcA len nx tp k (j + 1) = ud (tcA len nx tp k j) (tp (9 * k + j)) (tcA len nx tp k j (tp (9 * k + j)) + 1) := by
  funext t
  have e : tcA len nx tp k (j + 1) t = tcA len nx tp k j t + tcI tp t k j := by
    unfold tcA
    rw [show j + 1 - nx k = (j - nx k) + 1 by omega, sF_succ, show nx k + (j - nx k) = j by omega]
    omega
  rw [e]
  unfold tcI
  by_cases q : t = tp (9 * k + j)
  · subst q
    rw [ud_at, decide_eq_true rfl]; rfl
  · rw [ud_ne _ _ q, decide_eq_false (fun e => q e.symm)]; rfl
theorem tcA_next {k : Nat} : tcA len nx tp k (len k) = tcA len nx tp (k + 1) 0 := by
  funext t
  unfold tcA
  rw [sm_succ, show 0 - nx (k + 1) = 0 by omega]
  rfl
theorem q_L265 {rec170 : tX1 → tX0 → tX0 → tX2 → tX3 → tX5 → (Nat → Int32) → Int32 → Int32 → Option Int32} {l2 : Int32} {k : Nat} (h : iRx fl lim nr len tp th ta fb hr a wy st wr sp la cl nx ct wm rd mn tl) (hk : k < fl) : ∀ n j fuel, j + n = len k → n < fuel → p_X5_isSame_L265 rec170 fuel (nI fl, nI lim, nI nr, nF len, nF tp, nF th, nF ta) (nI hr, nI a, wy, nI st, nI wr, nI sp, nI la, bF cl, nF nx, nF ct, bF fb, nF wm, bF rd) uT (nI mn, (fun i => nI (tl i / 9)), (fun i => nI (tl i % 9)), nF Ts, nF Hs) (nI nm, nF lk, nF dl) (nI hr, nI a, wy, nI st, nI wr, nI lim, nI sp, (fl, bF cl), bF fb, (fl, sCh len nx ct tp th), (nr, sRd nr ta wm rd), (nm, sMi nm lk dl), (mn, sPr mn tl Ts Hs tp th), sd) (nF (tcA len nx tp k j)) k l2 (nI k) (nI (len k)) (nI j) = rec170 (nI fl, nI lim, nI nr, nF len, nF tp, nF th, nF ta) (nI hr, nI a, wy, nI st, nI wr, nI sp, nI la, bF cl, nF nx, nF ct, bF fb, nF wm, bF rd) uT (nI mn, (fun i => nI (tl i / 9)), (fun i => nI (tl i % 9)), nF Ts, nF Hs) (nI nm, nF lk, nF dl) (nI hr, nI a, wy, nI st, nI wr, nI lim, nI sp, (fl, bF cl), bF fb, (fl, sCh len nx ct tp th), (nr, sRd nr ta wm rd), (nm, sMi nm lk dl), (mn, sPr mn tl Ts Hs tp th), sd) (nF (tcA len nx tp (k + 1) 0)) l2 (nI (k + 1)) := by
  obtain ⟨⟨h1, h1b⟩, ⟨h2, h2b⟩, h3, h4, h5, h6, h7, h8, h9, h10, h11, h12, h13, h14, h15, h16, h17, h18, h19, h20, h21, h22, h23⟩ := h
  have hl9 := h4 k
  have hnx := h17 k
  intro n
  induction n with
  | zero =>
    intro j fuel hj hf
    obtain ⟨f, rfl⟩ : ∃ f, fuel = f + 1 := ⟨fuel - 1, by omega⟩
    have : j = len k := by omega
    rw [p_X5_isSame_L265, if_pos (nI_leI (by omega) (by omega) |>.mpr (by omega)), this, tcA_next, L1, nI_add]
  | succ n ih =>
    intro j fuel hj hf
    obtain ⟨f, rfl⟩ : ∃ f, fuel = f + 1 := ⟨fuel - 1, by omega⟩
    have hj2 : j < len k := by omega
    have q1 := h6 (9 * k + j)
    have ih2 := ih (j + 1) f (by omega) (by omega)
    rw [p_X5_isSame_L265]
    simp (disch := omega) only [↓Lm1, L0, L1, L2, L3, L4, L5, L7, L8, L9, L10, L12, L20, L21, L33, L40, L60, L80, L99, L108, nI_add, nI_mul, gd_nI, nI_cl, nI_lt', nI_le', nI_eq', bd_sm, nF_app, bF_app, bI_n0, nI_m1e, nI_m1e', nI_m1l, nI_m1l', nI_m1t, nI_m1t', if_true, if_false, gN_nI, sCh_1, sCh_t hj2, sCh_h hj2, sCh_0, X_topicOf h4 hk h1b hj2, X_thrillOf h4 hk h1b hj2, upd_nF]
    rw [if_neg (by omega)]
    by_cases e : j < nx k
    · rw [if_pos e, ← tcA_skip (len := len) (tp := tp) e]
      exact ih2
    · rw [if_neg e, ← tcA_put (by omega)]
      exact ih2
theorem q_L170 (h : iRx fl lim nr len tp th ta fb hr a wy st wr sp la cl nx ct wm rd mn tl) (hy : iRy th nx hr mn tl Ts Hs) (hm : oM4 (nm, lk, dl)) (hh : hr < 1000000) : ∀ n k fuel, k + n = fl → n < fuel → p_X5_isSame_L170 fuel (nI fl, nI lim, nI nr, nF len, nF tp, nF th, nF ta) (nI hr, nI a, wy, nI st, nI wr, nI sp, nI la, bF cl, nF nx, nF ct, bF fb, nF wm, bF rd) uT (nI mn, (fun i => nI (tl i / 9)), (fun i => nI (tl i % 9)), nF Ts, nF Hs) (nI nm, nF lk, nF dl) (nI hr, nI a, wy, nI st, nI wr, nI lim, nI sp, (fl, bF cl), bF fb, (fl, sCh len nx ct tp th), (nr, sRd nr ta wm rd), (nm, sMi nm lk dl), (mn, sPr mn tl Ts Hs tp th), sd) (nF (tcA len nx tp k 0)) (nI fl) (nI k) = some (1 : Int32) := by
  have h00 := h
  obtain ⟨⟨h1, h1b⟩, ⟨h2, h2b⟩, h3, h4, h5, h6, h7, h8, h9, h10, h11, h12, h13, h14, h15, h16, h17, h18, h19, h20, h21, h22, h23⟩ := h
  intro n
  induction n with
  | zero =>
    intro k fuel hk hf
    obtain ⟨f, rfl⟩ : ∃ f, fuel = f + 1 := ⟨fuel - 1, by omega⟩
    have : k = fl := by omega
    subst this
    rw [p_X5_isSame_L170, if_pos (nI_leI (by omega) (by omega) |>.mpr (by omega)), L0]
    refine q_L353 h00 hy hm hh (fun t _ => ?_) 8 0 200 (by omega) (by omega)
    show nI (tcA len nx tp k 0 t) = _
    unfold tcA
    rw [show 0 - nx k = 0 by omega]
    rfl
  | succ n ih =>
    intro k fuel hk hf
    obtain ⟨f, rfl⟩ : ∃ f, fuel = f + 1 := ⟨fuel - 1, by omega⟩
    have hk2 : k < fl := by omega
    have hl9 := h4 k
    have hnx := h17 k
    have hct := h18 k
    have ih2 := ih (k + 1) f (by omega) (by omega)
    have d2 : (2 + 2 * len k - 2) / 2 = len k := by omega
    have e1 : (if nx k = len k then p_X5_isSame_J244 (p_X5_isSame_L170 f) (nI fl, nI lim, nI nr, nF len, nF tp, nF th, nF ta) (nI hr, nI a, wy, nI st, nI wr, nI sp, nI la, bF cl, nF nx, nF ct, bF fb, nF wm, bF rd) uT (nI mn, (fun i => nI (tl i / 9)), (fun i => nI (tl i % 9)), nF Ts, nF Hs) (nI nm, nF lk, nF dl) (nI hr, nI a, wy, nI st, nI wr, nI lim, nI sp, (fl, bF cl), bF fb, (fl, sCh len nx ct tp th), (nr, sRd nr ta wm rd), (nm, sMi nm lk dl), (mn, sPr mn tl Ts Hs tp th), sd) (nF (tcA len nx tp k 0)) k (nI fl) (nI k) (nI (len k)) m1 (nx1 len nx k) else p_X5_isSame_J244 (p_X5_isSame_L170 f) (nI fl, nI lim, nI nr, nF len, nF tp, nF th, nF ta) (nI hr, nI a, wy, nI st, nI wr, nI sp, nI la, bF cl, nF nx, nF ct, bF fb, nF wm, bF rd) uT (nI mn, (fun i => nI (tl i / 9)), (fun i => nI (tl i % 9)), nF Ts, nF Hs) (nI nm, nF lk, nF dl) (nI hr, nI a, wy, nI st, nI wr, nI lim, nI sp, (fl, bF cl), bF fb, (fl, sCh len nx ct tp th), (nr, sRd nr ta wm rd), (nm, sMi nm lk dl), (mn, sPr mn tl Ts Hs tp th), sd) (nF (tcA len nx tp k 0)) k (nI fl) (nI k) (nI (len k)) (nI (nx k)) (nx1 len nx k)) = some (1 : Int32) := by
      have k1 : ∀ x : Int32, x = nx1 len nx k → p_X5_isSame_J244 (p_X5_isSame_L170 f) (nI fl, nI lim, nI nr, nF len, nF tp, nF th, nF ta) (nI hr, nI a, wy, nI st, nI wr, nI sp, nI la, bF cl, nF nx, nF ct, bF fb, nF wm, bF rd) uT (nI mn, (fun i => nI (tl i / 9)), (fun i => nI (tl i % 9)), nF Ts, nF Hs) (nI nm, nF lk, nF dl) (nI hr, nI a, wy, nI st, nI wr, nI lim, nI sp, (fl, bF cl), bF fb, (fl, sCh len nx ct tp th), (nr, sRd nr ta wm rd), (nm, sMi nm lk dl), (mn, sPr mn tl Ts Hs tp th), sd) (nF (tcA len nx tp k 0)) k (nI fl) (nI k) (nI (len k)) x (nx1 len nx k) = some (1 : Int32) := by
        intro x hx
        subst hx
        unfold p_X5_isSame_J244
        rw [if_pos rfl, X_cutOn hk2 h1b]
        simp (disch := omega) only [↓Lm1, L0, L1, L2, L3, L4, L5, L7, L8, L9, L10, L12, L20, L21, L33, L40, L60, L80, L99, L108, nI_add, nI_mul, gd_nI, nI_cl, nI_lt', nI_le', nI_eq', bd_sm, nF_app, bF_app, bI_n0, nI_m1e, nI_m1e', nI_m1l, nI_m1l', nI_m1t, nI_m1t', if_true, if_false, gN_nI, sCh_1, sCh_c]
        rw [q_L265 h00 hk2 (len k) 0 200 (by omega) (by omega), ih2, L1]
      by_cases e : nx k = len k
      · rw [if_pos e]
        exact k1 m1 (by unfold nx1; rw [if_pos (by omega)])
      · rw [if_neg e]
        exact k1 (nI (nx k)) (by unfold nx1; rw [if_neg (by omega)])
    rw [← e1, p_X5_isSame_L170, X_called hk2 h1b, X_paras hk2 h1b, X_next h4 h17 hk2 h1b]
    simp (disch := omega) only [↓Lm1, L0, L1, L2, L3, L4, L5, L7, L8, L9, L10, L12, L20, L21, L33, L40, L60, L80, L99, L108, nI_add, nI_mul, gd_nI, nI_cl, nI_lt', nI_le', nI_eq', bd_sm, nF_app, bF_app, bI_n0, nI_m1e, nI_m1e', nI_m1l, nI_m1l', nI_m1t, nI_m1t', if_true, if_false, gN_nI, sCh_1, sCh_0, nI_sub, nI_div, d2]
    rw [if_neg (by omega)]
theorem q_same (h : iRx fl lim nr len tp th ta fb hr a wy st wr sp la cl nx ct wm rd mn tl) (hy : iRy th nx hr mn tl Ts Hs) (hm : oM4 (nm, lk, dl)) (hh : hr < 1000000) : p_X5_isSame (nI fl, nI lim, nI nr, nF len, nF tp, nF th, nF ta) (nI hr, nI a, wy, nI st, nI wr, nI sp, nI la, bF cl, nF nx, nF ct, bF fb, nF wm, bF rd) uT (nI mn, (fun i => nI (tl i / 9)), (fun i => nI (tl i % 9)), nF Ts, nF Hs) (nI nm, nF lk, nF dl) (nI hr, nI a, wy, nI st, nI wr, nI lim, nI sp, (fl, bF cl), bF fb, (fl, sCh len nx ct tp th), (nr, sRd nr ta wm rd), (nm, sMi nm lk dl), (mn, sPr mn tl Ts Hs tp th), sd) = some (1 : Int32) := by
  have h00 := h
  have hmn := R_mn2 h
  obtain ⟨⟨h1, h1b⟩, ⟨h2, h2b⟩, h3, h4, h5, h6, h7, h8, h9, h10, h11, h12, h13, h14, h15, h16, h17, h18, h19, h20, h21, h22, h23⟩ := h
  have e1 := cnt_cut h1b h16
  have hcz : ∀ f, fl ≤ f → ct f = 0 := fun f hf => by have := h18 f; have := h17 f; have := h5 f hf; omega
  have e2 : sm ct fl = sm ct 12 := sm_cut h1b hcz
  unfold p_X5_isSame p_X4_floors p_X4_hours p_X4_liftAt p_X4_goes p_X4_stuckFor p_X4_wear p_X4_limit p_X4_suspense p_X4_instalments p_X4_readers p_X4_mirrors
  dsimp only
  rw [bd_sm, if_pos rfl, bd_sm, if_pos rfl, bd_sm, if_pos rfl, bd_sm, if_pos rfl, X_calls, bd_sm, sS_calls h1b, bd_sm, e1, if_pos rfl, bd_sm, if_pos rfl, bd_sm, if_pos rfl, bd_sm, if_pos rfl, bd_sm, if_pos rfl, X_cuts, bd_sm, sS_cuts h4 h1b, bd_sm, e2, if_pos rfl, bd_sm, if_pos rfl, bd_sm, if_pos rfl, X_subs h3, bd_sm, sS_subs h3, bd_sm, if_pos rfl, bd_sm, if_pos rfl, L0]
  have k := q_L170 (uT := uT) (sd := sd) h00 hy hm hh fl 0 200 (by omega) (by omega)
  have e3 : nF (tcA len nx tp 0 0) = fun _ => nI 0 := by
    funext t
    show nI (tcA len nx tp 0 0 t) = nI 0
    unfold tcA
    rw [show 0 - nx 0 = 0 by omega]
    rfl
  rw [e3] at k
  exact k
end
/-- .. said of a state as a whole -/
theorem same_ok {g : tG} {fb : Nat → Bool} {A : tA} {B : tB} {M : tM} {sd : Int32} {uT : tX0} (hR : iR g fb A B M) (hh : A.1 < 1000000) : p_X5_isSame (iH g) (iC fb A) uT (iI B) (iM M) (iS g fb A B M sd) = some (1 : Int32) := q_same hR.1 hR.2.1 hR.2.2 hh
