/-! THE PURE PART: class and law's own are the same -/
/-- the longest wait, the climbs: a step -/
def wtS (Hs : Nat → Nat) (i v : Nat) : Nat := if i = 0 then v else if v < Hs i - Hs (i - 1) then Hs i - Hs (i - 1) else v
def cbS (tl : Nat → Nat) (i v : Nat) : Nat := if i = 0 then v else if tl i / 9 ≤ tl (i - 1) / 9 then v else v + 1
def fo (s : Nat → Nat → Nat) : Nat → Nat → Nat → Nat
  | 0, _, v => v
  | n + 1, i, v => fo s n (i + 1) (s i v)
theorem fo_s (s : Nat → Nat → Nat) (n i v : Nat) : fo s (n + 1) i v = fo s n (i + 1) (s i v) := rfl
theorem fo_01 {s : Nat → Nat → Nat} (h : ∀ v, s 0 v = v) (n : Nat) : fo s (n - 1) 1 0 = fo s n 0 0 := by
  cases n with
  | zero => rfl
  | succ n => rw [fo_s, h]; rfl
theorem wtS_le {Hs : Nat → Nat} {i v hr mn : Nat} (hH : ∀ i, i < mn → Hs i < hr) (hi : i < mn) (hv : v ≤ hr) : wtS Hs i v ≤ hr := by
  have := hH i hi
  unfold wtS
  split
  · exact hv
  · split <;> omega
theorem cbS_le {tl : Nat → Nat} {i v : Nat} (hv : v ≤ i) : cbS tl i v ≤ i + 1 := by
  unfold cbS
  split
  · omega
  · split <;> omega
section
variable {hr a st wr sp la : Nat} {wy : Int32} {cl fb rd : Nat → Bool} {nx ct wm : Nat → Nat} {fl lim nr : Nat} {len tp th ta : Nat → Nat} {sd : Int32} {nm mn : Nat} {lk dl tl Ts Hs : Nat → Nat} {uT : tX0}
theorem I_wait_L (hm : mn ≤ 108) (hh : hr < 1000000) (hH : ∀ i, i < mn → Hs i < hr) (hI : ∀ k i, k < i → i < mn → Hs k < Hs i) : ∀ n i fuel v, (i + n = mn ∨ (n = 0 ∧ mn ≤ i ∧ i ≤ 109)) → 1 ≤ i → v ≤ hr → n < fuel → p_X2_findLongestWait_L4 fuel (nI mn, (fun i => nI (tl i / 9)), (fun i => nI (tl i % 9)), nF Ts, nF Hs) (nI v) (nI i) = some (nI (fo (wtS Hs) n i v)) := by
  intro n
  induction n with
  | zero =>
    intro i fuel v hi h1 hv hf
    obtain ⟨f, rfl⟩ : ∃ f, fuel = f + 1 := ⟨fuel - 1, by omega⟩
    rw [p_X2_findLongestWait_L4]
    simp (disch := omega) only [↓Lm1, L0, L1, L2, L3, L4, L5, L7, L8, L9, L10, L12, L20, L21, L33, L40, L60, L80, L99, L108, nI_add, nI_mul, gd_nI, nI_cl, nI_lt', nI_le', nI_eq', bd_sm, nF_app, bF_app, bI_n0, nI_m1e, nI_m1e', nI_m1l, nI_m1l', nI_m1t, nI_m1t', if_true, if_false]
    rw [if_pos (by omega)]
    rfl
  | succ n ih =>
    intro i fuel v hi h1 hv hf
    obtain ⟨f, rfl⟩ : ∃ f, fuel = f + 1 := ⟨fuel - 1, by omega⟩
    have b1 := hH i (by omega)
    have b2 := hH (i - 1) (by omega)
    have b3 := hI (i - 1) i (by omega) (by omega)
    have ih2 := ih (i + 1) f (wtS Hs i v) (by omega) (by omega) (wtS_le hH (by omega) hv) (by omega)
    rw [fo_s, ← ih2, p_X2_findLongestWait_L4]
    simp (disch := omega) only [↓Lm1, L0, L1, L2, L3, L4, L5, L7, L8, L9, L10, L12, L20, L21, L33, L40, L60, L80, L99, L108, nI_add, nI_mul, gd_nI, nI_cl, nI_lt', nI_le', nI_eq', bd_sm, nF_app, bF_app, bI_n0, nI_m1e, nI_m1e', nI_m1l, nI_m1l', nI_m1t, nI_m1t', if_true, if_false, nI_sub]
    rw [if_neg (by omega)]
    unfold wtS
    rw [if_neg (show ¬ i = 0 by omega)]
    by_cases e : v < Hs i - Hs (i - 1)
    · rw [if_pos e, if_pos e]
    · rw [if_neg e, if_neg e]
theorem X_wait (hm : mn ≤ 108) (hh : hr < 1000000) (hH : ∀ i, i < mn → Hs i < hr) (hI : ∀ k i, k < i → i < mn → Hs k < Hs i) : p_X4_longestWait (nI fl, nI lim, nI nr, nF len, nF tp, nF th, nF ta) (nI hr, nI a, wy, nI st, nI wr, nI sp, nI la, bF cl, nF nx, nF ct, bF fb, nF wm, bF rd) uT (nI mn, (fun i => nI (tl i / 9)), (fun i => nI (tl i % 9)), nF Ts, nF Hs) (nI nm, nF lk, nF dl) = some (nI (fo (wtS Hs) mn 0 0)) := by
  unfold p_X4_longestWait p_X2_findLongestWait
  rw [L0, L1, I_wait_L hm hh hH hI (mn - 1) 1 200 0 (by omega) (by omega) (by omega) (by omega), bd_sm, fo_01 (fun v => if_pos rfl)]
theorem I_climb_L (hm : mn ≤ 108) (hq : ∀ i, i < mn → tl i < 108) : ∀ n i fuel v, (i + n = mn ∨ (n = 0 ∧ mn ≤ i ∧ i ≤ 109)) → 1 ≤ i → v ≤ i → n < fuel → p_X2_countClimbs_L4 fuel (nI mn, (fun i => nI (tl i / 9)), (fun i => nI (tl i % 9)), nF Ts, nF Hs) (nI v) (nI i) = some (nI (fo (cbS tl) n i v)) := by
  intro n
  induction n with
  | zero =>
    intro i fuel v hi h1 hv hf
    obtain ⟨f, rfl⟩ : ∃ f, fuel = f + 1 := ⟨fuel - 1, by omega⟩
    rw [p_X2_countClimbs_L4]
    simp (disch := omega) only [↓Lm1, L0, L1, L2, L3, L4, L5, L7, L8, L9, L10, L12, L20, L21, L33, L40, L60, L80, L99, L108, nI_add, nI_mul, gd_nI, nI_cl, nI_lt', nI_le', nI_eq', bd_sm, nF_app, bF_app, bI_n0, nI_m1e, nI_m1e', nI_m1l, nI_m1l', nI_m1t, nI_m1t', if_true, if_false]
    rw [if_pos (by omega)]
    rfl
  | succ n ih =>
    intro i fuel v hi h1 hv hf
    obtain ⟨f, rfl⟩ : ∃ f, fuel = f + 1 := ⟨fuel - 1, by omega⟩
    have b1 := hq i (by omega)
    have b2 := hq (i - 1) (by omega)
    have ih2 := ih (i + 1) f (cbS tl i v) (by omega) (by omega) (cbS_le hv) (by omega)
    rw [fo_s, ← ih2, p_X2_countClimbs_L4]
    simp (disch := omega) only [↓Lm1, L0, L1, L2, L3, L4, L5, L7, L8, L9, L10, L12, L20, L21, L33, L40, L60, L80, L99, L108, nI_add, nI_mul, gd_nI, nI_cl, nI_lt', nI_le', nI_eq', bd_sm, nF_app, bF_app, bI_n0, nI_m1e, nI_m1e', nI_m1l, nI_m1l', nI_m1t, nI_m1t', if_true, if_false, nI_sub]
    rw [if_neg (by omega)]
    unfold cbS
    rw [if_neg (show ¬ i = 0 by omega)]
    by_cases e : tl i / 9 ≤ tl (i - 1) / 9
    · rw [if_pos e, if_pos e]
    · rw [if_neg e, if_neg e]
theorem X_climbs (hm : mn ≤ 108) (hq : ∀ i, i < mn → tl i < 108) : p_X4_climbs (nI fl, nI lim, nI nr, nF len, nF tp, nF th, nF ta) (nI hr, nI a, wy, nI st, nI wr, nI sp, nI la, bF cl, nF nx, nF ct, bF fb, nF wm, bF rd) uT (nI mn, (fun i => nI (tl i / 9)), (fun i => nI (tl i % 9)), nF Ts, nF Hs) (nI nm, nF lk, nF dl) = some (nI (fo (cbS tl) mn 0 0)) := by
  unfold p_X4_climbs p_X2_countClimbs
  rw [L0, L1, I_climb_L hm hq (mn - 1) 1 200 0 (by omega) (by omega) (by omega) (by omega), bd_sm, fo_01 (fun v => if_pos rfl)]
/-- the law's own grade -/
theorem sMi_1 {m : Nat} (h : m < nm) : (sMi nm lk dl m).1 = 2 := by unfold sMi; rw [if_pos h]
theorem sMi_l {m : Nat} (h : m < nm) : (sMi nm lk dl m).2 0 = nI (lk m) := by unfold sMi; rw [if_pos h]; rfl
theorem sMi_d {m : Nat} (h : m < nm) : (sMi nm lk dl m).2 1 = nI (dl m) := by unfold sMi; rw [if_pos h]; rfl
theorem s_grade {m i : Nat} (htp : ∀ i, tp i < 8) (hlk : ∀ m, lk m < 8) (hdl : ∀ m, dl m < 8) (hT : ∀ i, i < mn → Ts i < 100000000) (hm : m < nm) (hi : i < mn) : p_X5_grade (sMi nm lk dl m).1 (sMi nm lk dl m).2 (sPr mn tl Ts Hs tp th i).1 (sPr mn tl Ts Hs tp th i).2 = some (nI (gG lk dl tp tl Ts m i)) := by
  have h1 := hlk m
  have h2 := hdl m
  have h3 := htp (tl i)
  have h4 := hT i hi
  have k32 : ∀ v : Nat, v < 100000000 → p_X5_grade_J32 (sMi nm lk dl m).2 2 (sPr mn tl Ts Hs tp th i).2 6 (nI v) = some (nI (if v < 10 then v else 10)) := by
    intro v hv
    unfold p_X5_grade_J32
    rw [if_pos (of_eq_true (nI_pos0 (by omega))), L10]
    by_cases e : v ≤ 10
    · rw [if_pos (nI_leI (by omega) (by omega) |>.mpr e)]
      by_cases e2 : v < 10
      · rw [if_pos e2]
      · rw [if_neg e2, show v = 10 by omega]
    · rw [if_neg (mt (nI_leI (by omega) (by omega)).mp e), if_neg (by omega)]
  have k : ∀ v : Nat, 3 ≤ v → v < 100000000 → p_X5_grade_J20 (sMi nm lk dl m).2 2 (sPr mn tl Ts Hs tp th i).2 6 (nI v) = some (nI (if v - (if dl m = tp (tl i) then 3 else 0) < 10 then v - (if dl m = tp (tl i) then 3 else 0) else 10)) := by
    intro v hv hv2
    unfold p_X5_grade_J20
    simp (disch := omega) only [↓Lm1, L0, L1, L2, L3, L4, L5, L7, L8, L9, L10, L12, L20, L21, L33, L40, L60, L80, L99, L108, nI_add, nI_mul, gd_nI, nI_cl, nI_lt', nI_le', nI_eq', bd_sm, nF_app, bF_app, bI_n0, nI_m1e, nI_m1e', nI_m1l, nI_m1l', nI_m1t, nI_m1t', if_true, if_false, sPr_t hi, sMi_d hm]
    by_cases e : tp (tl i) = dl m
    · obtain ⟨u, rfl⟩ : ∃ u, v = u + 3 := ⟨v - 3, by omega⟩
      rw [if_pos e, if_pos e.symm, nI_m3, k32 _ (by omega), Nat.add_sub_cancel]
    · rw [if_neg e, if_neg (show ¬ dl m = tp (tl i) from fun q => e q.symm), k32 _ (by omega), Nat.sub_zero]
  unfold p_X5_grade gG gr
  rw [sMi_1 hm, sPr_1 hi]
  simp (disch := omega) only [↓Lm1, L0, L1, L2, L3, L4, L5, L7, L8, L9, L10, L12, L20, L21, L33, L40, L60, L80, L99, L108, nI_add, nI_mul, gd_nI, nI_cl, nI_lt', nI_le', nI_eq', bd_sm, nF_app, bF_app, bI_n0, nI_m1e, nI_m1e', nI_m1l, nI_m1l', nI_m1t, nI_m1t', if_true, if_false, nI_div, sPr_t hi, sPr_s hi, sMi_l hm]
  by_cases e : tp (tl i) = lk m
  · rw [if_pos e, if_pos e.symm, k _ (by omega) (by omega)]
  · rw [if_neg e, if_neg (show ¬ lk m = tp (tl i) from fun q => e q.symm), k _ (by omega) (by omega), Nat.add_zero]
/-- mirrors -/
theorem o_lt0 {b : Option Nat} (h : ∀ k, b = some k → k < 2147483648) : (oI b < 0) = (b = none) := by
  cases b with
  | none => exact propext ⟨fun _ => rfl, fun _ => by decide +kernel⟩
  | some k => rw [show oI (some k) = nI k from rfl, nI_neg00 (h k rfl)]; simp
theorem q_J819 {rec695 : tX1 → tX0 → tX0 → tX2 → tX3 → tX5 → Int32 → Int32 → Int32 → Int32 → Int32 → Int32 → Int32 → Option Int32} {l4 l5 l6 l7 l8 l9 : Int32} {uG : tX5} {m : Nat} (h : iRx fl lim nr len tp th ta fb hr a wy st wr sp la cl nx ct wm rd mn tl) (hy : iRy th nx hr mn tl Ts Hs) (hm : oM4 (nm, lk, dl)) (hh : hr < 1000000) (hmi : m < nm) : p_X5_isSame_J819 rec695 (nI fl, nI lim, nI nr, nF len, nF tp, nF th, nF ta) (nI hr, nI a, wy, nI st, nI wr, nI sp, nI la, bF cl, nF nx, nF ct, bF fb, nF wm, bF rd) uT (nI mn, (fun i => nI (tl i / 9)), (fun i => nI (tl i % 9)), nF Ts, nF Hs) (nI nm, nF lk, nF dl) uG l4 l5 l6 l7 l8 l9 (nI m) (nI (gK lk dl tp tl Ts mn m)) (oI (am (gG lk dl tp tl Ts m) (fun _ => true) mn 0 none)) = rec695 (nI fl, nI lim, nI nr, nF len, nF tp, nF th, nF ta) (nI hr, nI a, wy, nI st, nI wr, nI sp, nI la, bF cl, nF nx, nF ct, bF fb, nF wm, bF rd) uT (nI mn, (fun i => nI (tl i / 9)), (fun i => nI (tl i % 9)), nF Ts, nF Hs) (nI nm, nF lk, nF dl) uG l4 l5 l6 l7 l8 l9 (nI (m + 1)) := by
  have hmn := R_mn2 h
  have hT := in_T hy hh
  have hq := in_q h
  obtain ⟨hnm, m2, m3⟩ := hm
  have hnm : nm ≤ 4 := hnm
  have mlk : ∀ m, lk m < 8 := fun m => (m2 m).1
  have mdl : ∀ m, dl m < 8 := fun m => (m2 m).2
  obtain ⟨⟨h1, h1b⟩, ⟨h2, h2b⟩, h3, h4, h5, h6, h7, h8, h9, h10, h11, h12, h13, h14, h15, h16, h17, h18, h19, h20, h21, h22, h23⟩ := h
  unfold p_X5_isSame_J819
  rw [X_gradesBy h6 mlk mdl hmn hq hT hnm hmi, bd_sm, if_pos (show nI (sm (gG lk dl tp tl Ts m) mn) = nI (gK lk dl tp tl Ts mn m) from rfl), X_fav h6 mlk mdl hmn hq hT hnm hmi, bd_sm, if_pos rfl, L1, nI_add]
theorem q_L714 {rec695 : tX1 → tX0 → tX0 → tX2 → tX3 → tX5 → Int32 → Int32 → Int32 → Int32 → Int32 → Int32 → Int32 → Option Int32} {l4 l5 l6 l7 : Int32} {m : Nat} {bk : Option Nat} (h : iRx fl lim nr len tp th ta fb hr a wy st wr sp la cl nx ct wm rd mn tl) (hy : iRy th nx hr mn tl Ts Hs) (hm : oM4 (nm, lk, dl)) (hh : hr < 1000000) (hmi : m < nm) : ∀ n i fuel b, i + n = mn → n < fuel → (∀ k, b = some k → k < i) → p_X5_isSame_L714 rec695 fuel (nI fl, nI lim, nI nr, nF len, nF tp, nF th, nF ta) (nI hr, nI a, wy, nI st, nI wr, nI sp, nI la, bF cl, nF nx, nF ct, bF fb, nF wm, bF rd) uT (nI mn, (fun i => nI (tl i / 9)), (fun i => nI (tl i % 9)), nF Ts, nF Hs) (nI nm, nF lk, nF dl) (nI hr, nI a, wy, nI st, nI wr, nI lim, nI sp, (fl, bF cl), bF fb, (fl, sCh len nx ct tp th), (nr, sRd nr ta wm rd), (nm, sMi nm lk dl), (mn, sPr mn tl Ts Hs tp th), sd) l4 l5 l6 l7 (oI bk) (oV (gK lk dl tp tl Ts mn) bk) (nI m) (nI (sm (gG lk dl tp tl Ts m) i)) (oI b) (nI i) = p_X5_isSame_J819 rec695 (nI fl, nI lim, nI nr, nF len, nF tp, nF th, nF ta) (nI hr, nI a, wy, nI st, nI wr, nI sp, nI la, bF cl, nF nx, nF ct, bF fb, nF wm, bF rd) uT (nI mn, (fun i => nI (tl i / 9)), (fun i => nI (tl i % 9)), nF Ts, nF Hs) (nI nm, nF lk, nF dl) (nI hr, nI a, wy, nI st, nI wr, nI lim, nI sp, (fl, bF cl), bF fb, (fl, sCh len nx ct tp th), (nr, sRd nr ta wm rd), (nm, sMi nm lk dl), (mn, sPr mn tl Ts Hs tp th), sd) l4 l5 l6 l7 (oI (amS (gK lk dl tp tl Ts mn) (fun _ => true) m bk)) (oV (gK lk dl tp tl Ts mn) (amS (gK lk dl tp tl Ts mn) (fun _ => true) m bk)) (nI m) (nI (gK lk dl tp tl Ts mn m)) (oI (am (gG lk dl tp tl Ts m) (fun _ => true) n i b)) := by
  have hmn := R_mn2 h
  have hT := in_T hy hh
  have hq := in_q h
  obtain ⟨hnm, m2, m3⟩ := hm
  have hnm : nm ≤ 4 := hnm
  have mlk : ∀ m, lk m < 8 := fun m => (m2 m).1
  have mdl : ∀ m, dl m < 8 := fun m => (m2 m).2
  obtain ⟨⟨h1, h1b⟩, ⟨h2, h2b⟩, h3, h4, h5, h6, h7, h8, h9, h10, h11, h12, h13, h14, h15, h16, h17, h18, h19, h20, h21, h22, h23⟩ := h
  intro n
  induction n with
  | zero =>
    intro i fuel b hi hf hb
    obtain ⟨f, rfl⟩ : ∃ f, fuel = f + 1 := ⟨fuel - 1, by omega⟩
    have : i = mn := by omega
    subst this
    have g1 := gK_le (lk := lk) (dl := dl) (tp := tp) (tl := tl) (Ts := Ts) (mn := i) (m := m)
    rw [p_X5_isSame_L714]
    dsimp only
    rw [show sm (gG lk dl tp tl Ts m) i = gK lk dl tp tl Ts i m from rfl, am_0, if_pos (nI_leI (by omega) (by omega) |>.mpr (Nat.le_refl _))]
    cases bk with
    | none =>
      rw [show oV (gK lk dl tp tl Ts i) none = m1 from rfl, if_neg (of_eq_false (nI_m1t (by omega))), amS_n rfl]
      rfl
    | some q =>
      have g2 := gK_le (lk := lk) (dl := dl) (tp := tp) (tl := tl) (Ts := Ts) (mn := i) (m := q)
      rw [show oV (gK lk dl tp tl Ts i) (some q) = nI (gK lk dl tp tl Ts i q) from rfl]
      by_cases e : gK lk dl tp tl Ts i m ≤ gK lk dl tp tl Ts i q
      · rw [if_pos (nI_leI (by omega) (by omega) |>.mpr e), amS_l rfl e]
        rfl
      · rw [if_neg (mt (nI_leI (by omega) (by omega)).mp e), amS_g rfl e]
        rfl
  | succ n ih =>
    intro i fuel b hi hf hb
    obtain ⟨f, rfl⟩ : ∃ f, fuel = f + 1 := ⟨fuel - 1, by omega⟩
    have hi2 : i < mn := by omega
    have ih2 := ih (i + 1) f (amS (gG lk dl tp tl Ts m) (fun _ => true) i b) (by omega) (by omega) (amS_b hb)
    have g1 := gG_le (lk := lk) (dl := dl) (tp := tp) (tl := tl) (Ts := Ts) (m := m) (i := i)
    rw [am_s, ← ih2, p_X5_isSame_L714]
    dsimp only
    rw [if_neg (mt (nI_leI (by omega) (by omega)).mp (by omega)), gd_nI _ hmi (by omega), gd_nI _ hi2 (by omega), nI_cl (by omega), nI_cl (by omega), s_grade h6 mlk mdl hT hmi hi2, bd_sm, nI_add, ← sm_succ]
    have k : ∀ c : Option Nat, p_X5_isSame_J783 rec695 (p_X5_isSame_L714 rec695 f) (nI fl, nI lim, nI nr, nF len, nF tp, nF th, nF ta) (nI hr, nI a, wy, nI st, nI wr, nI sp, nI la, bF cl, nF nx, nF ct, bF fb, nF wm, bF rd) uT (nI mn, (fun i => nI (tl i / 9)), (fun i => nI (tl i % 9)), nF Ts, nF Hs) (nI nm, nF lk, nF dl) (nI hr, nI a, wy, nI st, nI wr, nI lim, nI sp, (fl, bF cl), bF fb, (fl, sCh len nx ct tp th), (nr, sRd nr ta wm rd), (nm, sMi nm lk dl), (mn, sPr mn tl Ts Hs tp th), sd) l4 l5 l6 l7 (oI bk) (oV (gK lk dl tp tl Ts mn) bk) (nI m) (nI (sm (gG lk dl tp tl Ts m) (i + 1))) (oI c) (nI i) (nI (gG lk dl tp tl Ts m i)) = p_X5_isSame_L714 rec695 f (nI fl, nI lim, nI nr, nF len, nF tp, nF th, nF ta) (nI hr, nI a, wy, nI st, nI wr, nI sp, nI la, bF cl, nF nx, nF ct, bF fb, nF wm, bF rd) uT (nI mn, (fun i => nI (tl i / 9)), (fun i => nI (tl i % 9)), nF Ts, nF Hs) (nI nm, nF lk, nF dl) (nI hr, nI a, wy, nI st, nI wr, nI lim, nI sp, (fl, bF cl), bF fb, (fl, sCh len nx ct tp th), (nr, sRd nr ta wm rd), (nm, sMi nm lk dl), (mn, sPr mn tl Ts Hs tp th), sd) l4 l5 l6 l7 (oI bk) (oV (gK lk dl tp tl Ts mn) bk) (nI m) (nI (sm (gG lk dl tp tl Ts m) (i + 1))) (oI c) (nI (i + 1)) := by
      intro c
      unfold p_X5_isSame_J783
      rw [X_grade h6 mlk mdl hmn hq hT hnm hmi hi2, bd_sm, if_pos rfl, L1, nI_add]
    unfold p_X5_isSame_J779
    cases b with
    | none =>
      rw [if_pos (show oI none < 0 by decide +kernel), amS_n rfl]
      exact k (some i)
    | some q =>
      have hq1 := hb q rfl
      have g2 := gG_le (lk := lk) (dl := dl) (tp := tp) (tl := tl) (Ts := Ts) (m := m) (i := q)
      rw [show oI (some q) = nI q from rfl, if_neg (show ¬ nI q < 0 from of_eq_false (nI_neg00 (by omega))), gd_nI _ (show q < mn by omega) (by omega), nI_cl (by omega), s_grade h6 mlk mdl hT hmi (by omega), bd_sm]
      by_cases e : gG lk dl tp tl Ts m i ≤ gG lk dl tp tl Ts m q
      · rw [if_pos (nI_leI (by omega) (by omega) |>.mpr e), amS_l rfl e]
        exact k (some q)
      · rw [if_neg (mt (nI_leI (by omega) (by omega)).mp e), amS_g rfl e]
        exact k (some i)
end
