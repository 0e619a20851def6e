/-! THE PURE PART: an hour, of class and model -/
theorem mI_cnt0 {g : Nat → Bool} : (mI g 12 = nI 0) = (cnt g 12 = 0) := by rw [← L0]; exact mI_cnt
theorem bd_id {α : Type} (x : Option α) : bd x (fun v => some v) = x := by cases x <;> rfl
section
variable {hr a st wr sp la : Nat} {wy : Int32} {cl fb rd : Nat → Bool} {nx ct wm : Nat → Nat} {fl lim nr : Nat} {len tp th ta : Nat → Nat} {kp : Nat → Int32} {sd tw : Int32} {nm mn : Nat} {lk dl tl : Nat → Nat} {Ts Hs : Nat → Int32}
theorem cC_tail {r : Int32} (hlim : lim ≤ 99) (hst : st ≤ 25) (hwr : wr < 2000000) : p_X0_passHour_J41 (nI hr, nI a, wy, nI st, nI wr, nI sp, nI la, bF cl, nF nx, nF ct, bF fb, nF wm, bF rd) (nI fl, nI lim, nI nr, nF len, nF tp, nF th, nF ta) r = some (r, iC fb (tlA lim hr a wy st wr sp la cl nx ct wm rd)) := by
  have hc := cnt_le 12 cl
  unfold p_X0_passHour_J41 p_X0_passHour_J53 p_X0_getStuckIfWorn iC tlA
  rw [cC_called]
  simp (disch := omega) only [↓Lm1, L0, L1, L2, L3, L4, L5, L7, L8, L9, L10, L12, L20, L21, L33, L40, L60, L80, L99, L108, nI_add, nI_mul, gd_nI, nI_cl, nI_lt', nI_le', nI_eq', bd_sm, nF_app, bF_app, bI_n0, nI_m1e, nI_m1e', nI_m1l, nI_m1l', nI_m1t, nI_m1t', if_true, if_false, nI_div]
  by_cases h1 : cnt cl 12 = 0 <;> by_cases h2 : st = 0 <;> by_cases h3 : lim ≤ wr
  all_goals
    have h4 : (wr < lim) = ¬ (lim ≤ wr) := propext ⟨fun h => by omega, fun h => by omega⟩
    simp (disch := omega) only [h1, h2, h3, h4, if_true, if_false, bd_sm, nI_add, and_true, and_false, not_true_eq_false, not_false_eq_true, ← L0, ← L1] <;> simp [L0, L1, nI_add]
theorem cL_tail {M : tM} {kp : Nat → Int32} {sd tw : Int32} (hlim : lim ≤ 99) (hst : st ≤ 25) (hwr : wr < 2000000) : p_X5_hourOn_J152 (iL (fl, lim, nr, len, tp, th, ta) fb (hr, a, wy, st, wr, sp, la, cl, nx, ct, wm, rd) (mn, tl, Ts, Hs) kp sd tw M) = some (iL (fl, lim, nr, len, tp, th, ta) fb (tlA lim hr a wy st wr sp la cl nx ct wm rd) (mn, tl, Ts, Hs) kp sd tw M) := by
  have hc := cnt_le 12 cl
  unfold p_X5_hourOn_J152 p_X5_hourOn_J169 p_X5_hourOn_J212 iL iN tlA
  simp (disch := omega) only [↓Lm1, L0, L1, L2, L3, L4, L5, L7, L8, L9, L10, L12, L20, L21, L33, L40, L60, L80, L99, L108, nI_add, nI_mul, gd_nI, nI_cl, nI_lt', nI_le', nI_eq', bd_sm, nF_app, bF_app, bI_n0, nI_m1e, nI_m1e', nI_m1l, nI_m1l', nI_m1t, nI_m1t', if_true, if_false, mkN_0, mkN_1, mkN_2, mkN_3, mkN_4, mkN_5, mkN_6, mkN_7, mkN_8, mkN_n, mkN_c, mkN_w, upN_0, upN_1, upN_2, upN_3, upN_4, upN_5, upN_6, upN_7, upN_8, upN_n, upN_c, upN_w, has12, has8, mI_clr1, mI_set1, mI_flip1, nar_n0, nar_n1, upd_nF, upd_bF, nI_div, mI_cnt0]
  by_cases h1 : cnt cl 12 = 0 <;> by_cases h2 : st = 0 <;> by_cases h3 : lim ≤ wr
  all_goals
    have h4 : (wr < lim) = ¬ (lim ≤ wr) := propext ⟨fun h => by omega, fun h => by omega⟩
    simp (disch := omega) only [h1, h2, h3, h4, if_true, if_false, bd_sm, nI_add, and_true, and_false, not_true_eq_false, not_false_eq_true]
    try rfl
theorem cC_J32n (hn : nr ≤ 8) (hw : ∀ r, wm r ≤ 99) (hlim : lim ≤ 99) (hst : st ≤ 25) (hwr : wr < 2000000) : p_X0_passHour_J32 (nI hr, nI a, wy, nI st, nI wr, nI sp, nI la, bF cl, nF nx, nF ct, bF fb, nF wm, bF rd) (nI fl, nI lim, nI nr, nF len, nF tp, nF th, nF ta) m1 = some (m1, iC fb (tlA lim hr a wy st wr sp la cl nx ct (coW nr wm 0) (coR nr wm rd 0))) := by
  unfold p_X0_passHour_J32 p_X0_coolReaders
  rw [Lm1, if_pos rfl, L0, cC_cool_L hn nr 0 200 wm rd hw (by omega) (by omega), bd_sm, cC_tail hlim hst hwr]
theorem cC_J32p {x : Nat} (hx : x < 2147483648) (hlim : lim ≤ 99) (hst : st ≤ 25) (hwr : wr < 2000000) : p_X0_passHour_J32 (nI hr, nI a, wy, nI st, nI wr, nI sp, nI la, bF cl, nF nx, nF ct, bF fb, nF wm, bF rd) (nI fl, nI lim, nI nr, nF len, nF tp, nF th, nF ta) (nI x) = some (nI x, iC fb (tlA lim hr a wy st wr sp la cl nx ct wm rd)) := by
  unfold p_X0_passHour_J32
  rw [Lm1, if_neg (of_eq_false (nI_m1e hx)), cC_tail hlim hst hwr]
theorem cL_L73n {M : tM} (hn : nr ≤ 8) (hw : ∀ r, wm r ≤ 99) (hz : ∀ r, rd r = false → wm r = 0) (hlim : lim ≤ 99) (hst : st ≤ 25) (hwr : wr < 2000000) : p_X5_hourOn_L73 200 (iL (fl, lim, nr, len, tp, th, ta) fb (hr, a, wy, st, wr, sp, la, cl, nx, ct, wm, rd) (mn, tl, Ts, Hs) kp sd tw M) (nI mn) (nI 0) = some (iL (fl, lim, nr, len, tp, th, ta) fb (tlA lim hr a wy st wr sp la cl nx ct (coW nr wm 0) (coR nr wm rd 0)) (mn, tl, Ts, Hs) kp sd tw M) := by
  rw [← cL_tail hlim hst hwr]
  exact cL_cool_L hn nr 0 200 wm rd hw hz (by omega) (by omega)
theorem cL_L73p {M : tM} {b : Nat} (hn : nr ≤ 8) (hm : mn < 1000) (hb : b < 1000) (hne : mn ≠ b) (hlim : lim ≤ 99) (hst : st ≤ 25) (hwr : wr < 2000000) : p_X5_hourOn_L73 200 (iL (fl, lim, nr, len, tp, th, ta) fb (hr, a, wy, st, wr, sp, la, cl, nx, ct, wm, rd) (mn, tl, Ts, Hs) kp sd tw M) (nI b) (nI 0) = some (iL (fl, lim, nr, len, tp, th, ta) fb (tlA lim hr a wy st wr sp la cl nx ct wm rd) (mn, tl, Ts, Hs) kp sd tw M) := by
  rw [← cL_tail hlim hst hwr]
  show p_X5_hourOn_L73 (199 + 1) _ _ _ = _
  rw [p_X5_hourOn_L73]
  have e8 : (iL (fl, lim, nr, len, tp, th, ta) fb (hr, a, wy, st, wr, sp, la, cl, nx, ct, wm, rd) (mn, tl, Ts, Hs) kp sd tw M).1 8 = nI mn := rfl
  rw [e8, if_neg (mt (nI_eq (by omega) (by omega)).mp hne)]
  split <;> rfl
theorem cL_rideN (hc : cnt cl 12 = 0) : p_X5_ride (mkN (nI hr) (nI a) wy (nI st) (nI wr) (nI sp) (mI cl 12) (mI rd 8) (nI mn) (nF nx) (nF ct) (nF wm), kp, sd, tw, nI fl, nI lim, mI fb 8, nF len, nF tp, nF th, nI nr, nF ta, nI nm, nF lk, nF dl, nF tl, Ts, Hs) = some (mkN (nI hr) (nI a) wy (nI st) (nI wr) (nI sp) (mI cl 12) (mI rd 8) (nI mn) (nF nx) (nF ct) (nF wm), kp, sd, tw, nI fl, nI lim, mI fb 8, nF len, nF tp, nF th, nI nr, nF ta, nI nm, nF lk, nF dl, nF tl, Ts, Hs) := by
  unfold p_X5_ride
  simp (disch := omega) only [↓Lm1, L0, L1, L2, L3, L4, L5, L7, L8, L9, L10, L12, L20, L21, L33, L40, L60, L80, L99, L108, nI_add, nI_mul, gd_nI, nI_cl, nI_lt', nI_le', nI_eq', bd_sm, nF_app, bF_app, bI_n0, nI_m1e, nI_m1e', nI_m1l, nI_m1l', nI_m1t, nI_m1t', if_true, if_false, mkN_0, mkN_1, mkN_2, mkN_3, mkN_4, mkN_5, mkN_6, mkN_7, mkN_8, mkN_n, mkN_c, mkN_w, upN_0, upN_1, upN_2, upN_3, upN_4, upN_5, upN_6, upN_7, upN_8, upN_n, upN_c, upN_w, has12, has8, mI_clr1, mI_set1, mI_flip1, nar_n0, nar_n1, upd_nF, upd_bF, mI_cnt0, hc]
theorem cnt_ne {g : Nat → Bool} {i n : Nat} (h : i < n) (hg : g i = true) : ¬ cnt g n = 0 := fun e => by
  have := cnt_pos h hg
  omega
theorem cL_rideA (ha : a < 12) (hc : cl a = true) : p_X5_ride (mkN (nI hr) (nI a) wy (nI st) (nI wr) (nI sp) (mI cl 12) (mI rd 8) (nI mn) (nF nx) (nF ct) (nF wm), kp, sd, tw, nI fl, nI lim, mI fb 8, nF len, nF tp, nF th, nI nr, nF ta, nI nm, nF lk, nF dl, nF tl, Ts, Hs) = p_X5_stop (mkN (nI hr) (nI a) wy (nI st) (nI wr) (nI sp) (mI cl 12) (mI rd 8) (nI mn) (nF nx) (nF ct) (nF wm), kp, sd, tw, nI fl, nI lim, mI fb 8, nF len, nF tp, nF th, nI nr, nF ta, nI nm, nF lk, nF dl, nF tl, Ts, Hs) := by
  have hne : (cnt cl 12 = 0) = False := eq_false (cnt_ne ha hc)
  unfold p_X5_ride p_X5_ride_J78
  simp (disch := omega) only [↓Lm1, L0, L1, L2, L3, L4, L5, L7, L8, L9, L10, L12, L20, L21, L33, L40, L60, L80, L99, L108, nI_add, nI_mul, gd_nI, nI_cl, nI_lt', nI_le', nI_eq', bd_sm, nF_app, bF_app, bI_n0, nI_m1e, nI_m1e', nI_m1l, nI_m1l', nI_m1t, nI_m1t', if_true, if_false, mkN_0, mkN_1, mkN_2, mkN_3, mkN_4, mkN_5, mkN_6, mkN_7, mkN_8, mkN_n, mkN_c, mkN_w, upN_0, upN_1, upN_2, upN_3, upN_4, upN_5, upN_6, upN_7, upN_8, upN_n, upN_c, upN_w, has12, has8, mI_clr1, mI_set1, mI_flip1, nar_n0, nar_n1, upd_nF, upd_bF, mI_cnt0, hne, hc, bd_id]
  simp
theorem cL_ride (ha : a < fl) (hfl : fl ≤ 12) (hz : ∀ f, fl ≤ f → cl f = false) (hw : okw wy) (hne : ¬ cnt cl 12 = 0) (hc : cl a = false) : p_X5_ride (mkN (nI hr) (nI a) wy (nI st) (nI wr) (nI sp) (mI cl 12) (mI rd 8) (nI mn) (nF nx) (nF ct) (nF wm), kp, sd, tw, nI fl, nI lim, mI fb 8, nF len, nF tp, nF th, nI nr, nF ta, nI nm, nF lk, nF dl, nF tl, Ts, Hs) = p_X5_ride_J78 (mkN (nI hr) (nI a + wyG cl a wy) (wyG cl a wy) (nI st) (nI wr + nI 1) (nI sp) (mI cl 12) (mI rd 8) (nI mn) (nF nx) (nF ct) (nF wm), kp, sd, tw, nI fl, nI lim, mI fb 8, nF len, nF tp, nF th, nI nr, nF ta, nI nm, nF lk, nF dl, nF tl, Ts, Hs) := by
  have hne : (cnt cl 12 = 0) = False := eq_false hne
  unfold p_X5_ride
  rw [cL_isWay (cl := cl) (a := a) (fl := fl) (by rfl) (by rfl) (by rfl) hfl ha hz (by exact hw), cL_near (cl := cl) (a := a) (fl := fl) (by rfl) (by rfl) (by rfl) hfl ha hz]
  unfold wyG p_X5_ride_J53
  simp (disch := omega) only [↓Lm1, L0, L1, L2, L3, L4, L5, L7, L8, L9, L10, L12, L20, L21, L33, L40, L60, L80, L99, L108, nI_add, nI_mul, gd_nI, nI_cl, nI_lt', nI_le', nI_eq', bd_sm, nF_app, bF_app, bI_n0, nI_m1e, nI_m1e', nI_m1l, nI_m1l', nI_m1t, nI_m1t', if_true, if_false, mkN_0, mkN_1, mkN_2, mkN_3, mkN_4, mkN_5, mkN_6, mkN_7, mkN_8, mkN_n, mkN_c, mkN_w, upN_0, upN_1, upN_2, upN_3, upN_4, upN_5, upN_6, upN_7, upN_8, upN_n, upN_c, upN_w, has12, has8, mI_clr1, mI_set1, mI_flip1, nar_n0, nar_n1, upd_nF, upd_bF, mI_cnt0, hne, hc]
  cases hg : goG cl a wy
  · simp
  · simp
theorem cL_J78n (ha : a < 12) (hc : cl a = false) : p_X5_ride_J78 (mkN (nI hr) (nI a) wy (nI st) (nI wr) (nI sp) (mI cl 12) (mI rd 8) (nI mn) (nF nx) (nF ct) (nF wm), kp, sd, tw, nI fl, nI lim, mI fb 8, nF len, nF tp, nF th, nI nr, nF ta, nI nm, nF lk, nF dl, nF tl, Ts, Hs) = some (mkN (nI hr) (nI a) wy (nI st) (nI wr) (nI sp) (mI cl 12) (mI rd 8) (nI mn) (nF nx) (nF ct) (nF wm), kp, sd, tw, nI fl, nI lim, mI fb 8, nF len, nF tp, nF th, nI nr, nF ta, nI nm, nF lk, nF dl, nF tl, Ts, Hs) := by
  unfold p_X5_ride_J78
  simp (disch := omega) only [↓Lm1, L0, L1, L2, L3, L4, L5, L7, L8, L9, L10, L12, L20, L21, L33, L40, L60, L80, L99, L108, nI_add, nI_mul, gd_nI, nI_cl, nI_lt', nI_le', nI_eq', bd_sm, nF_app, bF_app, bI_n0, nI_m1e, nI_m1e', nI_m1l, nI_m1l', nI_m1t, nI_m1t', if_true, if_false, mkN_0, mkN_1, mkN_2, mkN_3, mkN_4, mkN_5, mkN_6, mkN_7, mkN_8, mkN_n, mkN_c, mkN_w, upN_0, upN_1, upN_2, upN_3, upN_4, upN_5, upN_6, upN_7, upN_8, upN_n, upN_c, upN_w, has12, has8, mI_clr1, mI_set1, mI_flip1, nar_n0, nar_n1, upd_nF, upd_bF, hc]
theorem cL_J78s (ha : a < 12) (hc : cl a = true) : p_X5_ride_J78 (mkN (nI hr) (nI a) wy (nI st) (nI wr) (nI sp) (mI cl 12) (mI rd 8) (nI mn) (nF nx) (nF ct) (nF wm), kp, sd, tw, nI fl, nI lim, mI fb 8, nF len, nF tp, nF th, nI nr, nF ta, nI nm, nF lk, nF dl, nF tl, Ts, Hs) = p_X5_stop (mkN (nI hr) (nI a) wy (nI st) (nI wr) (nI sp) (mI cl 12) (mI rd 8) (nI mn) (nF nx) (nF ct) (nF wm), kp, sd, tw, nI fl, nI lim, mI fb 8, nF len, nF tp, nF th, nI nr, nF ta, nI nm, nF lk, nF dl, nF tl, Ts, Hs) := by
  unfold p_X5_ride_J78
  simp (disch := omega) only [↓Lm1, L0, L1, L2, L3, L4, L5, L7, L8, L9, L10, L12, L20, L21, L33, L40, L60, L80, L99, L108, nI_add, nI_mul, gd_nI, nI_cl, nI_lt', nI_le', nI_eq', bd_sm, nF_app, bF_app, bI_n0, nI_m1e, nI_m1e', nI_m1l, nI_m1l', nI_m1t, nI_m1t', if_true, if_false, mkN_0, mkN_1, mkN_2, mkN_3, mkN_4, mkN_5, mkN_6, mkN_7, mkN_8, mkN_n, mkN_c, mkN_w, upN_0, upN_1, upN_2, upN_3, upN_4, upN_5, upN_6, upN_7, upN_8, upN_n, upN_c, upN_w, has12, has8, mI_clr1, mI_set1, mI_flip1, nar_n0, nar_n1, upd_nF, upd_bF, hc, bd_id]
  simp
end
/-- what an hour prints -/
def pR (r : Int32) (hr a' : Nat) (nx' : Nat → Nat) (B B' : tB) : Prop := (r = m1 ∧ B' = B) ∨ (∃ x p : Nat, r = nI x ∧ x < 2147483648 ∧ p < 9 ∧ a' < 12 ∧ B.1 < 108 ∧ nx' a' = p + 1 ∧ B' = (B.1 + 1, ud B.2.1 B.1 (9 * a' + p), upd B.2.2.1 B.1 r, upd B.2.2.2 B.1 (nI hr)))
/-- where it stops -/
def sR (cl cl' : Nat → Bool) (sd : Int32) : Prop := ∀ f : Nat, f < 12 → (sd = nI f ↔ (cl f = true ∧ cl' f = false)) ∧ (cl' f = true → cl f = true)
theorem sR_no (cl : Nat → Bool) : sR cl cl m1 := fun f hf => by
  refine ⟨⟨fun h => ?_, fun h => ?_⟩, fun h => h⟩
  · rw [nI_m1e' (by omega)] at h; exact h.elim
  · rw [h.1] at h; exact nomatch h.2
theorem sR_at {cl : Nat → Bool} {a : Nat} (ha : a < 12) (hc : cl a = true) : sR cl (ud cl a false) (nI a) := fun f hf => by
  rw [nI_eq' (by omega) (by omega)]
  by_cases h : f = a
  · subst h
    rw [ud_at]
    exact ⟨⟨fun _ => ⟨hc, rfl⟩, fun _ => rfl⟩, fun h => nomatch h⟩
  · rw [ud_ne _ _ h]
    refine ⟨⟨fun e => absurd e.symm h, fun e => ?_⟩, fun h => h⟩
    rw [e.1] at e; exact nomatch e.2
