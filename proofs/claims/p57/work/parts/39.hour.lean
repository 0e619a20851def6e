/-! THE PURE PART: an hour, of class and law -/
theorem go_dir {cl : Nat → Bool} {a fl : Nat} {wy : Int32} (ha : a < fl) (hfl : fl ≤ 12) (hz : ∀ f, fl ≤ f → cl f = false) (hw : okw wy) (hc : cl a = false) (hx : ¬ cnt cl 12 = 0) : ∃ a' : Nat, nI a + wyG cl a wy = nI a' ∧ a' < fl ∧ okw (wyG cl a wy) ∧ ((a' = a + 1 ∧ ∃ k, a < k ∧ k < fl ∧ cl k = true) ∨ (a = a' + 1 ∧ ∃ k, k < a ∧ cl k = true)) := by
  have hlt : ∀ j, cl j = true → j < fl := fun j hj => by
    by_cases q : j < fl
    · exact q
    · rw [hz j (by omega)] at hj; cases hj
  have kU : ∀ v : Int32, v = nI 1 → (∃ k, a < k ∧ cl k = true) → ∃ a' : Nat, nI a + v = nI a' ∧ a' < fl ∧ okw v ∧ ((a' = a + 1 ∧ ∃ k, a < k ∧ k < fl ∧ cl k = true) ∨ (a = a' + 1 ∧ ∃ k, k < a ∧ cl k = true)) := by
    rintro v h ⟨k, h1, h2⟩
    have := hlt k h2
    exact ⟨a + 1, by rw [h, nI_add], by omega, Or.inr (Or.inl h), Or.inl ⟨rfl, k, h1, this, h2⟩⟩
  have kD : ∀ v : Int32, v = m1 → (∃ k, k < a ∧ cl k = true) → ∃ a' : Nat, nI a + v = nI a' ∧ a' < fl ∧ okw v ∧ ((a' = a + 1 ∧ ∃ k, a < k ∧ k < fl ∧ cl k = true) ∨ (a = a' + 1 ∧ ∃ k, k < a ∧ cl k = true)) := by
    rintro v h ⟨k, h1, h2⟩
    obtain ⟨b, rfl⟩ : ∃ b, a = b + 1 := ⟨a - 1, by omega⟩
    exact ⟨b, by rw [h, nI_m1a], by omega, Or.inr (Or.inr h), Or.inr ⟨rfl, k, h1, h2⟩⟩
  unfold wyG
  by_cases h : goG cl a wy = true
  · rw [if_pos h]
    rcases hw with h0 | h0 | h0
    · subst h0; rw [goG_0] at h; cases h
    · subst h0
      rw [goG_1, aF_iff] at h
      obtain ⟨j, h1, h2, h3⟩ := h
      exact kU _ rfl ⟨j, by omega, h3⟩
    · subst h0
      rw [goG_m, aF_iff] at h
      obtain ⟨j, h1, h2, h3⟩ := h
      exact kD _ rfl ⟨j, by omega, h3⟩
  · rw [if_neg h]
    obtain ⟨j, hj, hj2⟩ := cnt_ex hx
    have hs := near_sp hc 11 1 (by omega) (fun e he => by
      have : e = 0 := by omega
      subst this
      exact ⟨hc, fun _ => hc⟩) (by
      have := hlt j hj2
      by_cases q : j ≤ a
      · exact ⟨a - j, by omega, Or.inr ⟨by omega, by rw [show a - (a - j) = j by omega]; exact hj2⟩⟩
      · exact ⟨j - a, by omega, Or.inl (by rw [show a + (j - a) = j by omega]; exact hj2)⟩)
    rcases hs with ⟨h1, e, h2, h3⟩ | ⟨h1, e, h2, h3, h4⟩
    · refine kU _ h1 ⟨a + e, ?_, h2⟩
      by_cases q : e = 0
      · subst q; rw [Nat.add_zero, hc] at h2; cases h2
      · omega
    · refine kD _ h1 ⟨a - e, ?_, h3⟩
      by_cases q : e = 0
      · subst q; rw [Nat.sub_zero, hc] at h3; cases h3
      · omega
section
variable {hr a st wr sp la : Nat} {wy : Int32} {cl fb rd : Nat → Bool} {nx ct wm : Nat → Nat} {fl lim nr : Nat} {len tp th ta : Nat → Nat} {sd : Int32} {nm mn : Nat} {lk dl tl Ts Hs : Nat → Nat}
theorem cC_tail {r : Int32} (hlim : lim ≤ 99) (hst : st ≤ 25) (hwr : wr < 2000000) : p_X0_passHour_J41 (nI hr, nI a, wy, nI st, nI wr, nI sp, nI la, bF cl, nF nx, nF ct, bF fb, nF wm, bF rd) (nI fl, nI lim, nI nr, nF len, nF tp, nF th, nF ta) r = some (r, iC fb (tlA lim hr a wy st wr sp la cl nx ct wm rd)) := by
  have hc := cnt_le 12 cl
  unfold p_X0_passHour_J41 p_X0_passHour_J53 p_X0_getStuckIfWorn iC tlA
  rw [cC_called]
  simp (disch := omega) only [↓Lm1, L0, L1, L2, L3, L4, L5, L7, L8, L9, L10, L12, L20, L21, L33, L40, L60, L80, L99, L108, nI_add, nI_mul, gd_nI, nI_cl, nI_lt', nI_le', nI_eq', bd_sm, nF_app, bF_app, bI_n0, nI_m1e, nI_m1e', nI_m1l, nI_m1l', nI_m1t, nI_m1t', if_true, if_false, nI_div]
  by_cases h1 : cnt cl 12 = 0 <;> by_cases h2 : st = 0 <;> by_cases h3 : lim ≤ wr
  all_goals
    have h4 : (wr < lim) = ¬ (lim ≤ wr) := propext ⟨fun h => by omega, fun h => by omega⟩
    simp (disch := omega) only [h1, h2, h3, h4, if_true, if_false, bd_sm, nI_add, and_true, and_false, not_true_eq_false, not_false_eq_true, ← L0, ← L1] <;> simp [L0, L1, nI_add]
theorem cC_J32n (hn : nr ≤ 8) (hw : ∀ r, wm r ≤ 99) (hlim : lim ≤ 99) (hst : st ≤ 25) (hwr : wr < 2000000) : p_X0_passHour_J32 (nI hr, nI a, wy, nI st, nI wr, nI sp, nI la, bF cl, nF nx, nF ct, bF fb, nF wm, bF rd) (nI fl, nI lim, nI nr, nF len, nF tp, nF th, nF ta) m1 = some (m1, iC fb (tlA lim hr a wy st wr sp la cl nx ct (coW nr wm 0) (coR nr wm rd 0))) := by
  unfold p_X0_passHour_J32 p_X0_coolReaders
  rw [Lm1, if_pos rfl, L0, cC_cool_L hn nr 0 200 wm rd hw (by omega) (by omega), bd_sm, cC_tail hlim hst hwr]
theorem cC_J32p {x : Nat} (hx : x < 2147483648) (hlim : lim ≤ 99) (hst : st ≤ 25) (hwr : wr < 2000000) : p_X0_passHour_J32 (nI hr, nI a, wy, nI st, nI wr, nI sp, nI la, bF cl, nF nx, nF ct, bF fb, nF wm, bF rd) (nI fl, nI lim, nI nr, nF len, nF tp, nF th, nF ta) (nI x) = some (nI x, iC fb (tlA lim hr a wy st wr sp la cl nx ct wm rd)) := by
  unfold p_X0_passHour_J32
  rw [Lm1, if_neg (of_eq_false (nI_m1e hx)), cC_tail hlim hst hwr]
/-- the law's hour from where the lift stands -/
theorem sS_J264n (ha : a < fl) (hfl : fl ≤ 12) (hc : cl a = false) (b : Int32) : p_X5_pass_J264 (nI hr, nI a, wy, nI st, nI wr, nI lim, nI sp, (fl, bF cl), bF fb, (fl, sCh len nx ct tp th), (nr, sRd nr ta wm rd), (nm, sMi nm lk dl), (mn, sPr mn tl Ts Hs tp th), sd) b = p_X5_pass_J280 (nI hr, nI a, wy, nI st, nI wr, nI lim, nI sp, (fl, bF cl), bF fb, (fl, sCh len nx ct tp th), (nr, sRd nr ta wm rd), (nm, sMi nm lk dl), (mn, sPr mn tl Ts Hs tp th), sd) b := by
  unfold p_X5_pass_J264
  simp (disch := omega) only [↓Lm1, L0, L1, L2, L3, L4, L5, L7, L8, L9, L10, L12, L20, L21, L33, L40, L60, L80, L99, L108, nI_add, nI_mul, gd_nI, nI_cl, nI_lt', nI_le', nI_eq', bd_sm, nF_app, bF_app, bI_n0, nI_m1e, nI_m1e', nI_m1l, nI_m1l', nI_m1t, nI_m1t', if_true, if_false, hc]
theorem sS_J264s (ha : a < fl) (hfl : fl ≤ 12) (hc : cl a = true) (b : Int32) : p_X5_pass_J264 (nI hr, nI a, wy, nI st, nI wr, nI lim, nI sp, (fl, bF cl), bF fb, (fl, sCh len nx ct tp th), (nr, sRd nr ta wm rd), (nm, sMi nm lk dl), (mn, sPr mn tl Ts Hs tp th), sd) b = bd (p_X5_stop (nI hr, nI a, wy, nI st, nI wr, nI lim, nI sp, (fl, bF cl), bF fb, (fl, sCh len nx ct tp th), (nr, sRd nr ta wm rd), (nm, sMi nm lk dl), (mn, sPr mn tl Ts Hs tp th), sd)) (fun v6 => p_X5_pass_J280 v6 b) := by
  unfold p_X5_pass_J264
  simp (disch := omega) only [↓Lm1, L0, L1, L2, L3, L4, L5, L7, L8, L9, L10, L12, L20, L21, L33, L40, L60, L80, L99, L108, nI_add, nI_mul, gd_nI, nI_cl, nI_lt', nI_le', nI_eq', bd_sm, nF_app, bF_app, bI_n0, nI_m1e, nI_m1e', nI_m1l, nI_m1l', nI_m1t, nI_m1t', if_true, if_false, hc]
  simp
end
/-- a stop -/
def hS : Int32 → tG → (Nat → Bool) → tA → tB → tA → tB → Prop
  | r, (fl, lim, nr, len, tp, th, ta), fb, (hr, a, wy, st, wr, sp, la, cl, nx, ct, wm, rd), (mn, tl, Ts, Hs), (hr', a', wy', st', wr', sp', la', cl', nx', ct', wm', rd'), B' => a' = a ∧ cl a = true ∧ cl' = ud cl a false ∧ ((r = m1 ∧ sp' = sp ∧ B' = (mn, tl, Ts, Hs) ∧ wm' = coW nr wm 0 ∧ rd' = coR nr wm rd 0 ∧ ((nx' = nx ∧ ct' = ct) ∨ (nx a < len a ∧ nx' = ud nx a (nx a + 1) ∧ ct' = ud ct a (ct a + 1)))) ∨ (r = nI (th (9 * a + nx a) + sp) ∧ nx a < len a ∧ fb (tp (9 * a + nx a)) = false ∧ sp' = 0 ∧ nx' = ud nx a (nx a + 1) ∧ ct' = ct ∧ wm' = prG nr ta rd (tp (9 * a + nx a)) (th (9 * a + nx a) + sp) wm 0 ∧ rd' = rd ∧ B' = (mn + 1, ud tl mn (9 * a + nx a), ud Ts mn (th (9 * a + nx a) + sp), ud Hs mn hr)))
/-- no stop -/
def hN : Int32 → tG → tA → tB → tA → tB → Prop
  | r, (fl, lim, nr, len, tp, th, ta), (hr, a, wy, st, wr, sp, la, cl, nx, ct, wm, rd), B, (hr', a', wy', st', wr', sp', la', cl', nx', ct', wm', rd'), B' => r = m1 ∧ cl' = cl ∧ nx' = nx ∧ ct' = ct ∧ B' = B ∧ wm' = coW nr wm 0 ∧ rd' = coR nr wm rd 0 ∧ ((st = 0 ∧ sp' = sp) ∨ (0 < st ∧ sp < sp'))
/-- the move -/
def hM : tG → tA → tA → Prop
  | (fl, lim, nr, len, tp, th, ta), (hr, a, wy, st, wr, sp, la, cl, nx, ct, wm, rd), (hr', a', wy', st', wr', sp', la', cl', nx', ct', wm', rd') => hr' = hr + 1 ∧ (cnt cl' 12 = 0 → wy' = nI 0) ∧ (a' = a ∨ (st = 0 ∧ cl a = false ∧ ((a' = a + 1 ∧ ∃ k, a < k ∧ k < fl ∧ cl k = true) ∨ (a = a' + 1 ∧ ∃ k, k < a ∧ cl k = true)))) ∧ (st = 0 → ¬ cnt cl 12 = 0 → cl a = true ∨ a' ≠ a)
def hF (r : Int32) (g : tG) (fb : Nat → Bool) (A : tA) (B : tB) (A' : tA) (B' : tB) : Prop := hM g A A' ∧ (hN r g A B A' B' ∨ (A.2.2.2.1 = 0 ∧ hS r g fb (A.1, A'.2.1, A.2.2) B A' B'))
section
variable {hr a st wr sp la : Nat} {wy : Int32} {cl fb rd : Nat → Bool} {nx ct wm : Nat → Nat} {fl lim nr : Nat} {len tp th ta : Nat → Nat} {sd : Int32} {nm mn : Nat} {lk dl tl Ts Hs : Nat → Nat}
set_option maxHeartbeats 8000000 in
theorem j_stop (h : iRx fl lim nr len tp th ta fb (hr + 1) a wy st wr sp la cl nx ct wm rd mn tl) (hy : iRy th nx hr mn tl Ts Hs) (hspp : sp ≤ 10 * hr) (hh : hr < 1000000) (hc : cl a = true) : ∃ (r : Int32) (A' : tA) (B' : tB) (sd' : Int32), bd (p_X0_stopIfCalled (nI hr, nI a, wy, nI st, nI wr, nI sp, nI la, bF cl, nF nx, nF ct, bF fb, nF wm, bF rd) (nI fl, nI lim, nI nr, nF len, nF tp, nF th, nF ta)) (fun v3 => p_X0_passHour_J32 v3.2 (nI fl, nI lim, nI nr, nF len, nF tp, nF th, nF ta) v3.1) = some (r, iC fb A') ∧ bd (p_X5_stop (nI hr, nI a, wy, nI st, nI wr, nI lim, nI sp, (fl, bF cl), bF fb, (fl, sCh len nx ct tp th), (nr, sRd nr ta wm rd), (nm, sMi nm lk dl), (mn, sPr mn tl Ts Hs tp th), sd)) (fun v6 => p_X5_pass_J280 v6 (nI mn)) = some (iS (fl, lim, nr, len, tp, th, ta) fb A' B' (nm, lk, dl) sd') ∧ iRX (fl, lim, nr, len, tp, th, ta) fb A' B' ∧ iRY (fl, lim, nr, len, tp, th, ta) A' B' ∧ (A'.1 = hr + 1 ∧ (cnt A'.2.2.2.2.2.2.2.1 12 = 0 → A'.2.2.1 = nI 0)) ∧ hS r (fl, lim, nr, len, tp, th, ta) fb (hr, a, wy, st, wr, sp, la, cl, nx, ct, wm, rd) (mn, tl, Ts, Hs) A' B' := by
  have h0 := h
  have hmn := R_mn2 h
  obtain ⟨⟨h1, h1b⟩, ⟨h2, h2b⟩, h3, h4, h5, h6, h7, h8, h9, h10, h11, h12, h13, h14, h15, h16, h17, h18, h19, h20, h21, h22, h23⟩ := h
  have ha12 : a < 12 := by omega
  have hz12 : ∀ f, 12 ≤ f → cl f = false := fun f hf => h16 f (by omega)
  have hzc : ∀ k f, fl ≤ f → ud cl k false f = false := fun k f hf => by
    by_cases e : f = k
    · subst e; exact ud_at _ _ _
    · rw [ud_ne _ _ e]; exact h16 f hf
  by_cases he : nx a = len a
  · refine ⟨m1, tlA lim hr a wy st wr sp la (ud cl a false) nx ct (coW nr wm 0) (coR nr wm rd 0), (mn, tl, Ts, Hs), nI a, ?_, ?_, R_tail (R_cool (R_clr h0)), Y_up hy, ⟨rfl, fun q => if_pos q⟩, rfl, hc, rfl, Or.inl ⟨rfl, rfl, rfl, rfl, rfl, Or.inl ⟨rfl, rfl⟩⟩⟩
    · rw [cC_stopE ha12 hz12 hc h4 h17 he, bd_sm]
      exact cC_J32n h3 h20 h2b h12 (by omega)
    · rw [sS_stopE h10 h1b h4 he, bd_sm]
      exact sS_J280n h1b (hzc a) h3 h20 h21 h2b h12 (by omega)
  · have hlt : nx a < len a := by have := h17 a; omega
    have hx9 := h4 a
    cases hf : fb (tp (9 * a + nx a))
    · have hm := R_mn h0 hlt
      have ht9 := h7 (9 * a + nx a)
      refine ⟨nI (th (9 * a + nx a) + sp), tlA lim hr a wy st wr 0 (th (9 * a + nx a)) (ud cl a false) (ud nx a (nx a + 1)) ct (prG nr ta rd (tp (9 * a + nx a)) (th (9 * a + nx a) + sp) wm 0) rd, (mn + 1, ud tl mn (9 * a + nx a), ud Ts mn (th (9 * a + nx a) + sp), ud Hs mn hr), nI a, ?_, ?_, R_tail (R_clr (R_print h0 hlt)), Y_print hy (by omega) hspp h7, ⟨rfl, fun q => if_pos q⟩, rfl, hc, rfl, Or.inr ⟨rfl, hlt, hf, rfl, rfl, rfl, rfl, rfl, rfl⟩⟩
      · rw [cC_stopP ha12 hz12 hc h4 hlt h6 h7 h8 h3 h20 (by omega) hf, bd_sm]
        exact cC_J32p (by omega) h2b h12 (by omega)
      · rw [sS_stopP h10 h1b h4 hlt h6 h7 h8 h3 h20 (by omega) hm hf, bd_sm]
        exact sS_J280p (b := mn) h1b (hzc a) (by omega) (by omega) (by omega) h2b h12 (by omega)
    · have yc : iRy th (ud nx a (nx a + 1)) (hr + 1) mn tl Ts Hs := Y_up (Y_nx (a := a) hy)
      have rc := R_tail (Ts := Ts) (Hs := Hs) (R_cool (R_clr (k := a) (R_cut h0 hlt)))
      refine ⟨m1, tlA lim hr a wy st wr sp la (ud cl a false) (ud nx a (nx a + 1)) (ud ct a (ct a + 1)) (coW nr wm 0) (coR nr wm rd 0), (mn, tl, Ts, Hs), nI a, ?_, ?_, rc, yc, ⟨rfl, fun q => if_pos q⟩, rfl, hc, rfl, Or.inl ⟨rfl, rfl, rfl, rfl, rfl, Or.inr ⟨hlt, rfl, rfl⟩⟩⟩
      · rw [cC_stopC ha12 hz12 hc h4 hlt h6 hf, bd_sm]
        exact cC_J32n h3 h20 h2b h12 (by omega)
      · rw [sS_stopC h10 h1b h4 hlt h6 hf, bd_sm]
        exact sS_J280n h1b (hzc a) h3 h20 h21 h2b h12 (by omega)
end
theorem j_hour {g : tG} {fb : Nat → Bool} {A : tA} {B : tB} {M : tM} {sd : Int32} (hR : iR g fb A B M) (hh : A.1 < 1000000) : ∃ (r : Int32) (A' : tA) (B' : tB) (sd' : Int32), p_X0_passHour (iC fb A) (iH g) = some (r, iC fb A') ∧ p_X5_pass (iS g fb A B M sd) = some (iS g fb A' B' M sd') ∧ iR g fb A' B' M ∧ hF r g fb A B A' B' := by
  obtain ⟨hR, hY, hM0⟩ := hR
  obtain ⟨fl, lim, nr, len, tp, th, ta⟩ := g
  obtain ⟨hr, a, wy, st, wr, sp, la, cl, nx, ct, wm, rd⟩ := A
  obtain ⟨mn, tl, Ts, Hs⟩ := B
  obtain ⟨nm, lk, dl⟩ := M
  have h : iRx fl lim nr len tp th ta fb hr a wy st wr sp la cl nx ct wm rd mn tl := hR
  have hY : iRy th nx hr mn tl Ts Hs := hY
  have hh : hr < 1000000 := hh
  have h0 := h
  have hmn := R_mn2 h
  obtain ⟨⟨h1, h1b⟩, ⟨h2, h2b⟩, h3, h4, h5, h6, h7, h8, h9, h10, h11, h12, h13, h14, h15, h16, h17, h18, h19, h20, h21, h22, h23⟩ := h
  have ha12 : a < 12 := by omega
  have hz12 : ∀ f, 12 ≤ f → cl f = false := fun f hf => h16 f (by omega)
  have hcn := cnt_le 12 cl
  show ∃ (r : Int32) (A' : tA) (B' : tB) (sd' : Int32), p_X0_passHour (nI hr, nI a, wy, nI st, nI wr, nI sp, nI la, bF cl, nF nx, nF ct, bF fb, nF wm, bF rd) (nI fl, nI lim, nI nr, nF len, nF tp, nF th, nF ta) = some (r, iC fb A') ∧ p_X5_pass (nI hr, nI a, wy, nI st, nI wr, nI lim, nI sp, (fl, bF cl), bF fb, (fl, sCh len nx ct tp th), (nr, sRd nr ta wm rd), (nm, sMi nm lk dl), (mn, sPr mn tl Ts Hs tp th), sd) = some (iS (fl, lim, nr, len, tp, th, ta) fb A' B' (nm, lk, dl) sd') ∧ iR (fl, lim, nr, len, tp, th, ta) fb A' B' (nm, lk, dl) ∧ hF r (fl, lim, nr, len, tp, th, ta) fb (hr, a, wy, st, wr, sp, la, cl, nx, ct, wm, rd) (mn, tl, Ts, Hs) A' B'
  by_cases hst : st = 0
  · subst hst
    -- the class until it rides, the law until it rides
    have kC : ∀ Z, (cnt cl 12 = 0 → p_X0_passHour_J32 (nI hr, nI a, wy, nI 0, nI wr, nI sp, nI la, bF cl, nF nx, nF ct, bF fb, nF wm, bF rd) (nI fl, nI lim, nI nr, nF len, nF tp, nF th, nF ta) m1 = Z) → (¬ cnt cl 12 = 0 → bd (p_X0_ride (nI hr, nI a, wy, nI 0, nI wr, nI sp, nI la, bF cl, nF nx, nF ct, bF fb, nF wm, bF rd) (nI fl, nI lim, nI nr, nF len, nF tp, nF th, nF ta)) (fun v2 => bd (p_X0_stopIfCalled v2 (nI fl, nI lim, nI nr, nF len, nF tp, nF th, nF ta)) (fun v3 => p_X0_passHour_J32 v3.2 (nI fl, nI lim, nI nr, nF len, nF tp, nF th, nF ta) v3.1)) = Z) → p_X0_passHour (nI hr, nI a, wy, nI 0, nI wr, nI sp, nI la, bF cl, nF nx, nF ct, bF fb, nF wm, bF rd) (nI fl, nI lim, nI nr, nF len, nF tp, nF th, nF ta) = Z := by
      intro Z k1 k2
      unfold p_X0_passHour
      rw [cC_called]
      simp (disch := omega) only [↓Lm1, L0, L1, L2, L3, L4, L5, L7, L8, L9, L10, L12, L20, L21, L33, L40, L60, L80, L99, L108, nI_add, nI_mul, gd_nI, nI_cl, nI_lt', nI_le', nI_eq', bd_sm, nF_app, bF_app, bI_n0, nI_m1e, nI_m1e', nI_m1l, nI_m1l', nI_m1t, nI_m1t', if_true, if_false, Nat.le_refl]
      by_cases hc : cnt cl 12 = 0
      · rw [if_pos (by omega)]; exact k1 hc
      · rw [if_neg (by omega)]; exact k2 hc
    have kS : ∀ Z, (cnt cl 12 = 0 → p_X5_pass_J280 (nI hr, nI a, wy, nI 0, nI wr, nI lim, nI sp, (fl, bF cl), bF fb, (fl, sCh len nx ct tp th), (nr, sRd nr ta wm rd), (nm, sMi nm lk dl), (mn, sPr mn tl Ts Hs tp th), m1) (nI mn) = Z) → (¬ cnt cl 12 = 0 → cl a = false → p_X5_pass_L87 200 (nI hr, nI a, wy, nI 0, nI wr, nI lim, nI sp, (fl, bF cl), bF fb, (fl, sCh len nx ct tp th), (nr, sRd nr ta wm rd), (nm, sMi nm lk dl), (mn, sPr mn tl Ts Hs tp th), m1) (nI mn) (nI 0) (nI 0) = Z) → (cl a = true → p_X5_pass_J264 (nI hr, nI a, wy, nI 0, nI wr, nI lim, nI sp, (fl, bF cl), bF fb, (fl, sCh len nx ct tp th), (nr, sRd nr ta wm rd), (nm, sMi nm lk dl), (mn, sPr mn tl Ts Hs tp th), m1) (nI mn) = Z) → p_X5_pass (nI hr, nI a, wy, nI 0, nI wr, nI lim, nI sp, (fl, bF cl), bF fb, (fl, sCh len nx ct tp th), (nr, sRd nr ta wm rd), (nm, sMi nm lk dl), (mn, sPr mn tl Ts Hs tp th), sd) = Z := by
      intro Z k1 k2 k3
      have hcl := sS_calls (hr := hr) (a := a) (wy := wy) (st := 0) (wr := wr) (lim := lim) (sp := sp) (fl := fl) (cl := cl) (fb := fb) (len := len) (nx := nx) (ct := ct) (tp := tp) (th := th) (nr := nr) (ta := ta) (wm := wm) (rd := rd) (nm := nm) (lk := lk) (dl := dl) (mn := mn) (tl := tl) (Ts := Ts) (Hs := Hs) (sd := m1) h1b
      rw [cnt_cut h1b h16] at hcl
      unfold p_X5_pass
      simp (disch := omega) only [↓Lm1, L0, L1, L2, L3, L4, L5, L7, L8, L9, L10, L12, L20, L21, L33, L40, L60, L80, L99, L108, nI_add, nI_mul, gd_nI, nI_cl, nI_lt', nI_le', nI_eq', bd_sm, nF_app, bF_app, bI_n0, nI_m1e, nI_m1e', nI_m1l, nI_m1l', nI_m1t, nI_m1t', if_true, if_false, Nat.le_refl, hcl]
      by_cases hc : cnt cl 12 = 0
      · rw [if_pos (by omega)]; exact k1 hc
      · rw [if_neg (by omega)]
        cases hca : cl a
        · rw [if_pos rfl]; exact k2 hc hca
        · rw [if_neg (show ¬ (true = false) by simp)]; exact k3 hca
    by_cases hc : cnt cl 12 = 0
    · have hnc : ∀ f, f < 12 → ¬ cl f = true := fun f hf q => cnt_ne hf q hc
      refine ⟨m1, tlA lim hr a wy 0 wr sp la cl nx ct (coW nr wm 0) (coR nr wm rd 0), (mn, tl, Ts, Hs), m1, ?_, ?_, ⟨R_tail (R_cool (R_up h0)), Y_up hY, hM0⟩, ⟨rfl, fun q => if_pos q, Or.inl rfl, fun _ q => absurd hc q⟩, Or.inl ⟨rfl, rfl, rfl, rfl, rfl, rfl, rfl, Or.inl ⟨rfl, rfl⟩⟩⟩
      · exact kC _ (fun _ => cC_J32n h3 h20 h2b h12 (by omega)) (fun k => absurd hc k)
      · refine kS _ (fun _ => ?_) (fun k => absurd hc k) (fun k => absurd k (hnc a ha12))
        exact sS_J280n h1b h16 h3 h20 h21 h2b h12 (by omega)
    · by_cases hca : cl a = true
      · obtain ⟨r, A', B', sd', e1, e2, e3, e4, e5, e6⟩ := j_stop (Ts := Ts) (Hs := Hs) (sd := m1) (nm := nm) (lk := lk) (dl := dl) (R_up h0) hY h14 hh hca
        obtain ⟨hr', a', wy', st', wr', sp', la', cl', nx', ct', wm', rd'⟩ := A'
        have e7 : a' = a := e6.1
        subst e7
        refine ⟨r, _, B', sd', ?_, ?_, ⟨e3, e4, hM0⟩, ⟨e5.1, e5.2, Or.inl rfl, fun _ _ => Or.inl hca⟩, Or.inr ⟨rfl, e6⟩⟩
        · refine kC _ (fun k => absurd k hc) (fun _ => ?_)
          rw [cC_ride_at ha12 hz12 hca, bd_sm]
          exact e1
        · refine kS _ (fun k => absurd k hc) (fun _ k => by rw [hca] at k; cases k) (fun _ => ?_)
          rw [sS_J264s h10 h1b hca]
          exact e2
      · have hca : cl a = false := by cases hq : cl a <;> simp_all
        obtain ⟨a2, m1e, m2e, m3e, m4e⟩ := go_dir h10 h1b h16 h11 hca hc
        have ha12' : a2 < 12 := by omega
        have h00 := R_move h0 m2e m3e
        have hmv : a2 ≠ a := by rcases m4e with ⟨q, _⟩ | ⟨q, _⟩ <;> omega
        have wS := sS_way (hr := hr) (st := 0) (wr := wr) (lim := lim) (sp := sp) (fb := fb) (len := len) (nx := nx) (ct := ct) (tp := tp) (th := th) (nr := nr) (ta := ta) (wm := wm) (rd := rd) (nm := nm) (lk := lk) (dl := dl) (mn := mn) (tl := tl) (Ts := Ts) (Hs := Hs) (sd := m1) h1b h10 h16 h11 hca hc
        rw [m1e, L0] at wS
        by_cases hcb : cl a2 = true
        · obtain ⟨r, A', B', sd', e1, e2, e3, e4, e5, e6⟩ := j_stop (Ts := Ts) (Hs := Hs) (sd := m1) (nm := nm) (lk := lk) (dl := dl) h00 hY h14 hh hcb
          obtain ⟨hr', a', wy', st', wr', sp', la', cl', nx', ct', wm', rd'⟩ := A'
          have e7 : a' = a2 := e6.1
          subst e7
          refine ⟨r, _, B', sd', ?_, ?_, ⟨e3, e4, hM0⟩, ⟨e5.1, e5.2, Or.inr ⟨rfl, hca, m4e⟩, fun _ _ => Or.inr hmv⟩, Or.inr ⟨rfl, e6⟩⟩
          · refine kC _ (fun k => absurd k hc) (fun _ => ?_)
            rw [cC_ride ha12 hz12 h11 hca, bd_sm, m1e, nI_add]
            exact e1
          · refine kS _ (fun k => absurd k hc) (fun _ _ => ?_) (fun k => by rw [hca] at k; cases k)
            rw [wS, sS_J264s m2e h1b hcb]
            exact e2
        · have hcb : cl a2 = false := by cases hq : cl a2 <;> simp_all
          refine ⟨m1, tlA lim hr a2 (wyG cl a wy) 0 (wr + 1) sp la cl nx ct (coW nr wm 0) (coR nr wm rd 0), (mn, tl, Ts, Hs), m1, ?_, ?_, ⟨R_tail (R_cool h00), Y_up hY, hM0⟩, ⟨rfl, fun q => if_pos q, Or.inr ⟨rfl, hca, m4e⟩, fun _ _ => Or.inr hmv⟩, Or.inl ⟨rfl, rfl, rfl, rfl, rfl, rfl, rfl, Or.inl ⟨rfl, rfl⟩⟩⟩
          · refine kC _ (fun k => absurd k hc) (fun _ => ?_)
            rw [cC_ride ha12 hz12 h11 hca, bd_sm, m1e, nI_add, cC_stop0 ha12' hz12 hcb, bd_sm]
            exact cC_J32n h3 h20 h2b h12 (by omega)
          · refine kS _ (fun k => absurd k hc) (fun _ _ => ?_) (fun k => by rw [hca] at k; cases k)
            rw [wS, sS_J264n m2e h1b hcb]
            exact sS_J280n h1b h16 h3 h20 h21 h2b h12 (by omega)
  · have hst1 : (st ≤ 0) = False := eq_false (by omega)
    refine ⟨m1, tlA lim hr a wy (st - 1) wr (sp + (1 + la)) la cl nx ct (coW nr wm 0) (coR nr wm rd 0), (mn, tl, Ts, Hs), m1, ?_, ?_, ⟨R_tail (R_cool (R_stuck h0)), Y_up hY, hM0⟩, ⟨rfl, fun q => if_pos q, Or.inl rfl, fun q => absurd q hst⟩, Or.inl ⟨rfl, rfl, rfl, rfl, rfl, rfl, rfl, Or.inr ⟨by omega, (by omega : sp < sp + (1 + la))⟩⟩⟩
    · unfold p_X0_passHour p_X0_waitStuck
      simp (disch := omega) only [↓Lm1, L0, L1, L2, L3, L4, L5, L7, L8, L9, L10, L12, L20, L21, L33, L40, L60, L80, L99, L108, nI_add, nI_mul, gd_nI, nI_cl, nI_lt', nI_le', nI_eq', bd_sm, nF_app, bF_app, bI_n0, nI_m1e, nI_m1e', nI_m1l, nI_m1l', nI_m1t, nI_m1t', if_true, if_false, hst1, nI_sub]
      exact cC_J32n h3 h20 h2b (by omega) (by omega)
    · refine Eq.trans ?_ (sS_J280n (sd := m1) (hr := hr) (a := a) (wy := wy) (st := st - 1) (wr := wr) (sp := sp + (1 + la)) (la := la) (nx := nx) (ct := ct) (nm := nm) (lk := lk) (dl := dl) (mn := mn) (tl := tl) (Ts := Ts) (Hs := Hs) (fb := fb) (len := len) (tp := tp) (th := th) (ta := ta) h1b h16 h3 h20 h21 h2b (by omega) (by omega))
      by_cases hm0 : mn = 0
      · subst hm0
        rw [if_pos rfl] at h15
        subst h15
        unfold p_X5_pass
        simp (disch := omega) only [↓Lm1, L0, L1, L2, L3, L4, L5, L7, L8, L9, L10, L12, L20, L21, L33, L40, L60, L80, L99, L108, nI_add, nI_mul, gd_nI, nI_cl, nI_lt', nI_le', nI_eq', bd_sm, nF_app, bF_app, bI_n0, nI_m1e, nI_m1e', nI_m1l, nI_m1l', nI_m1t, nI_m1t', if_true, if_false, nar_n0, nar_n1, upd_nF, upd_bF, hst1, nI_sub, Nat.le_refl]
      · have hq := (h23 (mn - 1) (by omega)).1
        have hq2 := h7 (tl (mn - 1))
        have hm1 : (mn ≤ 0) = False := eq_false (by omega)
        have hlt1 : mn - 1 < mn := by omega
        rw [if_neg hm0] at h15
        unfold p_X5_pass
        simp (disch := omega) only [↓Lm1, L0, L1, L2, L3, L4, L5, L7, L8, L9, L10, L12, L20, L21, L33, L40, L60, L80, L99, L108, nI_add, nI_mul, gd_nI, nI_cl, nI_lt', nI_le', nI_eq', bd_sm, nF_app, bF_app, bI_n0, nI_m1e, nI_m1e', nI_m1l, nI_m1l', nI_m1t, nI_m1t', if_true, if_false, nar_n0, nar_n1, upd_nF, upd_bF, hst1, hm1, nI_sub, sPr_1 hlt1, sPr_o hlt1]
        rw [h15]
        rw [show sp + 1 + th (tl (mn - 1)) = sp + (1 + th (tl (mn - 1))) by omega]
