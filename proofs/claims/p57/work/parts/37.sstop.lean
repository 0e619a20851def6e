/-! THE PURE PART: the law's own readers and stops -/
theorem bI_n2 (b : Bool) : (bI b = nI 0) = (b = false) := bI_n0 b
section
variable {hr a st wr sp la : Nat} {wy : Int32} {cl fb rd : Nat → Bool} {nx ct wm : Nat → Nat} {fl lim nr : Nat} {len tp th ta : Nat → Nat} {sd : Int32} {nm mn : Nat} {lk dl tl Ts Hs : Nat → Nat}
theorem sS_cool_L (hn : nr ≤ 8) : ∀ n i fuel wm rd, (∀ r, wm r ≤ 99) → (∀ r, rd r = false → wm r = 0) → i + n = nr → n < fuel → p_X5_pass_L300 fuel (nI hr, nI a, wy, nI st, nI wr, nI lim, nI sp, (fl, bF cl), bF fb, (fl, sCh len nx ct tp th), (nr, sRd nr ta wm rd), (nm, sMi nm lk dl), (mn, sPr mn tl Ts Hs tp th), sd) (nI nr) (nI i) = p_X5_pass_J351 (nI hr, nI a, wy, nI st, nI wr, nI lim, nI sp, (fl, bF cl), bF fb, (fl, sCh len nx ct tp th), (nr, sRd nr ta (coW nr wm i) (coR nr wm rd i)), (nm, sMi nm lk dl), (mn, sPr mn tl Ts Hs tp th), sd) := by
  intro n
  induction n with
  | zero =>
    intro i fuel wm rd hw hz hi hf
    obtain ⟨f, rfl⟩ : ∃ f, fuel = f + 1 := ⟨fuel - 1, by omega⟩
    rw [p_X5_pass_L300]
    simp (disch := omega) only [↓Lm1, L0, L1, L2, L3, L4, L5, L7, L8, L9, L10, L12, L20, L21, L33, L40, L60, L80, L99, L108, nI_add, nI_mul, gd_nI, nI_cl, nI_lt', nI_le', nI_eq', bd_sm, nF_app, bF_app, bI_n0, nI_m1e, nI_m1e', nI_m1l, nI_m1l', nI_m1t, nI_m1t', if_true, if_false]
    rw [if_pos (by omega), coW_end (by omega), coR_end (by omega)]
  | succ n ih =>
    intro i fuel wm rd hw hz hi hf
    obtain ⟨f, rfl⟩ : ∃ f, fuel = f + 1 := ⟨fuel - 1, by omega⟩
    have hw1 := hw i
    have hir : i < nr := by omega
    rw [p_X5_pass_L300]
    simp (disch := omega) only [↓Lm1, L0, L1, L2, L3, L4, L5, L7, L8, L9, L10, L12, L20, L21, L33, L40, L60, L80, L99, L108, nI_add, nI_mul, gd_nI, nI_cl, nI_lt', nI_le', nI_eq', bd_sm, nF_app, bF_app, bI_n0, nI_m1e, nI_m1e', nI_m1l, nI_m1l', nI_m1t, nI_m1t', if_true, if_false, sRd_1 hir, sRd_r hir, sRd_w hir]
    rw [if_neg (by omega)]
    cases hc : rd i
    · have hz1 := hz i hc
      rw [if_pos rfl, ih (i + 1) f wm rd hw hz (by omega) (by omega), coW_z hz1, coR_s hc]
    · rw [if_neg (by simp)]
      by_cases h0 : wm i = 0
      · have hz2 : ∀ r, ud rd i false r = false → wm r = 0 := fun r => by
          by_cases h : r = i
          · subst h; exact fun _ => h0
          · rw [ud_ne _ _ h]; exact hz r
        rw [if_pos (by omega), ← bI_f0, sRd_u2 hir, ih (i + 1) f wm _ hw hz2 (by omega) (by omega), coW_z h0, coR_z hir h0]
      · have hw2 : ∀ r : Nat, ud wm i (wm i - 1) r ≤ 99 := fun r => by
          by_cases h : r = i
          · subst h; rw [ud_at]; omega
          · rw [ud_ne _ _ h]; exact hw r
        have hz2 : ∀ r, rd r = false → ud wm i (wm i - 1) r = 0 := fun r hr => by
          by_cases h : r = i
          · subst h; rw [hc] at hr; cases hr
          · rw [ud_ne _ _ h]; exact hz r hr
        rw [if_neg (by omega), nI_sub (by omega), sRd_u1 hir, ih (i + 1) f _ rd hw2 hz2 (by omega) (by omega), ← coW_p hir, ← coR_p h0]
/-- an hour's end where nothing was printed -/
theorem sS_J280n (hfl : fl ≤ 12) (hzc : ∀ f, fl ≤ f → cl f = false) (hn : nr ≤ 8) (hw : ∀ r, wm r ≤ 99) (hz : ∀ r, rd r = false → wm r = 0) (hlim : lim ≤ 99) (hst : st ≤ 25) (hwr : wr < 2000000) : p_X5_pass_J280 (nI hr, nI a, wy, nI st, nI wr, nI lim, nI sp, (fl, bF cl), bF fb, (fl, sCh len nx ct tp th), (nr, sRd nr ta wm rd), (nm, sMi nm lk dl), (mn, sPr mn tl Ts Hs tp th), sd) (nI mn) = some (iS (fl, lim, nr, len, tp, th, ta) fb (tlA lim hr a wy st wr sp la cl nx ct (coW nr wm 0) (coR nr wm rd 0)) (mn, tl, Ts, Hs) (nm, lk, dl) sd) := by
  unfold p_X5_pass_J280
  rw [if_pos rfl, L0, sS_cool_L hn nr 0 200 wm rd hw hz (by omega) (by omega), sS_tail hfl hzc hlim hst hwr]
/-- .. and where something was -/
theorem sS_J280p {b : Nat} (hfl : fl ≤ 12) (hzc : ∀ f, fl ≤ f → cl f = false) (hm : mn < 1000) (hb : b < 1000) (hne : mn ≠ b) (hlim : lim ≤ 99) (hst : st ≤ 25) (hwr : wr < 2000000) : p_X5_pass_J280 (nI hr, nI a, wy, nI st, nI wr, nI lim, nI sp, (fl, bF cl), bF fb, (fl, sCh len nx ct tp th), (nr, sRd nr ta wm rd), (nm, sMi nm lk dl), (mn, sPr mn tl Ts Hs tp th), sd) (nI b) = some (iS (fl, lim, nr, len, tp, th, ta) fb (tlA lim hr a wy st wr sp la cl nx ct wm rd) (mn, tl, Ts, Hs) (nm, lk, dl) sd) := by
  unfold p_X5_pass_J280
  rw [if_neg (mt (nI_eq (by omega) (by omega)).mp hne), sS_tail hfl hzc hlim hst hwr]
theorem sS_print_L {t x : Nat} (hn : nr ≤ 8) (ht : t < 8) (hx : x < 100000000) (hta : ∀ r, ta r < 8) : ∀ n i fuel wm, (∀ r, wm r ≤ 99) → i + n = nr → n < fuel → p_X5_stop_L159 fuel (nI hr, nI a, wy, nI st, nI wr, nI lim, nI sp, (fl, bF cl), bF fb, (fl, sCh len nx ct tp th), (nr, sRd nr ta wm rd), (nm, sMi nm lk dl), (mn, sPr mn tl Ts Hs tp th), sd) (nI t) (nI x) (nI nr) (nI i) = some (nI hr, nI a, wy, nI st, nI wr, nI lim, nI sp, (fl, bF cl), bF fb, (fl, sCh len nx ct tp th), (nr, sRd nr ta (prG nr ta rd t x wm i) rd), (nm, sMi nm lk dl), (mn, sPr mn tl Ts Hs tp th), sd) := by
  intro n
  induction n with
  | zero =>
    intro i fuel wm hw hi hf
    obtain ⟨f, rfl⟩ : ∃ f, fuel = f + 1 := ⟨fuel - 1, by omega⟩
    rw [p_X5_stop_L159]
    simp (disch := omega) only [↓Lm1, L0, L1, L2, L3, L4, L5, L7, L8, L9, L10, L12, L20, L21, L33, L40, L60, L80, L99, L108, nI_add, nI_mul, gd_nI, nI_cl, nI_lt', nI_le', nI_eq', bd_sm, nF_app, bF_app, bI_n0, nI_m1e, nI_m1e', nI_m1l, nI_m1l', nI_m1t, nI_m1t', if_true, if_false]
    rw [if_pos (by omega), prG_end (by omega)]
  | succ n ih =>
    intro i fuel wm hw hi hf
    obtain ⟨f, rfl⟩ : ∃ f, fuel = f + 1 := ⟨fuel - 1, by omega⟩
    have hta1 := hta i
    have hw1 := hw i
    have hir : i < nr := by omega
    have hw2 : ∀ v r : Nat, ud wm i (m99 v) r ≤ 99 := fun v r => by
      by_cases h : r = i
      · subst h; rw [ud_at]; exact m99_le v
      · rw [ud_ne _ _ h]; exact hw r
    -- one reader
    have one : ∀ y : Nat, y < 200000000 → p_X5_stop_J205 (p_X5_stop_L159 f) (nI hr, nI a, wy, nI st, nI wr, nI lim, nI sp, (fl, bF cl), bF fb, (fl, sCh len nx ct tp th), (nr, sRd nr ta wm rd), (nm, sMi nm lk dl), (mn, sPr mn tl Ts Hs tp th), sd) i i (nI t) (nI x) (nI nr) (nI i) (nI y) (nI (wm i)) (nI 1) = p_X5_stop_L159 f (nI hr, nI a, wy, nI st, nI wr, nI lim, nI sp, (fl, bF cl), bF fb, (fl, sCh len nx ct tp th), (nr, sRd nr ta (ud wm i (m99 (wm i + y))) rd), (nm, sMi nm lk dl), (mn, sPr mn tl Ts Hs tp th), sd) (nI t) (nI x) (nI nr) (nI (i + 1)) := by
      intro y hy
      unfold p_X5_stop_J205
      simp (disch := omega) only [↓Lm1, L0, L1, L2, L3, L4, L5, L7, L8, L9, L10, L12, L20, L21, L33, L40, L60, L80, L99, L108, nI_add, nI_mul, gd_nI, nI_cl, nI_lt', nI_le', nI_eq', bd_sm, nF_app, bF_app, bI_n0, nI_m1e, nI_m1e', nI_m1l, nI_m1l', nI_m1t, nI_m1t', if_true, if_false, gN_nI, sRd_1 hir, sRd_u1 hir, sRd_w hir, ud_at]
      by_cases h9 : wm i + y ≤ 99
      · rw [if_pos h9, show m99 (wm i + y) = wm i + y by unfold m99; split <;> omega]
      · rw [if_neg h9, show m99 (wm i + y) = 99 by unfold m99; split <;> omega]
        have e : ud (ud wm i (wm i + y)) i 99 = ud wm i 99 := by
          funext j
          by_cases e : j = i
          · subst e; rw [ud_at, ud_at]
          · rw [ud_ne _ _ e, ud_ne _ _ e, ud_ne _ _ e]
        rw [e]
    rw [p_X5_stop_L159]
    simp (disch := omega) only [↓Lm1, L0, L1, L2, L3, L4, L5, L7, L8, L9, L10, L12, L20, L21, L33, L40, L60, L80, L99, L108, nI_add, nI_mul, gd_nI, nI_cl, nI_lt', nI_le', nI_eq', bd_sm, nF_app, bF_app, bI_n0, nI_m1e, nI_m1e', nI_m1l, nI_m1l', nI_m1t, nI_m1t', if_true, if_false, sRd_1 hir, sRd_r hir, sRd_w hir, sRd_t hir, nI_div]
    rw [if_neg (by omega)]
    cases hc : rd i
    · rw [if_pos rfl, ih (i + 1) f wm hw (by omega) (by omega), prG_skip hc]
    · rw [if_neg (by simp)]
      by_cases he : ta i = t
      · rw [if_pos he, one x (by omega), ih (i + 1) f _ (hw2 _) (by omega) (by omega), prG_put hir hc (by rw [if_pos he])]
      · rw [if_neg he, one (x / 3) (by omega), ih (i + 1) f _ (hw2 _) (by omega) (by omega), prG_put hir hc (by rw [if_neg he])]
theorem sS_stopE (ha : a < fl) (hfl : fl ≤ 12) (hl : ∀ f, len f ≤ 9) (he : nx a = len a) : p_X5_stop (nI hr, nI a, wy, nI st, nI wr, nI lim, nI sp, (fl, bF cl), bF fb, (fl, sCh len nx ct tp th), (nr, sRd nr ta wm rd), (nm, sMi nm lk dl), (mn, sPr mn tl Ts Hs tp th), sd) = some (nI hr, nI a, wy, nI st, nI wr, nI lim, nI sp, (fl, bF (ud cl a false)), bF fb, (fl, sCh len nx ct tp th), (nr, sRd nr ta wm rd), (nm, sMi nm lk dl), (mn, sPr mn tl Ts Hs tp th), nI a) := by
  have h1 := hl a
  unfold p_X5_stop
  simp (disch := omega) only [↓Lm1, L0, L1, L2, L3, L4, L5, L7, L8, L9, L10, L12, L20, L21, L33, L40, L60, L80, L99, L108, nI_add, nI_mul, gd_nI, nI_cl, nI_lt', nI_le', nI_eq', bd_sm, nF_app, bF_app, bI_n0, nI_m1e, nI_m1e', nI_m1l, nI_m1l', nI_m1t, nI_m1t', if_true, if_false, nar_n0, nar_n1, upd_nF, upd_bF, sCh_1, sCh_0, he]
theorem sS_stopC (ha : a < fl) (hfl : fl ≤ 12) (hl : ∀ f, len f ≤ 9) (hlt : nx a < len a) (htp : ∀ i, tp i < 8) (hf : fb (tp (9 * a + nx a)) = true) : p_X5_stop (nI hr, nI a, wy, nI st, nI wr, nI lim, nI sp, (fl, bF cl), bF fb, (fl, sCh len nx ct tp th), (nr, sRd nr ta wm rd), (nm, sMi nm lk dl), (mn, sPr mn tl Ts Hs tp th), sd) = some (nI hr, nI a, wy, nI st, nI wr, nI lim, nI sp, (fl, bF (ud cl a false)), bF fb, (fl, sCh len (ud nx a (nx a + 1)) (ud ct a (ct a + 1)) tp th), (nr, sRd nr ta wm rd), (nm, sMi nm lk dl), (mn, sPr mn tl Ts Hs tp th), nI a) := by
  have h1 := hl a
  have h2 := htp (9 * a + nx a)
  have hne : ¬ 2 + 2 * nx a = 2 + 2 * len a := by omega
  unfold p_X5_stop
  simp (disch := omega) only [↓Lm1, L0, L1, L2, L3, L4, L5, L7, L8, L9, L10, L12, L20, L21, L33, L40, L60, L80, L99, L108, nI_add, nI_mul, gd_nI, nI_cl, nI_lt', nI_le', nI_eq', bd_sm, nF_app, bF_app, bI_n0, nI_m1e, nI_m1e', nI_m1l, nI_m1l', nI_m1t, nI_m1t', if_true, if_false, nar_n0, nar_n1, upd_nF, upd_bF, sCh_1, sCh_0, sCh_u0, sCh_t hlt, sCh_c, sCh_u1, hne, hf]
  simp
theorem sS_stopP (ha : a < fl) (hfl : fl ≤ 12) (hl : ∀ f, len f ≤ 9) (hlt : nx a < len a) (htp : ∀ i, tp i < 8) (hth : ∀ i, th i ≤ 9) (hta : ∀ r, ta r < 8) (hn : nr ≤ 8) (hw : ∀ r, wm r ≤ 99) (hs : sp < 90000000) (hm : mn < 108) (hf : fb (tp (9 * a + nx a)) = false) : p_X5_stop (nI hr, nI a, wy, nI st, nI wr, nI lim, nI sp, (fl, bF cl), bF fb, (fl, sCh len nx ct tp th), (nr, sRd nr ta wm rd), (nm, sMi nm lk dl), (mn, sPr mn tl Ts Hs tp th), sd) = some (nI hr, nI a, wy, nI st, nI wr, nI lim, nI 0, (fl, bF (ud cl a false)), bF fb, (fl, sCh len (ud nx a (nx a + 1)) ct tp th), (nr, sRd nr ta (prG nr ta rd (tp (9 * a + nx a)) (th (9 * a + nx a) + sp) wm 0) rd), (nm, sMi nm lk dl), (mn + 1, sPr (mn + 1) (ud tl mn (9 * a + nx a)) (ud Ts mn (th (9 * a + nx a) + sp)) (ud Hs mn hr) tp th), nI a) := by
  have h1 := hl a
  have h2 := htp (9 * a + nx a)
  have h3 := hth (9 * a + nx a)
  have hne : ¬ 2 + 2 * nx a = 2 + 2 * len a := by omega
  have q1 : nI a = nI ((9 * a + nx a) / 9) := by rw [show (9 * a + nx a) / 9 = a by omega]
  have q2 : nI (nx a) = nI ((9 * a + nx a) % 9) := by rw [show (9 * a + nx a) % 9 = nx a by omega]
  have e := sPr_push (mn := mn) (tl := tl) (Ts := Ts) (Hs := Hs) (tp := tp) (th := th) (q := 9 * a + nx a) (x := th (9 * a + nx a) + sp) (y := hr)
  rw [← q1, ← q2] at e
  unfold p_X5_stop
  simp (disch := omega) only [↓Lm1, L0, L1, L2, L3, L4, L5, L7, L8, L9, L10, L12, L20, L21, L33, L40, L60, L80, L99, L108, nI_add, nI_mul, gd_nI, nI_cl, nI_lt', nI_le', nI_eq', bd_sm, nF_app, bF_app, bI_n0, nI_m1e, nI_m1e', nI_m1l, nI_m1l', nI_m1t, nI_m1t', if_true, if_false, nar_n0, nar_n1, upd_nF, upd_bF, sCh_1, sCh_0, sCh_u0, sCh_t hlt, sCh_h hlt, hne, hf, gN_nI, e]
  rw [sS_print_L hn h2 (by omega) hta nr 0 200 wm hw (by omega) (by omega)]
end
