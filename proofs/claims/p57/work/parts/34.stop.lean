/-! THE PURE PART: the lift stops -/
section
variable {hr a st wr sp la : Nat} {wy : Int32} {cl fb rd : Nat → Bool} {nx ct wm : Nat → Nat} {fl lim nr : Nat} {len tp th ta : Nat → Nat} {sd : Int32}
theorem cC_stop0 (ha : a < 12) (hz : ∀ f, 12 ≤ f → cl f = false) (hc : cl a = false) : p_X0_stopIfCalled (nI hr, nI a, wy, nI st, nI wr, nI sp, nI la, bF cl, nF nx, nF ct, bF fb, nF wm, bF rd) (nI fl, nI lim, nI nr, nF len, nF tp, nF th, nF ta) = some (m1, (nI hr, nI a, wy, nI st, nI wr, nI sp, nI la, bF cl, nF nx, nF ct, bF fb, nF wm, bF rd)) := by
  unfold p_X0_stopIfCalled
  rw [cC_has (by omega) hz, bd_sm, if_pos (bI_eq hc), Lm1]
theorem cC_stopE (ha : a < 12) (hz : ∀ f, 12 ≤ f → cl f = false) (hc : cl a = true) (hl : ∀ f, len f ≤ 9) (hx : ∀ f, nx f ≤ len f) (he : nx a = len a) : p_X0_stopIfCalled (nI hr, nI a, wy, nI st, nI wr, nI sp, nI la, bF cl, nF nx, nF ct, bF fb, nF wm, bF rd) (nI fl, nI lim, nI nr, nF len, nF tp, nF th, nF ta) = some (m1, nI hr, nI a, wy, nI st, nI wr, nI sp, nI la, bF (ud cl a false), nF nx, nF ct, bF fb, nF wm, bF rd) := by
  have h1 := hl a
  unfold p_X0_stopIfCalled
  rw [cC_has (by omega) hz, bd_sm, if_neg (bI_ne hc)]
  simp (disch := omega) only [↓Lm1, L0, L1, L2, L3, L4, L5, L7, L8, L9, L10, L12, L20, L21, L33, L40, L60, L80, L99, L108, nI_add, nI_mul, gd_nI, nI_cl, nI_lt', nI_le', nI_eq', bd_sm, nF_app, bF_app, bI_n0, nI_m1e, nI_m1e', nI_m1l, nI_m1l', nI_m1t, nI_m1t', if_true, if_false, nar_n0, nar_n1, upd_nF, upd_bF, he]
  rw [if_neg (by omega)]
theorem cC_stopC (ha : a < 12) (hz : ∀ f, 12 ≤ f → cl f = false) (hc : cl a = true) (hl : ∀ f, len f ≤ 9) (hlt : nx a < len a) (htp : ∀ i, tp i < 8) (hf : fb (tp (9 * a + nx a)) = true) : p_X0_stopIfCalled (nI hr, nI a, wy, nI st, nI wr, nI sp, nI la, bF cl, nF nx, nF ct, bF fb, nF wm, bF rd) (nI fl, nI lim, nI nr, nF len, nF tp, nF th, nF ta) = some (m1, nI hr, nI a, wy, nI st, nI wr, nI sp, nI la, bF (ud cl a false), nF (ud nx a (nx a + 1)), nF (ud ct a (ct a + 1)), bF fb, nF wm, bF rd) := by
  have h1 := hl a
  have h2 := htp (9 * a + nx a)
  unfold p_X0_stopIfCalled p_X1_topicAt
  rw [cC_has (by omega) hz, bd_sm, if_neg (bI_ne hc)]
  simp (disch := omega) only [↓Lm1, L0, L1, L2, L3, L4, L5, L7, L8, L9, L10, L12, L20, L21, L33, L40, L60, L80, L99, L108, nI_add, nI_mul, gd_nI, nI_cl, nI_lt', nI_le', nI_eq', bd_sm, nF_app, bF_app, bI_n0, nI_m1e, nI_m1e', nI_m1l, nI_m1l', nI_m1t, nI_m1t', if_true, if_false, nar_n0, nar_n1, upd_nF, upd_bF, Nat.mul_comm a 9, hf]
  rw [if_pos hlt, if_neg (by simp)]
theorem cC_stopP (ha : a < 12) (hz : ∀ f, 12 ≤ f → cl f = false) (hc : cl a = true) (hl : ∀ f, len f ≤ 9) (hlt : nx a < len a) (htp : ∀ i, tp i < 8) (hth : ∀ i, th i ≤ 9) (hta : ∀ r, ta r < 8) (hn : nr ≤ 8) (hw : ∀ r, wm r ≤ 99) (hs : sp < 90000000) (hf : fb (tp (9 * a + nx a)) = false) : p_X0_stopIfCalled (nI hr, nI a, wy, nI st, nI wr, nI sp, nI la, bF cl, nF nx, nF ct, bF fb, nF wm, bF rd) (nI fl, nI lim, nI nr, nF len, nF tp, nF th, nF ta) = some (nI (th (9 * a + nx a) + sp), nI hr, nI a, wy, nI st, nI wr, nI 0, nI (th (9 * a + nx a)), bF (ud cl a false), nF (ud nx a (nx a + 1)), nF ct, bF fb, nF (prG nr ta rd (tp (9 * a + nx a)) (th (9 * a + nx a) + sp) wm 0), bF rd) := by
  have h1 := hl a
  have h2 := htp (9 * a + nx a)
  have h3 := hth (9 * a + nx a)
  unfold p_X0_stopIfCalled p_X1_topicAt p_X1_thrillAt p_X0_print
  rw [cC_has (by omega) hz, bd_sm, if_neg (bI_ne hc)]
  simp (disch := omega) only [↓Lm1, L0, L1, L2, L3, L4, L5, L7, L8, L9, L10, L12, L20, L21, L33, L40, L60, L80, L99, L108, nI_add, nI_mul, gd_nI, nI_cl, nI_lt', nI_le', nI_eq', bd_sm, nF_app, bF_app, bI_n0, nI_m1e, nI_m1e', nI_m1l, nI_m1l', nI_m1t, nI_m1t', if_true, if_false, nar_n0, nar_n1, upd_nF, upd_bF, Nat.mul_comm a 9, hf]
  rw [if_pos hlt, cC_print_L hn h2 (by omega) hta nr 0 200 wm hw (by omega) (by omega), bd_sm]
end
