/-! THE PURE PART: an hour, both at once -/
section
variable {hr a st wr sp la : Nat} {wy : Int32} {cl fb rd : Nat → Bool} {nx ct wm : Nat → Nat} {fl lim nr : Nat} {len tp th ta : Nat → Nat} {mn : Nat} {tl : Nat → Nat} {Ts Hs : Nat → Int32}
theorem j_stop (h : iRx fl lim nr len tp th ta fb (hr + 1) a wy st wr sp la cl nx ct wm rd mn tl) (hh : hr < 1000000) (hc : cl a = true) : ∃ (r : Int32) (A' : tA) (B' : tB), bd (p_X0_stopIfCalled (nI hr, nI a, wy, nI st, nI wr, nI sp, nI la, bF cl, nF nx, nF ct, bF fb, nF wm, bF rd) (nI fl, nI lim, nI nr, nF len, nF tp, nF th, nF ta)) (fun v3 => p_X0_passHour_J32 v3.2 (nI fl, nI lim, nI nr, nF len, nF tp, nF th, nF ta) v3.1) = some (r, iC fb A') ∧ (∀ (kp : Nat → Int32) (sd tw : Int32) (nm : Nat) (lk dl : Nat → Nat), bd (p_X5_stop (mkN (nI hr) (nI a) wy (nI st) (nI wr) (nI sp) (mI cl 12) (mI rd 8) (nI mn) (nF nx) (nF ct) (nF wm), kp, sd, tw, nI fl, nI lim, mI fb 8, nF len, nF tp, nF th, nI nr, nF ta, nI nm, nF lk, nF dl, nF tl, Ts, Hs)) (fun v1 => p_X5_hourOn_L73 200 v1 (nI mn) (nI 0)) = some (iL (fl, lim, nr, len, tp, th, ta) fb A' B' kp (nI a) tw (nm, lk, dl))) ∧ iR (fl, lim, nr, len, tp, th, ta) fb A' B' ∧ A'.1 = hr + 1 ∧ pR r hr A'.2.1 A'.2.2.2.2.2.2.2.2.1 (mn, tl, Ts, Hs) B' ∧ sR cl A'.2.2.2.2.2.2.2.1 (nI a) := by
  have h0 := h
  have hmn := R_mn2 h
  obtain ⟨⟨h1, h1b⟩, ⟨h2, h2b⟩, h3, h4, h5, h6, h7, h8, h9, h10, h11, h12, h13, h14, h15, h16, h17, h18, h19, h20, h21, h22, h23⟩ := h
  have ha12 : a < 12 := by omega
  have hz12 : ∀ f, 12 ≤ f → cl f = false := fun f hf => h16 f (by omega)
  by_cases he : nx a = len a
  · refine ⟨m1, tlA lim hr a wy st wr sp la (ud cl a false) nx ct (coW nr wm 0) (coR nr wm rd 0), (mn, tl, Ts, Hs), ?_, fun kp sd tw nm lk dl => ?_, R_tail (R_cool (R_clr h0)), rfl, Or.inl ⟨rfl, rfl⟩, sR_at ha12 hc⟩
    · rw [cC_stopE ha12 hz12 hc h4 h17 he, bd_sm]
      exact cC_J32n h3 h20 h2b h12 (by omega)
    · rw [cL_stopE ha12 h4 h17 he, bd_sm]
      exact cL_L73n (M := (nm, lk, dl)) h3 h20 h21 h2b h12 (by omega)
  · have hlt : nx a < len a := by have := h17 a; omega
    cases hf : fb (tp (9 * a + nx a))
    · have hm := R_mn h0 hlt
      have ht9 := h7 (9 * a + nx a)
      have hx9 := h4 a
      refine ⟨nI (th (9 * a + nx a) + sp), tlA lim hr a wy st wr 0 (th (9 * a + nx a)) (ud cl a false) (ud nx a (nx a + 1)) ct (prG nr ta rd (tp (9 * a + nx a)) (th (9 * a + nx a) + sp) wm 0) rd, (mn + 1, ud tl mn (9 * a + nx a), upd Ts mn (nI (th (9 * a + nx a) + sp)), upd Hs mn (nI hr)), ?_, fun kp sd tw nm lk dl => ?_, R_tail (R_clr (R_print h0 hlt)), rfl, Or.inr ⟨th (9 * a + nx a) + sp, nx a, rfl, by omega, by omega, ha12, hm, ud_at _ _ _, rfl⟩, sR_at ha12 hc⟩
      · rw [cC_stopP ha12 hz12 hc h4 hlt h6 h7 h8 h3 h20 (by omega) hf, bd_sm]
        exact cC_J32p (by omega) h2b h12 (by omega)
      · rw [cL_stopP ha12 h4 hlt h6 h7 h8 h3 h20 (by omega) hm hf, bd_sm]
        exact cL_L73p (M := (nm, lk, dl)) h3 (by omega) (by omega) (by omega) h2b h12 (by omega)
    · refine ⟨m1, tlA lim hr a wy st wr sp la (ud cl a false) (ud nx a (nx a + 1)) (ud ct a (ct a + 1)) (coW nr wm 0) (coR nr wm rd 0), (mn, tl, Ts, Hs), ?_, fun kp sd tw nm lk dl => ?_, R_tail (R_cool (R_clr (R_cut h0 hlt))), rfl, Or.inl ⟨rfl, rfl⟩, sR_at ha12 hc⟩
      · rw [cC_stopC ha12 hz12 hc h4 hlt h6 hf, bd_sm]
        exact cC_J32n h3 h20 h2b h12 (by omega)
      · rw [cL_stopC ha12 h4 hlt h6 hf, bd_sm]
        exact cL_L73n (M := (nm, lk, dl)) h3 h20 h21 h2b h12 (by omega)
end
theorem j_hour {g : tG} {fb : Nat → Bool} {A : tA} {B : tB} (hR : iR g fb A B) (hh : A.1 < 1000000) : ∃ (r : Int32) (A' : tA) (B' : tB) (sd' : Int32), p_X0_passHour (iC fb A) (iH g) = some (r, iC fb A') ∧ (∀ (kp : Nat → Int32) (sd tw : Int32) (M : tM), p_X5_hourOn (iL g fb A B kp sd tw M) = some (iL g fb A' B' kp sd' tw M)) ∧ iR g fb A' B' ∧ A'.1 = A.1 + 1 ∧ pR r A.1 A'.2.1 A'.2.2.2.2.2.2.2.2.1 B B' ∧ sR A.2.2.2.2.2.2.2.1 A'.2.2.2.2.2.2.2.1 sd' := by
  obtain ⟨fl, lim, nr, len, tp, th, ta⟩ := g
  obtain ⟨hr, a, wy, st, wr, sp, la, cl, nx, ct, wm, rd⟩ := A
  obtain ⟨mn, tl, Ts, Hs⟩ := B
  have h : iRx fl lim nr len tp th ta fb hr a wy st wr sp la cl nx ct wm rd mn tl := hR
  have hh : hr < 1000000 := hh
  have h0 := h
  have hmn := R_mn2 h
  obtain ⟨⟨h1, h1b⟩, ⟨h2, h2b⟩, h3, h4, h5, h6, h7, h8, h9, h10, h11, h12, h13, h14, h15, h16, h17, h18, h19, h20, h21, h22, h23⟩ := h
  have ha12 : a < 12 := by omega
  have hz12 : ∀ f, 12 ≤ f → cl f = false := fun f hf => h16 f (by omega)
  have hcn := cnt_le 12 cl
  show ∃ (r : Int32) (A' : tA) (B' : tB) (sd' : Int32), p_X0_passHour (nI hr, nI a, wy, nI st, nI wr, nI sp, nI la, bF cl, nF nx, nF ct, bF fb, nF wm, bF rd) (nI fl, nI lim, nI nr, nF len, nF tp, nF th, nF ta) = some (r, iC fb A') ∧ (∀ (kp : Nat → Int32) (sd tw : Int32) (M : tM), p_X5_hourOn (iL (fl, lim, nr, len, tp, th, ta) fb (hr, a, wy, st, wr, sp, la, cl, nx, ct, wm, rd) (mn, tl, Ts, Hs) kp sd tw M) = some (iL (fl, lim, nr, len, tp, th, ta) fb A' B' kp sd' tw M)) ∧ iR (fl, lim, nr, len, tp, th, ta) fb A' B' ∧ A'.1 = hr + 1 ∧ pR r hr A'.2.1 A'.2.2.2.2.2.2.2.2.1 (mn, tl, Ts, Hs) B' ∧ sR cl A'.2.2.2.2.2.2.2.1 sd'
  by_cases hst : st = 0
  · subst hst
    -- the class until it rides, the model until it rides
    have kC : ∀ Z, (cnt cl 12 = 0 → p_X0_passHour_J32 (nI hr, nI a, wy, nI 0, nI wr, nI sp, nI la, bF cl, nF nx, nF ct, bF fb, nF wm, bF rd) (nI fl, nI lim, nI nr, nF len, nF tp, nF th, nF ta) m1 = Z) → (¬ cnt cl 12 = 0 → bd (p_X0_ride (nI hr, nI a, wy, nI 0, nI wr, nI sp, nI la, bF cl, nF nx, nF ct, bF fb, nF wm, bF rd) (nI fl, nI lim, nI nr, nF len, nF tp, nF th, nF ta)) (fun v2 => bd (p_X0_stopIfCalled v2 (nI fl, nI lim, nI nr, nF len, nF tp, nF th, nF ta)) (fun v3 => p_X0_passHour_J32 v3.2 (nI fl, nI lim, nI nr, nF len, nF tp, nF th, nF ta) v3.1)) = Z) → p_X0_passHour (nI hr, nI a, wy, nI 0, nI wr, nI sp, nI la, bF cl, nF nx, nF ct, bF fb, nF wm, bF rd) (nI fl, nI lim, nI nr, nF len, nF tp, nF th, nF ta) = Z := by
      intro Z k1 k2
      unfold p_X0_passHour
      rw [cC_called]
      simp (disch := omega) only [↓Lm1, L0, L1, L2, L3, L4, L5, L7, L8, L9, L10, L12, L20, L21, L33, L40, L60, L80, L99, L108, nI_add, nI_mul, gd_nI, nI_cl, nI_lt', nI_le', nI_eq', bd_sm, nF_app, bF_app, bI_n0, nI_m1e, nI_m1e', nI_m1l, nI_m1l', nI_m1t, nI_m1t', if_true, if_false, Nat.le_refl]
      by_cases hc : cnt cl 12 = 0
      · rw [if_pos (by omega)]; exact k1 hc
      · rw [if_neg (by omega)]; exact k2 hc
    have kL : ∀ (kp : Nat → Int32) (sd tw : Int32) (nm : Nat) (lk dl : Nat → Nat), p_X5_hourOn (iL (fl, lim, nr, len, tp, th, ta) fb (hr, a, wy, 0, wr, sp, la, cl, nx, ct, wm, rd) (mn, tl, Ts, Hs) kp sd tw (nm, lk, dl)) = bd (p_X5_ride (mkN (nI hr) (nI a) wy (nI 0) (nI wr) (nI sp) (mI cl 12) (mI rd 8) (nI mn) (nF nx) (nF ct) (nF wm), kp, m1, tw, nI fl, nI lim, mI fb 8, nF len, nF tp, nF th, nI nr, nF ta, nI nm, nF lk, nF dl, nF tl, Ts, Hs)) (fun v1 => p_X5_hourOn_L73 200 v1 (nI mn) (nI 0)) := by
      intro kp sd tw nm lk dl
      unfold p_X5_hourOn iL iN
      simp (disch := omega) only [↓Lm1, L0, L1, L2, L3, L4, L5, L7, L8, L9, L10, L12, L20, L21, L33, L40, L60, L80, L99, L108, nI_add, nI_mul, gd_nI, nI_cl, nI_lt', nI_le', nI_eq', bd_sm, nF_app, bF_app, bI_n0, nI_m1e, nI_m1e', nI_m1l, nI_m1l', nI_m1t, nI_m1t', if_true, if_false, mkN_0, mkN_1, mkN_2, mkN_3, mkN_4, mkN_5, mkN_6, mkN_7, mkN_8, mkN_n, mkN_c, mkN_w, upN_0, upN_1, upN_2, upN_3, upN_4, upN_5, upN_6, upN_7, upN_8, upN_n, upN_c, upN_w, has12, has8, mI_clr1, mI_set1, mI_flip1, nar_n0, nar_n1, upd_nF, upd_bF, Nat.le_refl]
    by_cases hc : cnt cl 12 = 0
    · refine ⟨m1, tlA lim hr a wy 0 wr sp la cl nx ct (coW nr wm 0) (coR nr wm rd 0), (mn, tl, Ts, Hs), m1, ?_, fun kp sd tw M => ?_, R_tail (R_cool (R_up h0)), rfl, Or.inl ⟨rfl, rfl⟩, sR_no cl⟩
      · exact kC _ (fun _ => cC_J32n h3 h20 h2b h12 (by omega)) (fun k => absurd hc k)
      · obtain ⟨nm, lk, dl⟩ := M
        rw [kL, cL_rideN hc, bd_sm]
        exact cL_L73n (M := (nm, lk, dl)) h3 h20 h21 h2b h12 (by omega)
    · by_cases hca : cl a = true
      · obtain ⟨r, A', B', e1, e2, e3, e4, e5, e6⟩ := j_stop (Ts := Ts) (Hs := Hs) (R_up h0) hh hca
        refine ⟨r, A', B', nI a, ?_, fun kp sd tw M => ?_, e3, e4, e5, e6⟩
        · refine kC _ (fun k => absurd k hc) (fun _ => ?_)
          rw [cC_ride_at ha12 hz12 hca, bd_sm]
          exact e1
        · obtain ⟨nm, lk, dl⟩ := M
          rw [kL, cL_rideA ha12 hca]
          exact e2 kp m1 tw nm lk dl
      · have hca : cl a = false := by cases hq : cl a <;> simp_all
        obtain ⟨a', m1e, m2e, m3e⟩ := go_move h10 h1b h16 h11
        have ha12' : a' < 12 := by omega
        have h00 := R_move h0 m2e m3e
        by_cases hcb : cl a' = true
        · obtain ⟨r, A', B', e1, e2, e3, e4, e5, e6⟩ := j_stop (Ts := Ts) (Hs := Hs) h00 hh hcb
          refine ⟨r, A', B', nI a', ?_, fun kp sd tw M => ?_, e3, e4, e5, e6⟩
          · refine kC _ (fun k => absurd k hc) (fun _ => ?_)
            rw [cC_ride ha12 hz12 h11 hca, bd_sm, m1e, nI_add]
            exact e1
          · obtain ⟨nm, lk, dl⟩ := M
            rw [kL, cL_ride h10 h1b h16 h11 hc hca, m1e, nI_add, cL_J78s ha12' hcb]
            exact e2 kp m1 tw nm lk dl
        · have hcb : cl a' = false := by cases hq : cl a' <;> simp_all
          refine ⟨m1, tlA lim hr a' (wyG cl a wy) 0 (wr + 1) sp la cl nx ct (coW nr wm 0) (coR nr wm rd 0), (mn, tl, Ts, Hs), m1, ?_, fun kp sd tw M => ?_, R_tail (R_cool h00), rfl, Or.inl ⟨rfl, rfl⟩, sR_no cl⟩
          · refine kC _ (fun k => absurd k hc) (fun _ => ?_)
            rw [cC_ride ha12 hz12 h11 hca, bd_sm, m1e, nI_add, cC_stop0 ha12' hz12 hcb, bd_sm]
            exact cC_J32n h3 h20 h2b h12 (by omega)
          · obtain ⟨nm, lk, dl⟩ := M
            rw [kL, cL_ride h10 h1b h16 h11 hc hca, m1e, nI_add, cL_J78n ha12' hcb, bd_sm]
            exact cL_L73n (M := (nm, lk, dl)) h3 h20 h21 h2b h12 (by omega)
  · have hst1 : (st ≤ 0) = False := eq_false (by omega)
    refine ⟨m1, tlA lim hr a wy (st - 1) wr (sp + (1 + la)) la cl nx ct (coW nr wm 0) (coR nr wm rd 0), (mn, tl, Ts, Hs), m1, ?_, fun kp sd tw M => ?_, R_tail (R_cool (R_stuck h0)), rfl, Or.inl ⟨rfl, rfl⟩, sR_no cl⟩
    · unfold p_X0_passHour p_X0_waitStuck
      simp (disch := omega) only [↓Lm1, L0, L1, L2, L3, L4, L5, L7, L8, L9, L10, L12, L20, L21, L33, L40, L60, L80, L99, L108, nI_add, nI_mul, gd_nI, nI_cl, nI_lt', nI_le', nI_eq', bd_sm, nF_app, bF_app, bI_n0, nI_m1e, nI_m1e', nI_m1l, nI_m1l', nI_m1t, nI_m1t', if_true, if_false, hst1, nI_sub]
      exact cC_J32n h3 h20 h2b (by omega) (by omega)
    · obtain ⟨nm, lk, dl⟩ := M
      refine Eq.trans ?_ (cL_L73n (fl := fl) (lim := lim) (nr := nr) (len := len) (tp := tp) (th := th) (ta := ta) (fb := fb) (hr := hr) (a := a) (wy := wy) (st := st - 1) (wr := wr) (sp := sp + (1 + la)) (la := la) (cl := cl) (nx := nx) (ct := ct) (wm := wm) (rd := rd) (mn := mn) (tl := tl) (Ts := Ts) (Hs := Hs) (kp := kp) (sd := m1) (tw := tw) (M := (nm, lk, dl)) h3 h20 h21 h2b (by omega) (by omega))
      by_cases hm0 : mn = 0
      · subst hm0
        rw [if_pos rfl] at h15
        subst h15
        unfold p_X5_hourOn p_X5_hourOn_J61 iL iN
        simp (disch := omega) only [↓Lm1, L0, L1, L2, L3, L4, L5, L7, L8, L9, L10, L12, L20, L21, L33, L40, L60, L80, L99, L108, nI_add, nI_mul, gd_nI, nI_cl, nI_lt', nI_le', nI_eq', bd_sm, nF_app, bF_app, bI_n0, nI_m1e, nI_m1e', nI_m1l, nI_m1l', nI_m1t, nI_m1t', if_true, if_false, mkN_0, mkN_1, mkN_2, mkN_3, mkN_4, mkN_5, mkN_6, mkN_7, mkN_8, mkN_n, mkN_c, mkN_w, upN_0, upN_1, upN_2, upN_3, upN_4, upN_5, upN_6, upN_7, upN_8, upN_n, upN_c, upN_w, has12, has8, mI_clr1, mI_set1, mI_flip1, nar_n0, nar_n1, upd_nF, upd_bF, hst1, nI_sub]
      · have hq := (h23 (mn - 1) (by omega)).1
        have hq2 := h7 (tl (mn - 1))
        have hm1 : (mn = 0) = False := eq_false hm0
        rw [if_neg hm0] at h15
        unfold p_X5_hourOn p_X5_hourOn_J61 iL iN
        simp (disch := omega) only [↓Lm1, L0, L1, L2, L3, L4, L5, L7, L8, L9, L10, L12, L20, L21, L33, L40, L60, L80, L99, L108, nI_add, nI_mul, gd_nI, nI_cl, nI_lt', nI_le', nI_eq', bd_sm, nF_app, bF_app, bI_n0, nI_m1e, nI_m1e', nI_m1l, nI_m1l', nI_m1t, nI_m1t', if_true, if_false, mkN_0, mkN_1, mkN_2, mkN_3, mkN_4, mkN_5, mkN_6, mkN_7, mkN_8, mkN_n, mkN_c, mkN_w, upN_0, upN_1, upN_2, upN_3, upN_4, upN_5, upN_6, upN_7, upN_8, upN_n, upN_c, upN_w, has12, has8, mI_clr1, mI_set1, mI_flip1, nar_n0, nar_n1, upd_nF, upd_bF, hst1, hm1, nI_sub]
        rw [h15]
