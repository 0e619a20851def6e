/-! THE PURE PART: the acts -/
theorem nI_le0 {n : Nat} (h : n < 2147483648) : (nI n ≤ 0) = (n = 0) := by rw [L0, nI_le' h (by omega)]; exact propext ⟨fun h => by omega, fun h => by omega⟩
theorem nI_eq0 {n : Nat} (h : n < 2147483648) : (nI n = 0) = (n = 0) := by rw [L0, nI_eq' h (by omega)]
theorem bel_2 (v : Int32) : ∃ b : Nat, b < 2 ∧ p_L_below v 2 = some (nI b) := below_ok v (by omega) (by omega)
theorem bel_3 (v : Int32) : ∃ b : Nat, b < 3 ∧ p_L_below v 3 = some (nI b) := below_ok v (by omega) (by omega)
theorem bel_5 (v : Int32) : ∃ b : Nat, b < 5 ∧ p_L_below v 5 = some (nI b) := below_ok v (by omega) (by omega)
theorem bel_7 (v : Int32) : ∃ b : Nat, b < 7 ∧ p_L_below v 7 = some (nI b) := below_ok v (by omega) (by omega)
theorem bel_8 (v : Int32) : ∃ b : Nat, b < 8 ∧ p_L_below v 8 = some (nI b) := below_ok v (by omega) (by omega)
theorem bel_9 (v : Int32) : ∃ b : Nat, b < 9 ∧ p_L_below v 9 = some (nI b) := below_ok v (by omega) (by omega)
theorem bel_10 (v : Int32) : ∃ b : Nat, b < 10 ∧ p_L_below v 10 = some (nI b) := below_ok v (by omega) (by omega)
theorem bel_11 (v : Int32) : ∃ b : Nat, b < 11 ∧ p_L_below v 11 = some (nI b) := below_ok v (by omega) (by omega)
theorem bel_12 (v : Int32) : ∃ b : Nat, b < 12 ∧ p_L_below v 12 = some (nI b) := below_ok v (by omega) (by omega)
theorem bel_20 (v : Int32) : ∃ b : Nat, b < 20 ∧ p_L_below v 20 = some (nI b) := below_ok v (by omega) (by omega)
theorem bel_24 (v : Int32) : ∃ b : Nat, b < 24 ∧ p_L_below v 24 = some (nI b) := below_ok v (by omega) (by omega)
theorem bel_60 (v : Int32) : ∃ b : Nat, b < 60 ∧ p_L_below v 60 = some (nI b) := below_ok v (by omega) (by omega)
theorem bel_99 (v : Int32) : ∃ b : Nat, b < 99 ∧ p_L_below v 99 = some (nI b) := below_ok v (by omega) (by omega)
/-- an act that went well -/
def aOK (h : Nat) (X : Option (Int32 × tX1 × tX0 × tX2 × tX3 × tX5)) : Prop := ∃ (g : tG) (fb : Nat → Bool) (A : tA) (B : tB) (M : tM) (sd : Int32), X = some ((1 : Int32), iH g, iC fb A, iI B, iM M, iS g fb A B M sd) ∧ iR g fb A B M ∧ A.1 ≤ h + 60
section
variable {hr a st wr sp la : Nat} {wy : Int32} {cl fb rd : Nat → Bool} {nx ct wm : Nat → Nat} {fl lim nr : Nat} {len tp th ta : Nat → Nat} {sd : Int32} {nm mn : Nat} {lk dl tl Ts Hs : Nat → Nat} {uT : tX0} {k t w x : Nat} {v : Int32}
theorem a_same (h : iRx fl lim nr len tp th ta fb hr a wy st wr sp la cl nx ct wm rd mn tl) (hy : iRy th nx hr mn tl Ts Hs) (hm : oM4 (nm, lk, dl)) : aOK hr (some ((1 : Int32), (nI fl, nI lim, nI nr, nF len, nF tp, nF th, nF ta), (nI hr, nI a, wy, nI st, nI wr, nI sp, nI la, bF cl, nF nx, nF ct, bF fb, nF wm, bF rd), (nI mn, (fun i => nI (tl i / 9)), (fun i => nI (tl i % 9)), nF Ts, nF Hs), (nI nm, nF lk, nF dl), (nI hr, nI a, wy, nI st, nI wr, nI lim, nI sp, (fl, bF cl), bF fb, (fl, sCh len nx ct tp th), (nr, sRd nr ta wm rd), (nm, sMi nm lk dl), (mn, sPr mn tl Ts Hs tp th), sd))) := ⟨(fl, lim, nr, len, tp, th, ta), fb, (hr, a, wy, st, wr, sp, la, cl, nx, ct, wm, rd), (mn, tl, Ts, Hs), (nm, lk, dl), sd, rfl, ⟨h, hy, hm⟩, Nat.le_add_right hr 60⟩
/-- begin -/
theorem R_begin (h : iRx fl lim nr len tp th ta fb hr a wy st wr sp la cl nx ct wm rd mn tl) (k1 : 2 ≤ k) (k2 : k ≤ 12) : iRx k lim nr zN tp th ta fb hr 0 (nI 0) 0 0 0 0 zB zN zN wm rd 0 tl := by
  obtain ⟨⟨h1, h1b⟩, ⟨h2, h2b⟩, h3, h4, h5, h6, h7, h8, h9, h10, h11, h12, h13, h14, h15, h16, h17, h18, h19, h20, h21, h22, h23⟩ := h
  exact ⟨⟨k1, k2⟩, ⟨h2, h2b⟩, h3, fun f => Nat.zero_le _, fun f _ => rfl, h6, h7, h8, h9, by omega, Or.inl rfl, by omega, Nat.zero_le _, Nat.zero_le _, rfl, fun f _ => rfl, fun f => Nat.le_refl _, fun f => Nat.le_refl _, rfl, h20, h21, h22, fun i hi => absurd hi (Nat.not_lt_zero i)⟩
theorem s_begin (k2 : k ≤ 12) : p_X5_begin (nI hr, nI a, wy, nI st, nI wr, nI lim, nI sp, (fl, bF cl), bF fb, (fl, sCh len nx ct tp th), (nr, sRd nr ta wm rd), (nm, sMi nm lk dl), (mn, sPr mn tl Ts Hs tp th), sd) (nI k) = some (iS (k, lim, nr, zN, tp, th, ta) fb (hr, 0, nI 0, 0, 0, 0, 0, zB, zN, zN, wm, rd) (0, tl, Ts, Hs) (nm, lk, dl) sd) := by
  unfold p_X5_begin iS
  rw [gL_in ⟨by rw [L0, nI_lt' (by omega) (by omega)]; omega, by rw [nI_cl (by omega)]; exact k2⟩, nI_cl (by omega)]
  rw [sCh_0z, sPr_0z]
  rfl
theorem c_begin (h : iRx fl lim nr len tp th ta fb hr a wy st wr sp la cl nx ct wm rd mn tl) (k1 : 2 ≤ k) (k2 : k ≤ 12) : p_X4_begin (nI fl, nI lim, nI nr, nF len, nF tp, nF th, nF ta) (nI hr, nI a, wy, nI st, nI wr, nI sp, nI la, bF cl, nF nx, nF ct, bF fb, nF wm, bF rd) uT (nI mn, (fun i => nI (tl i / 9)), (fun i => nI (tl i % 9)), nF Ts, nF Hs) (nI nm, nF lk, nF dl) (nI k) = some (nI (cnt rd nr), iH (k, lim, nr, zN, tp, th, ta), iC fb (hr, 0, nI 0, 0, 0, 0, 0, zB, zN, zN, wm, rd), iI (0, tl, Ts, Hs)) := by
  obtain ⟨⟨h1, h1b⟩, ⟨h2, h2b⟩, h3, h4, h5, h6, h7, h8, h9, h10, h11, h12, h13, h14, h15, h16, h17, h18, h19, h20, h21, h22, h23⟩ := h
  have z1 : mixF (nF zN) (nF len) 12 = nF zN := mixF_e (fun j hj => by show nI (len j) = 0; rw [h5 j (by omega)]; rfl) (fun j hj => rfl)
  have z2 : mixF (bF zB) (bF cl) 12 = bF zB := mixF_e (fun j hj => by show bI (cl j) = 0; rw [h16 j (by omega)]; rfl) (fun j hj => rfl)
  have z3 : mixF (nF zN) (nF nx) 12 = nF zN := mixF_e (fun j hj => by show nI (nx j) = 0; rw [show nx j = 0 by have := h17 j; have := h5 j (by omega); omega]; rfl) (fun j hj => rfl)
  have z4 : mixF (nF zN) (nF ct) 12 = nF zN := mixF_e (fun j hj => by show nI (ct j) = 0; rw [show ct j = 0 by have := h18 j; have := h17 j; have := h5 j (by omega); omega]; rfl) (fun j hj => rfl)
  have c1 : p_X1_clear (nI fl, nI lim, nI nr, nF len, nF tp, nF th, nF ta) (nI k) = some (iH (k, lim, nr, zN, tp, th, ta)) := by
    have c := cC_clear (h0 := nI k) (h1 := nI lim) (h2 := nI nr) (x := nF len) (h4 := nF tp) (h5 := nF th) (h6 := nF ta) 12 0 200 (by omega) (by omega)
    rw [mixF_0, z1] at c
    unfold p_X1_clear
    rw [L0]
    exact c
  have c2 : p_X0_startOver (nI hr, nI a, wy, nI st, nI wr, nI sp, nI la, bF cl, nF nx, nF ct, bF fb, nF wm, bF rd) (iH (k, lim, nr, zN, tp, th, ta)) = some (iC fb (hr, 0, nI 0, 0, 0, 0, 0, zB, zN, zN, wm, rd)) := by
    have c := cC_over (hr := nI hr) (aa := nI 0) (wy := nI 0) (st := nI 0) (wr := nI 0) (sp := nI 0) (la := nI 0) (x := bF cl) (x2 := nF nx) (x3 := nF ct) (q4 := bF fb) (q5 := nF wm) (q6 := bF rd) (uH := iH (k, lim, nr, zN, tp, th, ta)) 12 0 200 (by omega) (by omega)
    rw [mixF_0, mixF_0, mixF_0, z2, z3, z4] at c
    unfold p_X0_startOver
    rw [L0]
    exact c
  have c3 : p_X0_countSubscribers (iC fb (hr, 0, nI 0, 0, 0, 0, 0, zB, zN, zN, wm, rd)) (iH (k, lim, nr, zN, tp, th, ta)) = some (nI (cnt rd nr)) := cC_subs h3
  unfold p_X4_begin
  rw [L2, L12, if_neg (mt (nI_ltI (by omega) (by omega)).mp (by omega)), if_pos ((nI_leI (by omega) (by omega)).mpr k2), c1, bd_sm, c2, bd_sm, c3, bd_sm, L0]
  rfl
theorem a_begin (h : iRx fl lim nr len tp th ta fb hr a wy st wr sp la cl nx ct wm rd mn tl) (hy : iRy th nx hr mn tl Ts Hs) (hm : oM4 (nm, lk, dl)) : aOK hr (p_L_act_J120 (nI fl, nI lim, nI nr, nF len, nF tp, nF th, nF ta) (nI hr, nI a, wy, nI st, nI wr, nI sp, nI la, bF cl, nF nx, nF ct, bF fb, nF wm, bF rd) uT (nI mn, (fun i => nI (tl i / 9)), (fun i => nI (tl i % 9)), nF Ts, nF Hs) (nI nm, nF lk, nF dl) (nI hr, nI a, wy, nI st, nI wr, nI lim, nI sp, (fl, bF cl), bF fb, (fl, sCh len nx ct tp th), (nr, sRd nr ta wm rd), (nm, sMi nm lk dl), (mn, sPr mn tl Ts Hs tp th), sd) v) := by
  obtain ⟨b, hb, e⟩ := bel_3 v
  obtain ⟨c, hc, e2⟩ := bel_11 (v >>> ((2 : Int32) &&& 31))
  have hn : nr ≤ 8 := h.2.2.1
  unfold p_L_act_J120
  rw [e, bd_sm]
  by_cases h0 : nI b ≤ 0
  · rw [if_pos h0, e2, bd_sm, L2, nI_add, s_begin (by omega), bd_sm, bd_sm, nI_add, c_begin h (by omega) (by omega), bd_sm]
    rw [show p_X5_subscribers (iS (2 + c, lim, nr, zN, tp, th, ta) fb (hr, 0, nI 0, 0, 0, 0, 0, zB, zN, zN, wm, rd) (0, tl, Ts, Hs) (nm, lk, dl) sd) = some (nI (cnt rd nr)) from sS_subs hn, bd_sm, if_pos rfl]
    exact ⟨(2 + c, lim, nr, zN, tp, th, ta), fb, (hr, 0, nI 0, 0, 0, 0, 0, zB, zN, zN, wm, rd), (0, tl, Ts, Hs), (nm, lk, dl), sd, rfl, ⟨R_begin h (by omega) (by omega), ⟨fun i hi => absurd hi (Nat.not_lt_zero i), fun k i hk hi => absurd hi (Nat.not_lt_zero i), fun i hi => absurd hi (Nat.not_lt_zero i), fun k i hk hi => absurd hi (Nat.not_lt_zero i), fun i hi => absurd hi (Nat.not_lt_zero i)⟩, hm⟩, Nat.le_add_right hr 60⟩
  · rw [if_neg h0]
    exact a_same h hy hm
/-- a topic turned -/
theorem R_flip (h : iRx fl lim nr len tp th ta fb hr a wy st wr sp la cl nx ct wm rd mn tl) (ht : t < 8) (b : Bool) : iRx fl lim nr len tp th ta (ud fb t b) hr a wy st wr sp la cl nx ct wm rd mn tl := by
  obtain ⟨⟨h1, h1b⟩, ⟨h2, h2b⟩, h3, h4, h5, h6, h7, h8, h9, h10, h11, h12, h13, h14, h15, h16, h17, h18, h19, h20, h21, h22, h23⟩ := h
  refine ⟨⟨h1, h1b⟩, ⟨h2, h2b⟩, h3, h4, h5, h6, h7, h8, fun k hk => ?_, h10, h11, h12, h13, h14, h15, h16, h17, h18, h19, h20, h21, h22, h23⟩
  rw [ud_ne _ _ (by omega)]
  exact h9 k hk
theorem c_turn (ht : t < 8) : p_X4_turnTopic (nI fl, nI lim, nI nr, nF len, nF tp, nF th, nF ta) (nI hr, nI a, wy, nI st, nI wr, nI sp, nI la, bF cl, nF nx, nF ct, bF fb, nF wm, bF rd) uT (nI mn, (fun i => nI (tl i / 9)), (fun i => nI (tl i % 9)), nF Ts, nF Hs) (nI nm, nF lk, nF dl) (nI t) = some (bI (!(fb t)), nI hr, nI a, wy, nI st, nI wr, nI sp, nI la, bF cl, nF nx, nF ct, bF (ud fb t (!(fb t))), nF wm, bF rd) := by
  unfold p_X4_turnTopic p_X4_turnTopic_J29
  rw [X_topic ht]
  simp (disch := omega) only [↓Lm1, L0, L1, L2, L3, L4, L5, L7, L8, L9, L10, L12, L20, L21, L33, L40, L60, L80, L99, L108, nI_add, nI_mul, gd_nI, nI_cl, nI_lt', nI_le', nI_eq', bd_sm, nF_app, bF_app, bI_n0, nI_m1e, nI_m1e', nI_m1l, nI_m1l', nI_m1t, nI_m1t', if_true, if_false, nar_n0, nar_n1, upd_nF, upd_bF, ud_at]
  cases fb t
  · rw [if_pos rfl, gq_bI1]; rfl
  · rw [if_neg (by simp), gq_bI1]; rfl
theorem a_turn (h : iRx fl lim nr len tp th ta fb hr a wy st wr sp la cl nx ct wm rd mn tl) (hy : iRy th nx hr mn tl Ts Hs) (hm : oM4 (nm, lk, dl)) : aOK hr (p_L_act_J171 (nI fl, nI lim, nI nr, nF len, nF tp, nF th, nF ta) (nI hr, nI a, wy, nI st, nI wr, nI sp, nI la, bF cl, nF nx, nF ct, bF fb, nF wm, bF rd) uT (nI mn, (fun i => nI (tl i / 9)), (fun i => nI (tl i % 9)), nF Ts, nF Hs) (nI nm, nF lk, nF dl) (nI hr, nI a, wy, nI st, nI wr, nI lim, nI sp, (fl, bF cl), bF fb, (fl, sCh len nx ct tp th), (nr, sRd nr ta wm rd), (nm, sMi nm lk dl), (mn, sPr mn tl Ts Hs tp th), sd) v) := by
  obtain ⟨t, ht, e⟩ := bel_8 v
  have e1 : p_L_act_J171 (nI fl, nI lim, nI nr, nF len, nF tp, nF th, nF ta) (nI hr, nI a, wy, nI st, nI wr, nI sp, nI la, bF cl, nF nx, nF ct, bF fb, nF wm, bF rd) uT (nI mn, (fun i => nI (tl i / 9)), (fun i => nI (tl i % 9)), nF Ts, nF Hs) (nI nm, nF lk, nF dl) (nI hr, nI a, wy, nI st, nI wr, nI lim, nI sp, (fl, bF cl), bF fb, (fl, sCh len nx ct tp th), (nr, sRd nr ta wm rd), (nm, sMi nm lk dl), (mn, sPr mn tl Ts Hs tp th), sd) v = some ((1 : Int32), (nI fl, nI lim, nI nr, nF len, nF tp, nF th, nF ta), (nI hr, nI a, wy, nI st, nI wr, nI sp, nI la, bF cl, nF nx, nF ct, bF (ud fb t (!(fb t))), nF wm, bF rd), (nI mn, (fun i => nI (tl i / 9)), (fun i => nI (tl i % 9)), nF Ts, nF Hs), (nI nm, nF lk, nF dl), (nI hr, nI a, wy, nI st, nI wr, nI lim, nI sp, (fl, bF cl), bF (ud fb t (!(fb t))), (fl, sCh len nx ct tp th), (nr, sRd nr ta wm rd), (nm, sMi nm lk dl), (mn, sPr mn tl Ts Hs tp th), sd)) := by
    unfold p_L_act_J171 p_L_act_J200
    rw [e, bd_sm, c_turn ht]
    simp (disch := omega) only [↓Lm1, L0, L1, L2, L3, L4, L5, L7, L8, L9, L10, L12, L20, L21, L33, L40, L60, L80, L99, L108, nI_add, nI_mul, gd_nI, nI_cl, nI_lt', nI_le', nI_eq', bd_sm, nF_app, bF_app, bI_n0, nI_m1e, nI_m1e', nI_m1l, nI_m1l', nI_m1t, nI_m1t', if_true, if_false, nar_n0, nar_n1, upd_nF, upd_bF, ud_at]
    cases hb : fb t
    · rw [if_pos rfl, if_pos (show bI (!false) = bI true from rfl)]; rfl
    · rw [if_neg (by simp), if_pos (show bI (!true) = bI false from rfl)]; rfl
  rw [e1]
  exact ⟨(fl, lim, nr, len, tp, th, ta), ud fb t (!(fb t)), (hr, a, wy, st, wr, sp, la, cl, nx, ct, wm, rd), (mn, tl, Ts, Hs), (nm, lk, dl), sd, rfl, ⟨R_flip h ht _, hy, hm⟩, Nat.le_add_right hr 60⟩
/-- the limit -/
theorem R_lim (h : iRx fl lim nr len tp th ta fb hr a wy st wr sp la cl nx ct wm rd mn tl) (k1 : 1 ≤ k) (k2 : k ≤ 99) : iRx fl k nr len tp th ta fb hr a wy st wr sp la cl nx ct wm rd mn tl := by
  obtain ⟨⟨h1, h1b⟩, ⟨h2, h2b⟩, h3, h4, h5, h6, h7, h8, h9, h10, h11, h12, h13, h14, h15, h16, h17, h18, h19, h20, h21, h22, h23⟩ := h
  exact ⟨⟨h1, h1b⟩, ⟨k1, k2⟩, h3, h4, h5, h6, h7, h8, h9, h10, h11, h12, h13, h14, h15, h16, h17, h18, h19, h20, h21, h22, h23⟩
theorem c_limit (k1 : 1 ≤ k) (k2 : k ≤ 99) : p_X4_setLimit (nI fl, nI lim, nI nr, nF len, nF tp, nF th, nF ta) (nI hr, nI a, wy, nI st, nI wr, nI sp, nI la, bF cl, nF nx, nF ct, bF fb, nF wm, bF rd) uT (nI mn, (fun i => nI (tl i / 9)), (fun i => nI (tl i % 9)), nF Ts, nF Hs) (nI nm, nF lk, nF dl) (nI k) = some (nI lim, nI fl, nI k, nI nr, nF len, nF tp, nF th, nF ta) := by
  unfold p_X4_setLimit
  simp (disch := omega) only [↓Lm1, L0, L1, L2, L3, L4, L5, L7, L8, L9, L10, L12, L20, L21, L33, L40, L60, L80, L99, L108, nI_add, nI_mul, gd_nI, nI_cl, nI_lt', nI_le', nI_eq', bd_sm, nF_app, bF_app, bI_n0, nI_m1e, nI_m1e', nI_m1l, nI_m1l', nI_m1t, nI_m1t', if_true, if_false]
  rw [if_neg (by omega), if_pos k2]
theorem a_limit_J (h : iRx fl lim nr len tp th ta fb hr a wy st wr sp la cl nx ct wm rd mn tl) (hy : iRy th nx hr mn tl Ts Hs) (hm : oM4 (nm, lk, dl)) {n : Nat} (h1 : 1 ≤ n) (h2 : n ≤ 99) : aOK hr (p_L_act_J249 (nI fl, nI lim, nI nr, nF len, nF tp, nF th, nF ta) (nI hr, nI a, wy, nI st, nI wr, nI sp, nI la, bF cl, nF nx, nF ct, bF fb, nF wm, bF rd) uT (nI mn, (fun i => nI (tl i / 9)), (fun i => nI (tl i % 9)), nF Ts, nF Hs) (nI nm, nF lk, nF dl) (nI hr, nI a, wy, nI st, nI wr, nI lim, nI sp, (fl, bF cl), bF fb, (fl, sCh len nx ct tp th), (nr, sRd nr ta wm rd), (nm, sMi nm lk dl), (mn, sPr mn tl Ts Hs tp th), sd) (nI lim) (nI n) v (nI 1)) := by
  obtain ⟨b, hb, e⟩ := below_ok v h1 (by omega)
  unfold p_L_act_J249
  rw [e, bd_sm, nI_add, c_limit (by omega) (by omega), bd_sm, if_pos rfl]
  exact ⟨(fl, 1 + b, nr, len, tp, th, ta), fb, (hr, a, wy, st, wr, sp, la, cl, nx, ct, wm, rd), (mn, tl, Ts, Hs), (nm, lk, dl), sd, rfl, ⟨R_lim (k := 1 + b) h (by omega) (by omega), hy, hm⟩, Nat.le_add_right hr 60⟩
theorem a_limit (h : iRx fl lim nr len tp th ta fb hr a wy st wr sp la cl nx ct wm rd mn tl) (hy : iRy th nx hr mn tl Ts Hs) (hm : oM4 (nm, lk, dl)) : aOK hr (p_L_act_J223 (nI fl, nI lim, nI nr, nF len, nF tp, nF th, nF ta) (nI hr, nI a, wy, nI st, nI wr, nI sp, nI la, bF cl, nF nx, nF ct, bF fb, nF wm, bF rd) uT (nI mn, (fun i => nI (tl i / 9)), (fun i => nI (tl i % 9)), nF Ts, nF Hs) (nI nm, nF lk, nF dl) (nI hr, nI a, wy, nI st, nI wr, nI lim, nI sp, (fl, bF cl), bF fb, (fl, sCh len nx ct tp th), (nr, sRd nr ta wm rd), (nm, sMi nm lk dl), (mn, sPr mn tl Ts Hs tp th), sd) v) := by
  obtain ⟨b, hb, e⟩ := bel_2 v
  unfold p_L_act_J223
  rw [e, bd_sm]
  by_cases h0 : nI b = 0
  · rw [if_pos h0]
    exact a_limit_J (n := 99) h hy hm (by omega) (by omega)
  · rw [if_neg h0]
    exact a_limit_J (n := 12) h hy hm (by omega) (by omega)
/-- a reader -/
theorem R_reader (h : iRx fl lim nr len tp th ta fb hr a wy st wr sp la cl nx ct wm rd mn tl) (hn : nr < 8) (ht : t < 8) (hw : w ≤ 20) : iRx fl lim (nr + 1) len tp th (ud ta nr t) fb hr a wy st wr sp la cl nx ct (ud wm nr w) (ud rd nr true) mn tl := by
  obtain ⟨⟨h1, h1b⟩, ⟨h2, h2b⟩, h3, h4, h5, h6, h7, h8, h9, h10, h11, h12, h13, h14, h15, h16, h17, h18, h19, h20, h21, h22, h23⟩ := h
  refine ⟨⟨h1, h1b⟩, ⟨h2, h2b⟩, by omega, h4, h5, h6, h7, fun r => ?_, h9, h10, h11, h12, h13, h14, h15, h16, h17, h18, h19, fun r => ?_, fun r => ?_, fun r hr2 => ?_, h23⟩
  · by_cases e : r = nr
    · subst e; rw [ud_at]; exact ht
    · rw [ud_ne _ _ e]; exact h8 r
  · by_cases e : r = nr
    · subst e; rw [ud_at]; omega
    · rw [ud_ne _ _ e]; exact h20 r
  · by_cases e : r = nr
    · subst e; rw [ud_at]; intro q; cases q
    · rw [ud_ne _ _ e, ud_ne _ _ e]; exact h21 r
  · rw [ud_ne _ _ (by omega)]; exact h22 r (by omega)
theorem c_reader (hn : nr < 8) (ht : t < 8) (w1 : 1 ≤ w) (w2 : w ≤ 20) : p_X4_addReader (nI fl, nI lim, nI nr, nF len, nF tp, nF th, nF ta) (nI hr, nI a, wy, nI st, nI wr, nI sp, nI la, bF cl, nF nx, nF ct, bF fb, nF wm, bF rd) uT (nI mn, (fun i => nI (tl i / 9)), (fun i => nI (tl i % 9)), nF Ts, nF Hs) (nI nm, nF lk, nF dl) (nI t) (nI w) = some (nI nr, (nI fl, nI lim, nI (nr + 1), nF len, nF tp, nF th, nF (ud ta nr t)), nI hr, nI a, wy, nI st, nI wr, nI sp, nI la, bF cl, nF nx, nF ct, bF fb, nF (ud wm nr w), bF (ud rd nr true)) := by
  unfold p_X4_addReader p_X4_isTopic
  simp (disch := omega) only [↓Lm1, L0, L1, L2, L3, L4, L5, L7, L8, L9, L10, L12, L20, L21, L33, L40, L60, L80, L99, L108, nI_add, nI_mul, gd_nI, nI_cl, nI_lt', nI_le', nI_eq', bd_sm, nF_app, bF_app, bI_n0, nI_m1e, nI_m1e', nI_m1l, nI_m1l', nI_m1t, nI_m1t', if_true, if_false, nar_n0, nar_n1, upd_nF, upd_bF]
  rw [if_neg (by omega), if_neg (by omega), bd_sm, if_neg (by decide +kernel), if_neg (by omega), if_pos w2, if_pos hn]
theorem a_reader (h : iRx fl lim nr len tp th ta fb hr a wy st wr sp la cl nx ct wm rd mn tl) (hy : iRy th nx hr mn tl Ts Hs) (hm : oM4 (nm, lk, dl)) : aOK hr (p_L_act_J275 (nI fl, nI lim, nI nr, nF len, nF tp, nF th, nF ta) (nI hr, nI a, wy, nI st, nI wr, nI sp, nI la, bF cl, nF nx, nF ct, bF fb, nF wm, bF rd) uT (nI mn, (fun i => nI (tl i / 9)), (fun i => nI (tl i % 9)), nF Ts, nF Hs) (nI nm, nF lk, nF dl) (nI hr, nI a, wy, nI st, nI wr, nI lim, nI sp, (fl, bF cl), bF fb, (fl, sCh len nx ct tp th), (nr, sRd nr ta wm rd), (nm, sMi nm lk dl), (mn, sPr mn tl Ts Hs tp th), sd) v) := by
  have hn : nr ≤ 8 := h.2.2.1
  obtain ⟨t, ht, e1⟩ := bel_8 v
  obtain ⟨w, hw, e2⟩ := bel_20 (v >>> ((3 : Int32) &&& 31))
  by_cases h0 : nr = 8
  · have e : p_L_act_J275 (nI fl, nI lim, nI nr, nF len, nF tp, nF th, nF ta) (nI hr, nI a, wy, nI st, nI wr, nI sp, nI la, bF cl, nF nx, nF ct, bF fb, nF wm, bF rd) uT (nI mn, (fun i => nI (tl i / 9)), (fun i => nI (tl i % 9)), nF Ts, nF Hs) (nI nm, nF lk, nF dl) (nI hr, nI a, wy, nI st, nI wr, nI lim, nI sp, (fl, bF cl), bF fb, (fl, sCh len nx ct tp th), (nr, sRd nr ta wm rd), (nm, sMi nm lk dl), (mn, sPr mn tl Ts Hs tp th), sd) v = some ((1 : Int32), (nI fl, nI lim, nI nr, nF len, nF tp, nF th, nF ta), (nI hr, nI a, wy, nI st, nI wr, nI sp, nI la, bF cl, nF nx, nF ct, bF fb, nF wm, bF rd), (nI mn, (fun i => nI (tl i / 9)), (fun i => nI (tl i % 9)), nF Ts, nF Hs), (nI nm, nF lk, nF dl), (nI hr, nI a, wy, nI st, nI wr, nI lim, nI sp, (fl, bF cl), bF fb, (fl, sCh len nx ct tp th), (nr, sRd nr ta wm rd), (nm, sMi nm lk dl), (mn, sPr mn tl Ts Hs tp th), sd)) := by
      unfold p_L_act_J275
      rw [if_pos (by subst h0; rfl)]
    rw [e]
    exact a_same h hy hm
  · have e : p_L_act_J275 (nI fl, nI lim, nI nr, nF len, nF tp, nF th, nF ta) (nI hr, nI a, wy, nI st, nI wr, nI sp, nI la, bF cl, nF nx, nF ct, bF fb, nF wm, bF rd) uT (nI mn, (fun i => nI (tl i / 9)), (fun i => nI (tl i % 9)), nF Ts, nF Hs) (nI nm, nF lk, nF dl) (nI hr, nI a, wy, nI st, nI wr, nI lim, nI sp, (fl, bF cl), bF fb, (fl, sCh len nx ct tp th), (nr, sRd nr ta wm rd), (nm, sMi nm lk dl), (mn, sPr mn tl Ts Hs tp th), sd) v = some ((1 : Int32), (nI fl, nI lim, nI (nr + 1), nF len, nF tp, nF th, nF (ud ta nr t)), (nI hr, nI a, wy, nI st, nI wr, nI sp, nI la, bF cl, nF nx, nF ct, bF fb, nF (ud wm nr (1 + w)), bF (ud rd nr true)), (nI mn, (fun i => nI (tl i / 9)), (fun i => nI (tl i % 9)), nF Ts, nF Hs), (nI nm, nF lk, nF dl), (nI hr, nI a, wy, nI st, nI wr, nI lim, nI sp, (fl, bF cl), bF fb, (fl, sCh len nx ct tp th), (nr + 1, sRd (nr + 1) (ud ta nr t) (ud wm nr (1 + w)) (ud rd nr true)), (nm, sMi nm lk dl), (mn, sPr mn tl Ts Hs tp th), sd)) := by
      have hir : nr < nr + 1 := by omega
      unfold p_L_act_J275
      rw [e1, bd_sm, e2, bd_sm]
      simp (disch := omega) only [↓Lm1, L0, L1, L2, L3, L4, L5, L7, L8, L9, L10, L12, L20, L21, L33, L40, L60, L80, L99, L108, nI_add, nI_mul, gd_nI, nI_cl, nI_lt', nI_le', nI_eq', bd_sm, nF_app, bF_app, bI_n0, nI_m1e, nI_m1e', nI_m1l, nI_m1l', nI_m1t, nI_m1t', if_true, if_false, gN_nI, sRd_push, sRd_1 hir, sRd_t hir, sRd_w hir, ud_at]
      rw [c_reader (by omega) ht (by omega) (by omega), bd_sm, if_neg h0, nI_sub (by omega), Nat.add_sub_cancel, if_pos rfl]
    rw [e]
    exact ⟨(fl, lim, nr + 1, len, tp, th, ud ta nr t), fb, (hr, a, wy, st, wr, sp, la, cl, nx, ct, ud wm nr (1 + w), ud rd nr true), (mn, tl, Ts, Hs), (nm, lk, dl), sd, rfl, ⟨R_reader h (by omega) ht (by omega), hy, hm⟩, Nat.le_add_right hr 60⟩
/-- a mirror -/
theorem c_mirror {d : Nat} (hn : nm < 4) (ht : t < 8) (hd : d < 8) (hne : t ≠ d) : p_X4_addMirror (nI fl, nI lim, nI nr, nF len, nF tp, nF th, nF ta) (nI hr, nI a, wy, nI st, nI wr, nI sp, nI la, bF cl, nF nx, nF ct, bF fb, nF wm, bF rd) uT (nI mn, (fun i => nI (tl i / 9)), (fun i => nI (tl i % 9)), nF Ts, nF Hs) (nI nm, nF lk, nF dl) (nI t) (nI d) = some (nI nm, nI (nm + 1), nF (ud lk nm t), nF (ud dl nm d)) := by
  unfold p_X4_addMirror p_X4_isTopic p_X3_append
  simp (disch := omega) only [↓Lm1, L0, L1, L2, L3, L4, L5, L7, L8, L9, L10, L12, L20, L21, L33, L40, L60, L80, L99, L108, nI_add, nI_mul, gd_nI, nI_cl, nI_lt', nI_le', nI_eq', bd_sm, nF_app, bF_app, bI_n0, nI_m1e, nI_m1e', nI_m1l, nI_m1l', nI_m1t, nI_m1t', if_true, if_false, nar_n0, nar_n1, upd_nF, upd_bF]
  rw [if_neg (by omega), if_neg (by omega), bd_sm, if_neg (by decide +kernel), if_neg (by omega), if_neg (by omega), bd_sm, if_neg (by decide +kernel), if_neg hne, if_pos hn]
theorem a_mirror (h : iRx fl lim nr len tp th ta fb hr a wy st wr sp la cl nx ct wm rd mn tl) (hy : iRy th nx hr mn tl Ts Hs) (hm : oM4 (nm, lk, dl)) : aOK hr (p_L_act_J359 (nI fl, nI lim, nI nr, nF len, nF tp, nF th, nF ta) (nI hr, nI a, wy, nI st, nI wr, nI sp, nI la, bF cl, nF nx, nF ct, bF fb, nF wm, bF rd) uT (nI mn, (fun i => nI (tl i / 9)), (fun i => nI (tl i % 9)), nF Ts, nF Hs) (nI nm, nF lk, nF dl) (nI hr, nI a, wy, nI st, nI wr, nI lim, nI sp, (fl, bF cl), bF fb, (fl, sCh len nx ct tp th), (nr, sRd nr ta wm rd), (nm, sMi nm lk dl), (mn, sPr mn tl Ts Hs tp th), sd) v) := by
  obtain ⟨m1, m2, m3⟩ := hm
  have m1 : nm ≤ 4 := m1
  obtain ⟨t, ht, e1⟩ := bel_8 v
  obtain ⟨w, hw, e2⟩ := bel_7 (v >>> ((3 : Int32) &&& 31))
  by_cases h0 : nm = 4
  · have e : p_L_act_J359 (nI fl, nI lim, nI nr, nF len, nF tp, nF th, nF ta) (nI hr, nI a, wy, nI st, nI wr, nI sp, nI la, bF cl, nF nx, nF ct, bF fb, nF wm, bF rd) uT (nI mn, (fun i => nI (tl i / 9)), (fun i => nI (tl i % 9)), nF Ts, nF Hs) (nI nm, nF lk, nF dl) (nI hr, nI a, wy, nI st, nI wr, nI lim, nI sp, (fl, bF cl), bF fb, (fl, sCh len nx ct tp th), (nr, sRd nr ta wm rd), (nm, sMi nm lk dl), (mn, sPr mn tl Ts Hs tp th), sd) v = some ((1 : Int32), (nI fl, nI lim, nI nr, nF len, nF tp, nF th, nF ta), (nI hr, nI a, wy, nI st, nI wr, nI sp, nI la, bF cl, nF nx, nF ct, bF fb, nF wm, bF rd), (nI mn, (fun i => nI (tl i / 9)), (fun i => nI (tl i % 9)), nF Ts, nF Hs), (nI nm, nF lk, nF dl), (nI hr, nI a, wy, nI st, nI wr, nI lim, nI sp, (fl, bF cl), bF fb, (fl, sCh len nx ct tp th), (nr, sRd nr ta wm rd), (nm, sMi nm lk dl), (mn, sPr mn tl Ts Hs tp th), sd)) := by
      unfold p_L_act_J359
      rw [if_pos (by subst h0; rfl)]
    rw [e]
    exact a_same h hy ⟨m1, m2, m3⟩
  · have hle : (t + 1 + w) / 8 * 8 ≤ t + 1 + w := Nat.div_mul_le_self _ _
    have hd := Nat.div_add_mod (t + 1 + w) 8
    have hmod : t + 1 + w - (t + 1 + w) / 8 * 8 = (t + 1 + w) % 8 := by omega
    have e : p_L_act_J359 (nI fl, nI lim, nI nr, nF len, nF tp, nF th, nF ta) (nI hr, nI a, wy, nI st, nI wr, nI sp, nI la, bF cl, nF nx, nF ct, bF fb, nF wm, bF rd) uT (nI mn, (fun i => nI (tl i / 9)), (fun i => nI (tl i % 9)), nF Ts, nF Hs) (nI nm, nF lk, nF dl) (nI hr, nI a, wy, nI st, nI wr, nI lim, nI sp, (fl, bF cl), bF fb, (fl, sCh len nx ct tp th), (nr, sRd nr ta wm rd), (nm, sMi nm lk dl), (mn, sPr mn tl Ts Hs tp th), sd) v = some ((1 : Int32), (nI fl, nI lim, nI nr, nF len, nF tp, nF th, nF ta), (nI hr, nI a, wy, nI st, nI wr, nI sp, nI la, bF cl, nF nx, nF ct, bF fb, nF wm, bF rd), (nI mn, (fun i => nI (tl i / 9)), (fun i => nI (tl i % 9)), nF Ts, nF Hs), (nI (nm + 1), nF (ud lk nm t), nF (ud dl nm ((t + 1 + w) % 8))), (nI hr, nI a, wy, nI st, nI wr, nI lim, nI sp, (fl, bF cl), bF fb, (fl, sCh len nx ct tp th), (nr, sRd nr ta wm rd), (nm + 1, sMi (nm + 1) (ud lk nm t) (ud dl nm ((t + 1 + w) % 8))), (mn, sPr mn tl Ts Hs tp th), sd)) := by
      unfold p_L_act_J359
      rw [e1, bd_sm, e2, bd_sm]
      simp (disch := omega) only [↓Lm1, L0, L1, L2, L3, L4, L5, L7, L8, L9, L10, L12, L20, L21, L33, L40, L60, L80, L99, L108, nI_add, nI_mul, gd_nI, nI_cl, nI_lt', nI_le', nI_eq', bd_sm, nF_app, bF_app, bI_n0, nI_m1e, nI_m1e', nI_m1l, nI_m1l', nI_m1t, nI_m1t', if_true, if_false, gN_nI, nI_div, nI_sub, hmod, sMi_push]
      rw [c_mirror (by omega) ht (Nat.mod_lt _ (by omega)) (by omega), bd_sm, if_neg h0, Nat.add_sub_cancel, if_pos rfl]
    rw [e]
    refine ⟨(fl, lim, nr, len, tp, th, ta), fb, (hr, a, wy, st, wr, sp, la, cl, nx, ct, wm, rd), (mn, tl, Ts, Hs), (nm + 1, ud lk nm t, ud dl nm ((t + 1 + w) % 8)), sd, rfl, ⟨h, hy, ?_, fun m => ?_, fun m hm => ?_⟩, Nat.le_add_right hr 60⟩
    · show nm + 1 ≤ 4
      omega
    · show ud lk nm t m < 8 ∧ ud dl nm ((t + 1 + w) % 8) m < 8
      by_cases e : m = nm
      · subst e; rw [ud_at, ud_at]; exact ⟨ht, Nat.mod_lt _ (by omega)⟩
      · rw [ud_ne _ _ e, ud_ne _ _ e]; exact m2 m
    · show ud lk nm t m ≠ ud dl nm ((t + 1 + w) % 8) m
      have hm : m < nm + 1 := hm
      by_cases e : m = nm
      · subst e; rw [ud_at, ud_at]; omega
      · rw [ud_ne _ _ e, ud_ne _ _ e]; exact m3 m (show m < nm by omega)
/-- repair -/
theorem R_repair (h : iRx fl lim nr len tp th ta fb hr a wy st wr sp la cl nx ct wm rd mn tl) : iRx fl lim nr len tp th ta fb hr a wy 0 0 sp la cl nx ct wm rd mn tl := by
  obtain ⟨⟨h1, h1b⟩, ⟨h2, h2b⟩, h3, h4, h5, h6, h7, h8, h9, h10, h11, h12, h13, h14, h15, h16, h17, h18, h19, h20, h21, h22, h23⟩ := h
  exact ⟨⟨h1, h1b⟩, ⟨h2, h2b⟩, h3, h4, h5, h6, h7, h8, h9, h10, h11, Nat.zero_le _, Nat.zero_le _, h14, h15, h16, h17, h18, h19, h20, h21, h22, h23⟩
theorem a_repair (h : iRx fl lim nr len tp th ta fb hr a wy st wr sp la cl nx ct wm rd mn tl) (hy : iRy th nx hr mn tl Ts Hs) (hm : oM4 (nm, lk, dl)) : aOK hr (p_L_act_J444 (nI fl, nI lim, nI nr, nF len, nF tp, nF th, nF ta) (nI hr, nI a, wy, nI st, nI wr, nI sp, nI la, bF cl, nF nx, nF ct, bF fb, nF wm, bF rd) uT (nI mn, (fun i => nI (tl i / 9)), (fun i => nI (tl i % 9)), nF Ts, nF Hs) (nI nm, nF lk, nF dl) (nI hr, nI a, wy, nI st, nI wr, nI lim, nI sp, (fl, bF cl), bF fb, (fl, sCh len nx ct tp th), (nr, sRd nr ta wm rd), (nm, sMi nm lk dl), (mn, sPr mn tl Ts Hs tp th), sd) v) := by
  obtain ⟨b, hb, e⟩ := bel_3 v
  unfold p_L_act_J444 p_X4_repair
  rw [e, bd_sm]
  by_cases h0 : nI b ≤ 0
  · rw [if_pos h0, bd_sm, if_pos rfl]
    exact ⟨(fl, lim, nr, len, tp, th, ta), fb, (hr, a, wy, 0, 0, sp, la, cl, nx, ct, wm, rd), (mn, tl, Ts, Hs), (nm, lk, dl), sd, rfl, ⟨R_repair h, hy, hm⟩, Nat.le_add_right hr 60⟩
  · rw [if_neg h0]
    exact a_same h hy hm
/-- a paragraph -/
theorem R_addP (h : iRx fl lim nr len tp th ta fb hr a wy st wr sp la cl nx ct wm rd mn tl) (hk : k < fl) (hl : len k < 9) (ht : t < 8) (hw : w ≤ 9) : iRx fl lim nr (ud len k (len k + 1)) (ud tp (9 * k + len k) t) (ud th (9 * k + len k) w) ta fb hr a wy st wr sp la cl nx ct wm rd mn tl := by
  obtain ⟨⟨h1, h1b⟩, ⟨h2, h2b⟩, h3, h4, h5, h6, h7, h8, h9, h10, h11, h12, h13, h14, h15, h16, h17, h18, h19, h20, h21, h22, h23⟩ := h
  have hge : ∀ f, len f ≤ ud len k (len k + 1) f := fun f => by
    by_cases e : f = k
    · subst e; rw [ud_at]; omega
    · rw [ud_ne _ _ e]; exact Nat.le_refl _
  refine ⟨⟨h1, h1b⟩, ⟨h2, h2b⟩, h3, fun f => ?_, fun f hf => ?_, fun i => ?_, fun i => ?_, h8, h9, h10, h11, h12, h13, h14, ?_, h16, fun f => Nat.le_trans (h17 f) (hge f), h18, h19, h20, h21, h22, fun i hi => ⟨(h23 i hi).1, Nat.lt_of_lt_of_le (h23 i hi).2 (hge _)⟩⟩
  · by_cases e : f = k
    · subst e; rw [ud_at]; omega
    · rw [ud_ne _ _ e]; exact h4 f
  · rw [ud_ne _ _ (by omega)]; exact h5 f hf
  · by_cases e : i = 9 * k + len k
    · subst e; rw [ud_at]; exact ht
    · rw [ud_ne _ _ e]; exact h6 i
  · by_cases e : i = 9 * k + len k
    · subst e; rw [ud_at]; exact hw
    · rw [ud_ne _ _ e]; exact h7 i
  · rw [h15]
    by_cases h0 : mn = 0
    · rw [if_pos h0, if_pos h0]
    · rw [if_neg h0, if_neg h0, ud_ne]
      intro e
      have hq := (h23 (mn - 1) (by omega)).2
      rw [e] at hq
      have d1 : (9 * k + len k) / 9 = k := by omega
      have d2 : (9 * k + len k) % 9 = len k := by omega
      rw [d1, d2] at hq
      omega
theorem ne_addP (hl : len k < 9) (h23 : ∀ i, i < mn → tl i < 108 ∧ tl i % 9 < len (tl i / 9)) : ∀ i, i < mn → tl i ≠ 9 * k + len k := by
  intro i hi e
  have hq := (h23 i hi).2
  rw [e] at hq
  have d1 : (9 * k + len k) / 9 = k := by omega
  have d2 : (9 * k + len k) % 9 = len k := by omega
  rw [d1, d2] at hq
  omega
theorem Y_addP (hy : iRy th nx hr mn tl Ts Hs) (hne : ∀ i, i < mn → tl i ≠ 9 * k + len k) : iRy (ud th (9 * k + len k) w) nx hr mn tl Ts Hs := by
  obtain ⟨y1, y2, y3, y4, y5⟩ := hy
  refine ⟨y1, y2, y3, y4, fun i hi => ?_⟩
  rw [ud_ne _ _ (hne i hi)]
  exact y5 i hi
theorem sPr_addP (hne : ∀ i, i < mn → tl i ≠ 9 * k + len k) : sPr mn tl Ts Hs (ud tp (9 * k + len k) t) (ud th (9 * k + len k) w) = sPr mn tl Ts Hs tp th := by
  funext i
  unfold sPr
  by_cases h : i < mn
  · rw [if_pos h, if_pos h, ud_ne _ _ (hne i h), ud_ne _ _ (hne i h)]
  · rw [if_neg h, if_neg h]
theorem c_addP (hl9 : ∀ f, len f ≤ 9) (hk : k < fl) (hfl : fl ≤ 12) (hl : len k < 9) (ht : t < 8) (hw : w ≤ 9) : p_X4_addParagraph (nI fl, nI lim, nI nr, nF len, nF tp, nF th, nF ta) (nI hr, nI a, wy, nI st, nI wr, nI sp, nI la, bF cl, nF nx, nF ct, bF fb, nF wm, bF rd) uT (nI mn, (fun i => nI (tl i / 9)), (fun i => nI (tl i % 9)), nF Ts, nF Hs) (nI nm, nF lk, nF dl) (nI k) (nI t) (nI w) = some (nI (len k), nI fl, nI lim, nI nr, nF (ud len k (len k + 1)), nF (ud tp (9 * k + len k) t), nF (ud th (9 * k + len k) w), nF ta) := by
  unfold p_X4_addParagraph p_X4_isTopic p_X1_append
  rw [X_floor hk hfl]
  simp (disch := omega) only [↓Lm1, L0, L1, L2, L3, L4, L5, L7, L8, L9, L10, L12, L20, L21, L33, L40, L60, L80, L99, L108, nI_add, nI_mul, gd_nI, nI_cl, nI_lt', nI_le', nI_eq', bd_sm, nF_app, bF_app, bI_n0, nI_m1e, nI_m1e', nI_m1l, nI_m1l', nI_m1t, nI_m1t', if_true, if_false, nar_n0, nar_n1, upd_nF, upd_bF, Nat.mul_comm k 9]
  rw [if_neg (by omega), if_neg (by omega), bd_sm, if_neg (by decide +kernel), if_neg (by omega), if_pos hw, if_pos hl]
theorem s_add_L (hfl : fl ≤ 12) (hk : k < fl) (hl : len k < 9) : ∀ n i fuel, i + n = 2 + 2 * len k → n < fuel → p_X5_add_L20 fuel (nI hr, nI a, wy, nI st, nI wr, nI lim, nI sp, (fl, bF cl), bF fb, (fl, sCh len nx ct tp th), (nr, sRd nr ta wm rd), (nm, sMi nm lk dl), (mn, sPr mn tl Ts Hs tp th), sd) (fun j => if j < i then (sCh len nx ct tp th k).2 j else nI 0) (4 + 2 * len k) k (nI k) (nI t) (nI w) (nI i) = some (nI (len k), nI hr, nI a, wy, nI st, nI wr, nI lim, nI sp, (fl, bF cl), bF fb, qR (fl, sCh len nx ct tp th) k (4 + 2 * len k, upd (upd (fun j => if j < 2 + 2 * len k then (sCh len nx ct tp th k).2 j else nI 0) (2 + 2 * len k) (nI t)) (3 + 2 * len k) (nI w)), (nr, sRd nr ta wm rd), (nm, sMi nm lk dl), (mn, sPr mn tl Ts Hs tp th), sd) := by
  intro n
  induction n with
  | zero =>
    intro i fuel hi hf
    obtain ⟨f, rfl⟩ : ∃ f, fuel = f + 1 := ⟨fuel - 1, by omega⟩
    have hi2 : i = 2 + 2 * len k := by omega
    have q : (2 + 2 * len k - 2) / 2 = len k := by omega
    rw [p_X5_add_L20]
    simp (disch := omega) only [↓Lm1, L0, L1, L2, L3, L4, L5, L7, L8, L9, L10, L12, L20, L21, L33, L40, L60, L80, L99, L108, nI_add, nI_mul, gd_nI, nI_cl, nI_lt', nI_le', nI_eq', bd_sm, nF_app, bF_app, bI_n0, nI_m1e, nI_m1e', nI_m1l, nI_m1l', nI_m1t, nI_m1t', if_true, if_false, gN_nI, sCh_1, nI_sub, nI_div, q, Nat.add_assoc]
    rw [if_pos (by omega), gq_in trivial, hi2, show 2 + (2 * len k + 1) = 3 + 2 * len k by omega]
  | succ n ih =>
    intro i fuel hi hf
    obtain ⟨f, rfl⟩ : ∃ f, fuel = f + 1 := ⟨fuel - 1, by omega⟩
    rw [p_X5_add_L20]
    simp (disch := omega) only [↓Lm1, L0, L1, L2, L3, L4, L5, L7, L8, L9, L10, L12, L20, L21, L33, L40, L60, L80, L99, L108, nI_add, nI_mul, gd_nI, nI_cl, nI_lt', nI_le', nI_eq', bd_sm, nF_app, bF_app, bI_n0, nI_m1e, nI_m1e', nI_m1l, nI_m1l', nI_m1t, nI_m1t', if_true, if_false, gN_nI, sCh_1]
    rw [if_neg (by omega)]
    have e : upd (fun j => if j < i then (sCh len nx ct tp th k).2 j else nI 0) i ((sCh len nx ct tp th k).2 i) = (fun j => if j < i + 1 then (sCh len nx ct tp th k).2 j else nI 0) := by
      funext j
      unfold upd
      by_cases e : j = i
      · subst e; rw [if_pos rfl, if_pos (by omega)]
      · rw [if_neg e]
        show (if j < i then (sCh len nx ct tp th k).2 j else nI 0) = _
        by_cases e2 : j < i
        · rw [if_pos e2, if_pos (by omega)]
        · rw [if_neg e2, if_neg (by omega)]
    rw [e]
    exact ih (i + 1) f (by omega) (by omega)
theorem s_add (hl9 : ∀ f, len f ≤ 9) (hne : ∀ i, i < mn → tl i ≠ 9 * k + len k) (hfl : fl ≤ 12) (hk : k < fl) (hl : len k < 9) : p_X5_add (nI hr, nI a, wy, nI st, nI wr, nI lim, nI sp, (fl, bF cl), bF fb, (fl, sCh len nx ct tp th), (nr, sRd nr ta wm rd), (nm, sMi nm lk dl), (mn, sPr mn tl Ts Hs tp th), sd) (nI k) (nI t) (nI w) = some (nI (len k), nI hr, nI a, wy, nI st, nI wr, nI lim, nI sp, (fl, bF cl), bF fb, (fl, sCh (ud len k (len k + 1)) nx ct (ud tp (9 * k + len k) t) (ud th (9 * k + len k) w)), (nr, sRd nr ta wm rd), (nm, sMi nm lk dl), (mn, sPr mn tl Ts Hs (ud tp (9 * k + len k) t) (ud th (9 * k + len k) w)), sd) := by
  have c := s_add_L (hr := hr) (a := a) (wy := wy) (st := st) (wr := wr) (lim := lim) (sp := sp) (cl := cl) (fb := fb) (nx := nx) (ct := ct) (tp := tp) (th := th) (nr := nr) (ta := ta) (wm := wm) (rd := rd) (nm := nm) (lk := lk) (dl := dl) (mn := mn) (tl := tl) (Ts := Ts) (Hs := Hs) (sd := sd) (t := t) (w := w) hfl hk hl (2 + 2 * len k) 0 200 (by omega) (by omega)
  rw [sCh_q hl9 hl] at c
  rw [sPr_addP hne, ← c]
  unfold p_X5_add
  have hg : ∀ X : Option (Int32 × tX5), gL (nI (2 + 2 * len k + 2)) 20 X = X := fun X => gL_in ⟨by rw [L0, nI_lt' (by omega) (by omega)]; omega, by rw [nI_cl (by omega)]; omega⟩
  simp (disch := omega) only [↓Lm1, L0, L1, L2, L3, L4, L5, L7, L8, L9, L10, L12, L20, L21, L33, L40, L60, L80, L99, L108, nI_add, nI_mul, gd_nI, nI_cl, nI_lt', nI_le', nI_eq', bd_sm, nF_app, bF_app, bI_n0, nI_m1e, nI_m1e', nI_m1l, nI_m1l', nI_m1t, nI_m1t', if_true, if_false, sCh_1, hg]
  rw [show 2 + 2 * len k + 2 = 4 + 2 * len k by omega]
  rfl
theorem a_para (h : iRx fl lim nr len tp th ta fb hr a wy st wr sp la cl nx ct wm rd mn tl) (hy : iRy th nx hr mn tl Ts Hs) (hm : oM4 (nm, lk, dl)) (hk : k < fl) : aOK hr (p_L_act_J485 (nI fl, nI lim, nI nr, nF len, nF tp, nF th, nF ta) (nI hr, nI a, wy, nI st, nI wr, nI sp, nI la, bF cl, nF nx, nF ct, bF fb, nF wm, bF rd) uT (nI mn, (fun i => nI (tl i / 9)), (fun i => nI (tl i % 9)), nF Ts, nF Hs) (nI nm, nF lk, nF dl) (nI hr, nI a, wy, nI st, nI wr, nI lim, nI sp, (fl, bF cl), bF fb, (fl, sCh len nx ct tp th), (nr, sRd nr ta wm rd), (nm, sMi nm lk dl), (mn, sPr mn tl Ts Hs tp th), sd) v (nI k)) := by
  have hh := h
  obtain ⟨⟨h1, h1b⟩, ⟨h2, h2b⟩, h3, h4, h5, h6, h7, h8, h9, h10, h11, h12, h13, h14, h15, h16, h17, h18, h19, h20, h21, h22, h23⟩ := h
  have hl9 := h4 k
  obtain ⟨t, ht, e1⟩ := bel_8 (v >>> ((3 : Int32) &&& 31))
  obtain ⟨w, hw, e2⟩ := bel_10 (v >>> ((5 : Int32) &&& 31))
  have e20 : ∀ X : Option (Int32 × tX1 × tX0 × tX2 × tX3 × tX5), gd (nI k) fl X = X := fun X => gd_nI _ hk (by omega)
  by_cases h0 : len k = 9
  · have e : p_L_act_J485 (nI fl, nI lim, nI nr, nF len, nF tp, nF th, nF ta) (nI hr, nI a, wy, nI st, nI wr, nI sp, nI la, bF cl, nF nx, nF ct, bF fb, nF wm, bF rd) uT (nI mn, (fun i => nI (tl i / 9)), (fun i => nI (tl i % 9)), nF Ts, nF Hs) (nI nm, nF lk, nF dl) (nI hr, nI a, wy, nI st, nI wr, nI lim, nI sp, (fl, bF cl), bF fb, (fl, sCh len nx ct tp th), (nr, sRd nr ta wm rd), (nm, sMi nm lk dl), (mn, sPr mn tl Ts Hs tp th), sd) v (nI k) = some ((1 : Int32), (nI fl, nI lim, nI nr, nF len, nF tp, nF th, nF ta), (nI hr, nI a, wy, nI st, nI wr, nI sp, nI la, bF cl, nF nx, nF ct, bF fb, nF wm, bF rd), (nI mn, (fun i => nI (tl i / 9)), (fun i => nI (tl i % 9)), nF Ts, nF Hs), (nI nm, nF lk, nF dl), (nI hr, nI a, wy, nI st, nI wr, nI lim, nI sp, (fl, bF cl), bF fb, (fl, sCh len nx ct tp th), (nr, sRd nr ta wm rd), (nm, sMi nm lk dl), (mn, sPr mn tl Ts Hs tp th), sd)) := by
      unfold p_L_act_J485
      rw [e20, nI_cl (by omega), sCh_1, h0, if_pos (by decide +kernel)]
    rw [e]
    exact a_same hh hy hm
  · have hne := ne_addP (k := k) (by omega) h23
    have e : p_L_act_J485 (nI fl, nI lim, nI nr, nF len, nF tp, nF th, nF ta) (nI hr, nI a, wy, nI st, nI wr, nI sp, nI la, bF cl, nF nx, nF ct, bF fb, nF wm, bF rd) uT (nI mn, (fun i => nI (tl i / 9)), (fun i => nI (tl i % 9)), nF Ts, nF Hs) (nI nm, nF lk, nF dl) (nI hr, nI a, wy, nI st, nI wr, nI lim, nI sp, (fl, bF cl), bF fb, (fl, sCh len nx ct tp th), (nr, sRd nr ta wm rd), (nm, sMi nm lk dl), (mn, sPr mn tl Ts Hs tp th), sd) v (nI k) = some ((1 : Int32), (nI fl, nI lim, nI nr, nF (ud len k (len k + 1)), nF (ud tp (9 * k + len k) t), nF (ud th (9 * k + len k) w), nF ta), (nI hr, nI a, wy, nI st, nI wr, nI sp, nI la, bF cl, nF nx, nF ct, bF fb, nF wm, bF rd), (nI mn, (fun i => nI (tl i / 9)), (fun i => nI (tl i % 9)), nF Ts, nF Hs), (nI nm, nF lk, nF dl), (nI hr, nI a, wy, nI st, nI wr, nI lim, nI sp, (fl, bF cl), bF fb, (fl, sCh (ud len k (len k + 1)) nx ct (ud tp (9 * k + len k) t) (ud th (9 * k + len k) w)), (nr, sRd nr ta wm rd), (nm, sMi nm lk dl), (mn, sPr mn tl Ts Hs (ud tp (9 * k + len k) t) (ud th (9 * k + len k) w)), sd)) := by
      unfold p_L_act_J485
      rw [e20, nI_cl (by omega), sCh_1, L20, if_neg (mt (nI_eq (by omega) (by omega)).mp (by omega)), e1, bd_sm, e2, bd_sm, c_addP h4 hk h1b (by omega) ht (by omega), bd_sm, bd_sm, bd_sm, s_add h4 hne h1b hk (by omega), bd_sm, if_pos rfl]
    rw [e]
    exact ⟨(fl, lim, nr, ud len k (len k + 1), ud tp (9 * k + len k) t, ud th (9 * k + len k) w, ta), fb, (hr, a, wy, st, wr, sp, la, cl, nx, ct, wm, rd), (mn, tl, Ts, Hs), (nm, lk, dl), sd, rfl, ⟨R_addP hh hk (by omega) ht (by omega), Y_addP hy hne, hm⟩, Nat.le_add_right hr 60⟩
/-- a call -/
theorem R_call (h : iRx fl lim nr len tp th ta fb hr a wy st wr sp la cl nx ct wm rd mn tl) (hk : k < fl) : iRx fl lim nr len tp th ta fb hr a wy st wr sp la (ud cl k true) nx ct wm rd mn tl := by
  obtain ⟨⟨h1, h1b⟩, ⟨h2, h2b⟩, h3, h4, h5, h6, h7, h8, h9, h10, h11, h12, h13, h14, h15, h16, h17, h18, h19, h20, h21, h22, h23⟩ := h
  refine ⟨⟨h1, h1b⟩, ⟨h2, h2b⟩, h3, h4, h5, h6, h7, h8, h9, h10, h11, h12, h13, h14, h15, fun f hf => ?_, h17, h18, h19, h20, h21, h22, h23⟩
  rw [ud_ne _ _ (by omega)]
  exact h16 f hf
theorem c_call (hk : k < fl) (hfl : fl ≤ 12) : p_X4_call (nI fl, nI lim, nI nr, nF len, nF tp, nF th, nF ta) (nI hr, nI a, wy, nI st, nI wr, nI sp, nI la, bF cl, nF nx, nF ct, bF fb, nF wm, bF rd) uT (nI mn, (fun i => nI (tl i / 9)), (fun i => nI (tl i % 9)), nF Ts, nF Hs) (nI nm, nF lk, nF dl) (nI k) = some (bI (!(cl k)), nI hr, nI a, wy, nI st, nI wr, nI sp, nI la, bF (ud cl k true), nF nx, nF ct, bF fb, nF wm, bF rd) := by
  unfold p_X4_call p_X4_call_J22
  rw [X_floor hk hfl]
  simp (disch := omega) only [↓Lm1, L0, L1, L2, L3, L4, L5, L7, L8, L9, L10, L12, L20, L21, L33, L40, L60, L80, L99, L108, nI_add, nI_mul, gd_nI, nI_cl, nI_lt', nI_le', nI_eq', bd_sm, nF_app, bF_app, bI_n0, nI_m1e, nI_m1e', nI_m1l, nI_m1l', nI_m1t, nI_m1t', if_true, if_false, nar_n0, nar_n1, upd_nF, upd_bF]
  cases cl k
  · rw [if_pos rfl, gq_in (by decide +kernel)]; rfl
  · rw [if_neg (by simp), gq_in (by decide +kernel)]; rfl
theorem a_call (h : iRx fl lim nr len tp th ta fb hr a wy st wr sp la cl nx ct wm rd mn tl) (hy : iRy th nx hr mn tl Ts Hs) (hm : oM4 (nm, lk, dl)) (hk : k < fl) : aOK hr (p_L_act_J553 (nI fl, nI lim, nI nr, nF len, nF tp, nF th, nF ta) (nI hr, nI a, wy, nI st, nI wr, nI sp, nI la, bF cl, nF nx, nF ct, bF fb, nF wm, bF rd) uT (nI mn, (fun i => nI (tl i / 9)), (fun i => nI (tl i % 9)), nF Ts, nF Hs) (nI nm, nF lk, nF dl) (nI hr, nI a, wy, nI st, nI wr, nI lim, nI sp, (fl, bF cl), bF fb, (fl, sCh len nx ct tp th), (nr, sRd nr ta wm rd), (nm, sMi nm lk dl), (mn, sPr mn tl Ts Hs tp th), sd) (nI k)) := by
  have hfl : fl ≤ 12 := h.1.2
  have e : p_L_act_J553 (nI fl, nI lim, nI nr, nF len, nF tp, nF th, nF ta) (nI hr, nI a, wy, nI st, nI wr, nI sp, nI la, bF cl, nF nx, nF ct, bF fb, nF wm, bF rd) uT (nI mn, (fun i => nI (tl i / 9)), (fun i => nI (tl i % 9)), nF Ts, nF Hs) (nI nm, nF lk, nF dl) (nI hr, nI a, wy, nI st, nI wr, nI lim, nI sp, (fl, bF cl), bF fb, (fl, sCh len nx ct tp th), (nr, sRd nr ta wm rd), (nm, sMi nm lk dl), (mn, sPr mn tl Ts Hs tp th), sd) (nI k) = some ((1 : Int32), (nI fl, nI lim, nI nr, nF len, nF tp, nF th, nF ta), (nI hr, nI a, wy, nI st, nI wr, nI sp, nI la, bF (ud cl k true), nF nx, nF ct, bF fb, nF wm, bF rd), (nI mn, (fun i => nI (tl i / 9)), (fun i => nI (tl i % 9)), nF Ts, nF Hs), (nI nm, nF lk, nF dl), (nI hr, nI a, wy, nI st, nI wr, nI lim, nI sp, (fl, bF (ud cl k true)), bF fb, (fl, sCh len nx ct tp th), (nr, sRd nr ta wm rd), (nm, sMi nm lk dl), (mn, sPr mn tl Ts Hs tp th), sd)) := by
    unfold p_L_act_J553 p_L_act_J568
    rw [c_call hk hfl]
    simp (disch := omega) only [↓Lm1, L0, L1, L2, L3, L4, L5, L7, L8, L9, L10, L12, L20, L21, L33, L40, L60, L80, L99, L108, nI_add, nI_mul, gd_nI, nI_cl, nI_lt', nI_le', nI_eq', bd_sm, nF_app, bF_app, bI_n0, nI_m1e, nI_m1e', nI_m1l, nI_m1l', nI_m1t, nI_m1t', if_true, if_false, nar_n0, nar_n1, upd_nF, upd_bF]
    cases hc : cl k
    · rw [if_pos rfl, if_pos (by decide +kernel)]
    · rw [if_neg (by simp), if_pos (by decide +kernel)]
  rw [e]
  exact ⟨(fl, lim, nr, len, tp, th, ta), fb, (hr, a, wy, st, wr, sp, la, ud cl k true, nx, ct, wm, rd), (mn, tl, Ts, Hs), (nm, lk, dl), sd, rfl, ⟨R_call h hk, hy, hm⟩, Nat.le_add_right hr 60⟩
/-- hours -/
theorem a_hours_J (h : iRx fl lim nr len tp th ta fb hr a wy st wr sp la cl nx ct wm rd mn tl) (hy : iRy th nx hr mn tl Ts Hs) (hm : oM4 (nm, lk, dl)) (hh : hr < 800000) {n : Nat} (h1 : 1 ≤ n) (h2 : n ≤ 60) : aOK hr (p_L_act_J614 (nI fl, nI lim, nI nr, nF len, nF tp, nF th, nF ta) (nI hr, nI a, wy, nI st, nI wr, nI sp, nI la, bF cl, nF nx, nF ct, bF fb, nF wm, bF rd) uT (nI mn, (fun i => nI (tl i / 9)), (fun i => nI (tl i % 9)), nF Ts, nF Hs) (nI nm, nF lk, nF dl) (nI hr, nI a, wy, nI st, nI wr, nI lim, nI sp, (fl, bF cl), bF fb, (fl, sCh len nx ct tp th), (nr, sRd nr ta wm rd), (nm, sMi nm lk dl), (mn, sPr mn tl Ts Hs tp th), sd) (nI n) v (nI 1)) := by
  obtain ⟨b, hb, e⟩ := below_ok v h1 (by omega)
  obtain ⟨A', B', sd', r, e1, e2, e3, e4⟩ := j_hours (uT := uT) (N := 1 + b) (g := (fl, lim, nr, len, tp, th, ta)) (fb := fb) (A := (hr, a, wy, st, wr, sp, la, cl, nx, ct, wm, rd)) (B := (mn, tl, Ts, Hs)) (M := (nm, lk, dl)) (sd := sd) (by omega) (by omega) ⟨h, hy, hm⟩ (show hr < 900000 by omega)
  have e1 : p_X4_passHours (nI fl, nI lim, nI nr, nF len, nF tp, nF th, nF ta) (nI hr, nI a, wy, nI st, nI wr, nI sp, nI la, bF cl, nF nx, nF ct, bF fb, nF wm, bF rd) uT (nI mn, (fun i => nI (tl i / 9)), (fun i => nI (tl i % 9)), nF Ts, nF Hs) (nI nm, nF lk, nF dl) (nI (1 + b)) = _ := e1
  have e2 : p_X5_behind (nI hr, nI a, wy, nI st, nI wr, nI lim, nI sp, (fl, bF cl), bF fb, (fl, sCh len nx ct tp th), (nr, sRd nr ta wm rd), (nm, sMi nm lk dl), (mn, sPr mn tl Ts Hs tp th), sd) (nI (1 + b)) = _ := e2
  have e4 : A'.1 = hr + (1 + b) := e4
  unfold p_L_act_J614
  rw [e, bd_sm, nI_add, e1, bd_sm, e2, bd_sm, if_pos rfl]
  exact ⟨_, fb, A', B', _, sd', rfl, e3, by omega⟩
theorem a_hours (h : iRx fl lim nr len tp th ta fb hr a wy st wr sp la cl nx ct wm rd mn tl) (hy : iRy th nx hr mn tl Ts Hs) (hm : oM4 (nm, lk, dl)) (hh : hr < 800000) : aOK hr (p_L_act_J595 (nI fl, nI lim, nI nr, nF len, nF tp, nF th, nF ta) (nI hr, nI a, wy, nI st, nI wr, nI sp, nI la, bF cl, nF nx, nF ct, bF fb, nF wm, bF rd) uT (nI mn, (fun i => nI (tl i / 9)), (fun i => nI (tl i % 9)), nF Ts, nF Hs) (nI nm, nF lk, nF dl) (nI hr, nI a, wy, nI st, nI wr, nI lim, nI sp, (fl, bF cl), bF fb, (fl, sCh len nx ct tp th), (nr, sRd nr ta wm rd), (nm, sMi nm lk dl), (mn, sPr mn tl Ts Hs tp th), sd) v) := by
  obtain ⟨b, hb, e⟩ := bel_9 v
  unfold p_L_act_J595
  rw [e, bd_sm]
  by_cases h0 : nI b = 0
  · rw [if_pos h0]
    exact a_hours_J (n := 60) h hy hm hh (by omega) (by omega)
  · rw [if_neg h0]
    exact a_hours_J (n := 5) h hy hm hh (by omega) (by omega)
/-- any act -/
theorem a_any (h : iRx fl lim nr len tp th ta fb hr a wy st wr sp la cl nx ct wm rd mn tl) (hy : iRy th nx hr mn tl Ts Hs) (hm : oM4 (nm, lk, dl)) (hh : hr < 800000) : aOK hr (p_L_act (nI fl, nI lim, nI nr, nF len, nF tp, nF th, nF ta) (nI hr, nI a, wy, nI st, nI wr, nI sp, nI la, bF cl, nF nx, nF ct, bF fb, nF wm, bF rd) uT (nI mn, (fun i => nI (tl i / 9)), (fun i => nI (tl i % 9)), nF Ts, nF Hs) (nI nm, nF lk, nF dl) (nI hr, nI a, wy, nI st, nI wr, nI lim, nI sp, (fl, bF cl), bF fb, (fl, sCh len nx ct tp th), (nr, sRd nr ta wm rd), (nm, sMi nm lk dl), (mn, sPr mn tl Ts Hs tp th), sd) v) := by
  have hfl := h.1
  obtain ⟨k, hk, e1⟩ := below_ok (v >>> ((1 : Int32) &&& 31)) (n := fl) (by omega) (by omega)
  obtain ⟨b, hb, e2⟩ := bel_24 (v >>> ((9 : Int32) &&& 31))
  unfold p_L_act
  rw [e1, bd_sm, e2, bd_sm]
  by_cases h19 : 19 < b
  · rw [if_pos (Or.inr (by rw [nI_toInt (by omega)]; omega))]
    exact a_hours h hy hm hh
  · rw [if_neg (by rw [nI_toInt (by omega)]; omega)]
    have hcase : b = 0 ∨ b = 1 ∨ b = 2 ∨ b = 3 ∨ b = 4 ∨ b = 5 ∨ b = 6 ∨ b = 7 ∨ b = 8 ∨ b = 9 ∨ b = 10 ∨ b = 11 ∨ b = 12 ∨ b = 13 ∨ b = 14 ∨ b = 15 ∨ b = 16 ∨ b = 17 ∨ b = 18 ∨ b = 19 := by omega
    rcases hcase with rfl | rfl | rfl | rfl | rfl | rfl | rfl | rfl | rfl | rfl | rfl | rfl | rfl | rfl | rfl | rfl | rfl | rfl | rfl | rfl
    · rw [if_pos (by decide +kernel)]
      exact a_begin h hy hm
    · rw [if_neg (by decide +kernel), if_pos (by decide +kernel)]
      exact a_turn h hy hm
    · rw [if_neg (by decide +kernel), if_neg (by decide +kernel), if_pos (by decide +kernel)]
      exact a_turn h hy hm
    · rw [if_neg (by decide +kernel), if_neg (by decide +kernel), if_neg (by decide +kernel), if_pos (by decide +kernel)]
      exact a_limit h hy hm
    · rw [if_neg (by decide +kernel), if_neg (by decide +kernel), if_neg (by decide +kernel), if_neg (by decide +kernel), if_pos (by decide +kernel)]
      exact a_reader h hy hm
    · rw [if_neg (by decide +kernel), if_neg (by decide +kernel), if_neg (by decide +kernel), if_neg (by decide +kernel), if_neg (by decide +kernel), if_pos (by decide +kernel)]
      exact a_reader h hy hm
    · rw [if_neg (by decide +kernel), if_neg (by decide +kernel), if_neg (by decide +kernel), if_neg (by decide +kernel), if_neg (by decide +kernel), if_neg (by decide +kernel), if_pos (by decide +kernel)]
      exact a_mirror h hy hm
    · rw [if_neg (by decide +kernel), if_neg (by decide +kernel), if_neg (by decide +kernel), if_neg (by decide +kernel), if_neg (by decide +kernel), if_neg (by decide +kernel), if_neg (by decide +kernel), if_pos (by decide +kernel)]
      exact a_repair h hy hm
    · rw [if_neg (by decide +kernel), if_neg (by decide +kernel), if_neg (by decide +kernel), if_neg (by decide +kernel), if_neg (by decide +kernel), if_neg (by decide +kernel), if_neg (by decide +kernel), if_neg (by decide +kernel), if_pos (by decide +kernel)]
      exact a_para h hy hm hk
    · rw [if_neg (by decide +kernel), if_neg (by decide +kernel), if_neg (by decide +kernel), if_neg (by decide +kernel), if_neg (by decide +kernel), if_neg (by decide +kernel), if_neg (by decide +kernel), if_neg (by decide +kernel), if_neg (by decide +kernel), if_pos (by decide +kernel)]
      exact a_para h hy hm hk
    · rw [if_neg (by decide +kernel), if_neg (by decide +kernel), if_neg (by decide +kernel), if_neg (by decide +kernel), if_neg (by decide +kernel), if_neg (by decide +kernel), if_neg (by decide +kernel), if_neg (by decide +kernel), if_neg (by decide +kernel), if_neg (by decide +kernel), if_pos (by decide +kernel)]
      exact a_para h hy hm hk
    · rw [if_neg (by decide +kernel), if_neg (by decide +kernel), if_neg (by decide +kernel), if_neg (by decide +kernel), if_neg (by decide +kernel), if_neg (by decide +kernel), if_neg (by decide +kernel), if_neg (by decide +kernel), if_neg (by decide +kernel), if_neg (by decide +kernel), if_neg (by decide +kernel), if_pos (by decide +kernel)]
      exact a_para h hy hm hk
    · rw [if_neg (by decide +kernel), if_neg (by decide +kernel), if_neg (by decide +kernel), if_neg (by decide +kernel), if_neg (by decide +kernel), if_neg (by decide +kernel), if_neg (by decide +kernel), if_neg (by decide +kernel), if_neg (by decide +kernel), if_neg (by decide +kernel), if_neg (by decide +kernel), if_neg (by decide +kernel), if_pos (by decide +kernel)]
      exact a_para h hy hm hk
    · rw [if_neg (by decide +kernel), if_neg (by decide +kernel), if_neg (by decide +kernel), if_neg (by decide +kernel), if_neg (by decide +kernel), if_neg (by decide +kernel), if_neg (by decide +kernel), if_neg (by decide +kernel), if_neg (by decide +kernel), if_neg (by decide +kernel), if_neg (by decide +kernel), if_neg (by decide +kernel), if_neg (by decide +kernel), if_pos (by decide +kernel)]
      exact a_para h hy hm hk
    · rw [if_neg (by decide +kernel), if_neg (by decide +kernel), if_neg (by decide +kernel), if_neg (by decide +kernel), if_neg (by decide +kernel), if_neg (by decide +kernel), if_neg (by decide +kernel), if_neg (by decide +kernel), if_neg (by decide +kernel), if_neg (by decide +kernel), if_neg (by decide +kernel), if_neg (by decide +kernel), if_neg (by decide +kernel), if_neg (by decide +kernel), if_pos (by decide +kernel)]
      exact a_call h hy hm hk
    · rw [if_neg (by decide +kernel), if_neg (by decide +kernel), if_neg (by decide +kernel), if_neg (by decide +kernel), if_neg (by decide +kernel), if_neg (by decide +kernel), if_neg (by decide +kernel), if_neg (by decide +kernel), if_neg (by decide +kernel), if_neg (by decide +kernel), if_neg (by decide +kernel), if_neg (by decide +kernel), if_neg (by decide +kernel), if_neg (by decide +kernel), if_neg (by decide +kernel), if_pos (by decide +kernel)]
      exact a_call h hy hm hk
    · rw [if_neg (by decide +kernel), if_neg (by decide +kernel), if_neg (by decide +kernel), if_neg (by decide +kernel), if_neg (by decide +kernel), if_neg (by decide +kernel), if_neg (by decide +kernel), if_neg (by decide +kernel), if_neg (by decide +kernel), if_neg (by decide +kernel), if_neg (by decide +kernel), if_neg (by decide +kernel), if_neg (by decide +kernel), if_neg (by decide +kernel), if_neg (by decide +kernel), if_neg (by decide +kernel), if_pos (by decide +kernel)]
      exact a_call h hy hm hk
    · rw [if_neg (by decide +kernel), if_neg (by decide +kernel), if_neg (by decide +kernel), if_neg (by decide +kernel), if_neg (by decide +kernel), if_neg (by decide +kernel), if_neg (by decide +kernel), if_neg (by decide +kernel), if_neg (by decide +kernel), if_neg (by decide +kernel), if_neg (by decide +kernel), if_neg (by decide +kernel), if_neg (by decide +kernel), if_neg (by decide +kernel), if_neg (by decide +kernel), if_neg (by decide +kernel), if_neg (by decide +kernel), if_pos (by decide +kernel)]
      exact a_call h hy hm hk
    · rw [if_neg (by decide +kernel), if_neg (by decide +kernel), if_neg (by decide +kernel), if_neg (by decide +kernel), if_neg (by decide +kernel), if_neg (by decide +kernel), if_neg (by decide +kernel), if_neg (by decide +kernel), if_neg (by decide +kernel), if_neg (by decide +kernel), if_neg (by decide +kernel), if_neg (by decide +kernel), if_neg (by decide +kernel), if_neg (by decide +kernel), if_neg (by decide +kernel), if_neg (by decide +kernel), if_neg (by decide +kernel), if_neg (by decide +kernel), if_pos (by decide +kernel)]
      exact a_call h hy hm hk
    · rw [if_neg (by decide +kernel), if_neg (by decide +kernel), if_neg (by decide +kernel), if_neg (by decide +kernel), if_neg (by decide +kernel), if_neg (by decide +kernel), if_neg (by decide +kernel), if_neg (by decide +kernel), if_neg (by decide +kernel), if_neg (by decide +kernel), if_neg (by decide +kernel), if_neg (by decide +kernel), if_neg (by decide +kernel), if_neg (by decide +kernel), if_neg (by decide +kernel), if_neg (by decide +kernel), if_neg (by decide +kernel), if_neg (by decide +kernel), if_neg (by decide +kernel), if_pos (by decide +kernel)]
      exact a_call h hy hm hk
end
/-- .. said of a state as a whole -/
theorem act_ok {g : tG} {fb : Nat → Bool} {A : tA} {B : tB} {M : tM} {sd : Int32} {uT : tX0} (hR : iR g fb A B M) (hh : A.1 < 800000) (v : Int32) : aOK A.1 (p_L_act (iH g) (iC fb A) uT (iI B) (iM M) (iS g fb A B M sd) v) := a_any hR.1 hR.2.1 hR.2.2 hh
