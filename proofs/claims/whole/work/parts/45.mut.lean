/-! THE PURE PART: what changes -/
def zN : Nat → Nat := fun _ => 0
def zB : Nat → Bool := fun _ => false
section
variable {h0 h1 h2 : Int32} {x x2 x3 h4 h5 h6 : Nat → Int32}
theorem cC_clear : ∀ n i fuel : Nat, i + n = 12 → n < fuel → p_X1_clear_L7 fuel (h0, h1, h2, mixF (nF zN) x i, h4, h5, h6) (nI i) = some (h0, h1, h2, mixF (nF zN) x 12, h4, h5, h6) := by
  intro n
  induction n with
  | zero =>
    intro i fuel hi hf
    obtain ⟨f, rfl⟩ : ∃ f, fuel = f + 1 := ⟨fuel - 1, by omega⟩
    rw [p_X1_clear_L7, show i = 12 by omega, if_pos (by decide +kernel)]
  | succ n ih =>
    intro i fuel hi hf
    obtain ⟨f, rfl⟩ : ∃ f, fuel = f + 1 := ⟨fuel - 1, by omega⟩
    rw [p_X1_clear_L7, L12, if_neg (mt (nI_leI (by omega) (by omega)).mp (by omega)), gd_nI _ (by omega) (by omega), nI_cl (by omega), L0, L1, nI_add]
    have e := mixF_s (nF zN) x i
    rw [show nF zN i = nI 0 from rfl] at e
    rw [← L0] at e ⊢
    rw [L0] at e ⊢
    show p_X1_clear_L7 f (h0, h1, h2, upd (mixF (nF zN) x i) i (nI 0), h4, h5, h6) (nI (i + 1)) = _
    rw [e]
    exact ih (i + 1) f (by omega) (by omega)
end
section
variable {hr aa wy st wr sp la : Int32} {x x2 x3 q4 q5 q6 : Nat → Int32} {uH : tX1}
theorem cC_over : ∀ n i fuel : Nat, i + n = 12 → n < fuel → p_X0_startOver_L32 fuel (hr, aa, wy, st, wr, sp, la, mixF (bF zB) x i, mixF (nF zN) x2 i, mixF (nF zN) x3 i, q4, q5, q6) uH (nI i) = some (hr, aa, wy, st, wr, sp, la, mixF (bF zB) x 12, mixF (nF zN) x2 12, mixF (nF zN) x3 12, q4, q5, q6) := by
  intro n
  induction n with
  | zero =>
    intro i fuel hi hf
    obtain ⟨f, rfl⟩ : ∃ f, fuel = f + 1 := ⟨fuel - 1, by omega⟩
    rw [p_X0_startOver_L32, show i = 12 by omega, if_pos (by decide +kernel)]
  | succ n ih =>
    intro i fuel hi hf
    obtain ⟨f, rfl⟩ : ∃ f, fuel = f + 1 := ⟨fuel - 1, by omega⟩
    rw [p_X0_startOver_L32, L12, if_neg (mt (nI_leI (by omega) (by omega)).mp (by omega)), gd_nI _ (by omega) (by omega), nI_cl (by omega), nar_0, L0, L1, nI_add]
    have e1 : upd (mixF (bF zB) x i) i (bI false) = mixF (bF zB) x (i + 1) := mixF_s (bF zB) x i
    have e2 : upd (mixF (nF zN) x2 i) i (nI 0) = mixF (nF zN) x2 (i + 1) := mixF_s (nF zN) x2 i
    have e3 : upd (mixF (nF zN) x3 i) i (nI 0) = mixF (nF zN) x3 (i + 1) := mixF_s (nF zN) x3 i
    show p_X0_startOver_L32 f (hr, aa, wy, st, wr, sp, la, upd (mixF (bF zB) x i) i (bI false), upd (mixF (nF zN) x2 i) i (nI 0), upd (mixF (nF zN) x3 i) i (nI 0), q4, q5, q6) uH (nI (i + 1)) = _
    rw [e1, e2, e3]
    exact ih (i + 1) f (by omega) (by omega)
end
section
variable {hr aa wy st wr sp cm rm mn : Int32} {wm x x2 x3 kp l8 l9 lA lB lC lD lE lF : Nat → Int32} {sd tw fl lim fb nr nm : Int32}
theorem cL_beg6 (f : Nat) : p_X5_begin_L69 (f + 1 + 1 + 1 + 1 + 1 + 1 + 1) (mkN hr aa wy st wr sp cm rm mn x x2 wm, kp, sd, tw, fl, lim, fb, x3, l8, l9, nr, lA, nm, lB, lC, lD, lE, lF) (nI 1) = bd (p_X5_ones rm) (fun v6 => some (v6, mkN hr (nI 0) (nI 0) (nI 0) (nI 0) (nI 0) (nI 0) rm (nI 0) x x2 wm, kp, sd, tw, fl, lim, fb, x3, l8, l9, nr, lA, nm, lB, lC, lD, lE, lF)) := by
  have e6 : (6 : Int32) = nI 6 := by decide +kernel
  rw [p_X5_begin_L69, e6, if_neg (mt (nI_ltI (by omega) (by omega)).mp (by omega)), gd_nI _ (by omega) (by omega), nI_cl (by omega), upN_1, L1, nI_add]
  rw [p_X5_begin_L69, e6, if_neg (mt (nI_ltI (by omega) (by omega)).mp (by omega)), gd_nI _ (by omega) (by omega), nI_cl (by omega), upN_2, L1, nI_add]
  rw [p_X5_begin_L69, e6, if_neg (mt (nI_ltI (by omega) (by omega)).mp (by omega)), gd_nI _ (by omega) (by omega), nI_cl (by omega), upN_3, L1, nI_add]
  rw [p_X5_begin_L69, e6, if_neg (mt (nI_ltI (by omega) (by omega)).mp (by omega)), gd_nI _ (by omega) (by omega), nI_cl (by omega), upN_4, L1, nI_add]
  rw [p_X5_begin_L69, e6, if_neg (mt (nI_ltI (by omega) (by omega)).mp (by omega)), gd_nI _ (by omega) (by omega), nI_cl (by omega), upN_5, L1, nI_add]
  rw [p_X5_begin_L69, e6, if_neg (mt (nI_ltI (by omega) (by omega)).mp (by omega)), gd_nI _ (by omega) (by omega), nI_cl (by omega), upN_6, L1, nI_add]
  rw [p_X5_begin_L69, e6, if_pos ((nI_ltI (by omega) (by omega)).mpr (by omega)), upN_8, mkN_7, L0]
theorem cL_beg : ∀ n i fuel : Nat, i + n = 12 → n < fuel → p_X5_begin_L28 fuel (mkN hr aa wy st wr sp cm rm mn (mixF (nF zN) x i) (mixF (nF zN) x2 i) wm, kp, sd, tw, fl, lim, fb, mixF (nF zN) x3 i, l8, l9, nr, lA, nm, lB, lC, lD, lE, lF) (nI i) = bd (p_X5_ones rm) (fun v6 => some (v6, mkN hr (nI 0) (nI 0) (nI 0) (nI 0) (nI 0) (nI 0) rm (nI 0) (mixF (nF zN) x 12) (mixF (nF zN) x2 12) wm, kp, sd, tw, fl, lim, fb, mixF (nF zN) x3 12, l8, l9, nr, lA, nm, lB, lC, lD, lE, lF)) := by
  intro n
  induction n with
  | zero =>
    intro i fuel hi hf
    obtain ⟨f, rfl⟩ : ∃ f, fuel = f + 1 := ⟨fuel - 1, by omega⟩
    rw [p_X5_begin_L28, show i = 12 by omega, if_pos (by decide +kernel), L1]
    exact cL_beg6 193
  | succ n ih =>
    intro i fuel hi hf
    obtain ⟨f, rfl⟩ : ∃ f, fuel = f + 1 := ⟨fuel - 1, by omega⟩
    rw [p_X5_begin_L28, L12, if_neg (mt (nI_leI (by omega) (by omega)).mp (by omega)), L9, L21, L0, L1, nI_add, nI_add, nI_add, gd_nI _ (show i < 12 by omega) (by omega), gd_nI _ (show 9 + i < 41 by omega) (by omega), gd_nI _ (show 21 + i < 41 by omega) (by omega), nI_cl (show i < 2147483648 by omega), nI_cl (show 9 + i < 2147483648 by omega), nI_cl (show 21 + i < 2147483648 by omega), upN_n (by omega), upN_c (by omega)]
    have e1 : upd (mixF (nF zN) x i) i (nI 0) = mixF (nF zN) x (i + 1) := mixF_s (nF zN) x i
    have e2 : upd (mixF (nF zN) x2 i) i (nI 0) = mixF (nF zN) x2 (i + 1) := mixF_s (nF zN) x2 i
    have e3 : upd (mixF (nF zN) x3 i) i (nI 0) = mixF (nF zN) x3 (i + 1) := mixF_s (nF zN) x3 i
    show p_X5_begin_L28 f (mkN hr aa wy st wr sp cm rm mn (upd (mixF (nF zN) x i) i (nI 0)) (upd (mixF (nF zN) x2 i) i (nI 0)) wm, kp, sd, tw, fl, lim, fb, upd (mixF (nF zN) x3 i) i (nI 0), l8, l9, nr, lA, nm, lB, lC, lD, lE, lF) (nI (i + 1)) = _
    rw [e1, e2, e3]
    exact ih (i + 1) f (by omega) (by omega)
end
section
variable {g : tG} {fb : Nat → Bool} {A : tA} {B : tB} {uI : tX2} {kp : Nat → Int32} {sd tw : Int32} {M : tM} {uT : tX0}
theorem m_begin (hR : iR g fb A B) (x : Int32) : (∃ (v : Int32) (g' : tG) (A' : tA) (B' : tB) (uI' : tX2), p_X4_begin (iH g) (iC fb A) uT uI (iM M) x = some (.inr (v, iH g', iC fb A', uI')) ∧ p_X5_begin (iL g fb A B kp sd tw M) x = some (v, iL g' fb A' B' kp sd 0 M) ∧ iR g' fb A' B' ∧ uR B' uI' ∧ A'.1 = A.1) ∨ (p_X4_begin (iH g) (iC fb A) uT uI (iM M) x = some (.inl xIAE) ∧ ∃ v : Int32, p_X5_begin (iL g fb A B kp sd tw M) x = some (v, (iL g fb A B kp sd 1 M))) := by
  have e2 : (2 : Int32) = nI 2 := L2
  rcases b_arg 2 12 (by omega) (by omega) x with ⟨k, k1, k2, rfl, n1⟩ | ⟨n0, n1⟩
  · obtain ⟨fl, lim, nr, len, tp, th, ta⟩ := g
    obtain ⟨hr, a, wy, st, wr, sp, la, cl, nx, ct, wm, rd⟩ := A
    obtain ⟨mn, tl, Ts, Hs⟩ := B
    obtain ⟨nm, lk, dl⟩ := M
    obtain ⟨u1, u2, u3, u4, u5⟩ := uI
    have h : iRx fl lim nr len tp th ta fb hr a wy st wr sp la cl nx ct wm rd mn tl := hR
    obtain ⟨⟨h1, h1b⟩, ⟨h2, h2b⟩, h3, h4, h5, h6, h7, h8, h9, h10, h11, h12, h13, h14, h15, h16, h17, h18, h19, h20, h21, h22, h23⟩ := h
    have z1 : mixF (nF zN) (nF len) 12 = nF zN := mixF_e (fun j hj => by show nI (len j) = 0; rw [h5 j (by omega)]; rfl) (fun j hj => rfl)
    have z2 : mixF (bF zB) (bF cl) 12 = bF zB := mixF_e (fun j hj => by show bI (cl j) = 0; rw [h16 j (by omega)]; rfl) (fun j hj => rfl)
    have z3 : mixF (nF zN) (nF nx) 12 = nF zN := mixF_e (fun j hj => by show nI (nx j) = 0; rw [show nx j = 0 by have := h17 j; have := h5 j (by omega); omega]; rfl) (fun j hj => rfl)
    have z4 : mixF (nF zN) (nF ct) 12 = nF zN := mixF_e (fun j hj => by show nI (ct j) = 0; rw [show ct j = 0 by have := h18 j; have := h17 j; have := h5 j (by omega); omega]; rfl) (fun j hj => rfl)
    have hs0 : sm zN 12 = 0 := rfl
    have hRn : iR (k, lim, nr, zN, tp, th, ta) fb (hr, 0, nI 0, 0, 0, 0, 0, zB, zN, zN, wm, rd) (0, tl, Ts, Hs) := by
      refine ⟨⟨k1, k2⟩, ⟨h2, h2b⟩, h3, fun f => Nat.zero_le _, fun f _ => rfl, h6, h7, h8, h9, ?_, Or.inl rfl, by show 0 ≤ 25; omega, Nat.zero_le _, Nat.zero_le _, rfl, fun f _ => rfl, fun f => Nat.le_refl _, fun f => Nat.le_refl _, rfl, h20, h21, h22, fun i hi => absurd hi (Nat.not_lt_zero i)⟩
      show 0 < k
      omega
    refine Or.inl ⟨nI (cnt rd 8), (k, lim, nr, zN, tp, th, ta), (hr, 0, nI 0, 0, 0, 0, 0, zB, zN, zN, wm, rd), (0, tl, Ts, Hs), (nI 0, u2, u3, u4, u5), ?_, ?_, hRn, ⟨rfl, fun i hi => absurd hi (Nat.not_lt_zero i)⟩, rfl⟩
    · have c1 : p_X1_clear (iH (fl, lim, nr, len, tp, th, ta)) (nI k) = some (iH (k, lim, nr, zN, tp, th, ta)) := by
        have c := cC_clear (h0 := nI k) (h1 := nI lim) (h2 := nI nr) (x := nF len) (h4 := nF tp) (h5 := nF th) (h6 := nF ta) 12 0 200 (by omega) (by omega)
        rw [mixF_0, z1] at c
        unfold p_X1_clear
        rw [L0]
        exact c
      have c2 : p_X0_startOver (iC fb (hr, a, wy, st, wr, sp, la, cl, nx, ct, wm, rd)) (iH (k, lim, nr, zN, tp, th, ta)) = some (iC fb (hr, 0, nI 0, 0, 0, 0, 0, zB, zN, zN, wm, rd)) := by
        have c := cC_over (hr := nI hr) (aa := nI 0) (wy := nI 0) (st := nI 0) (wr := nI 0) (sp := nI 0) (la := nI 0) (x := bF cl) (x2 := nF nx) (x3 := nF ct) (q4 := bF fb) (q5 := nF wm) (q6 := bF rd) (uH := iH (k, lim, nr, zN, tp, th, ta)) 12 0 200 (by omega) (by omega)
        rw [mixF_0, mixF_0, mixF_0, z2, z3, z4] at c
        unfold p_X0_startOver
        rw [L0]
        exact c
      unfold p_X4_begin
      rw [L2, L12, if_neg (mt (nI_ltI (by omega) (by omega)).mp (by omega)), if_pos ((nI_leI (by omega) (by omega)).mpr k2), c1, bd_sm, c2, bd_sm, c_subs hRn, bd_sm, L0]
    · unfold p_X5_begin
      rw [L2, L12, n1, bd_sm, if_neg (bI_ne rfl)]
      have c := cL_beg (hr := nI hr) (aa := nI a) (wy := wy) (st := nI st) (wr := nI wr) (sp := nI sp) (cm := mI cl 12) (rm := mI rd 8) (mn := nI mn) (x := nF nx) (x2 := nF ct) (x3 := nF len) (wm := nF wm) (kp := kp) (sd := sd) (tw := 0) (fl := nI k) (lim := nI lim) (fb := mI fb 8) (l8 := nF tp) (l9 := nF th) (nr := nI nr) (lA := nF ta) (nm := nI nm) (lB := nF lk) (lC := nF dl) (lD := nF tl) (lE := Ts) (lF := Hs) 12 0 200 (by omega) (by omega)
      rw [mixF_0, mixF_0, mixF_0, z1, z3, z4, c_ones (by omega), bd_sm] at c
      have z0 : nI 0 = mI zB 12 := by rw [← L0]; exact ((mI_0 (g := zB) (n := 12) (by omega)).mpr (fun i _ => rfl)).symm
      rw [L0]
      refine c.trans ?_
      show some (nI (cnt rd 8), mkN (nI hr) (nI 0) (nI 0) (nI 0) (nI 0) (nI 0) (nI 0) (mI rd 8) (nI 0) (nF zN) (nF zN) (nF wm), _) = some (nI (cnt rd 8), mkN (nI hr) (nI 0) (nI 0) (nI 0) (nI 0) (nI 0) (mI zB 12) (mI rd 8) (nI 0) (nF zN) (nF zN) (nF wm), _)
      rw [← z0]
      rfl
  · refine Or.inr ⟨?_, 0, ?_⟩
    · unfold p_X4_begin
      rcases n0 with n0 | ⟨n0, n3⟩
      · rw [L2, if_pos n0]
      · rw [L2, L12, if_neg n0, if_neg n3]
    · unfold p_X5_begin
      rw [L2, L12, n1, bd_sm, if_pos (bI_eq rfl)]
      rfl
theorem m_setLimit (hR : iR g fb A B) (x : Int32) : (∃ (v : Int32) (g' : tG), p_X4_setLimit (iH g) (iC fb A) uT uI (iM M) x = some (.inr (v, iH g')) ∧ p_X5_setLimit (iL g fb A B kp sd tw M) x = some (v, iL g' fb A B kp sd 0 M) ∧ iR g' fb A B) ∨ (p_X4_setLimit (iH g) (iC fb A) uT uI (iM M) x = some (.inl xIAE) ∧ ∃ v : Int32, p_X5_setLimit (iL g fb A B kp sd tw M) x = some (v, (iL g fb A B kp sd 1 M))) := by
  rcases b_arg 1 99 (by omega) (by omega) x with ⟨k, k1, k2, rfl, n1⟩ | ⟨n0, n1⟩
  · obtain ⟨fl, lim, nr, len, tp, th, ta⟩ := g
    obtain ⟨⟨h1, h1b⟩, ⟨h2, h2b⟩, h3⟩ := hR
    refine Or.inl ⟨nI lim, (fl, k, nr, len, tp, th, ta), ?_, ?_, ⟨⟨h1, h1b⟩, ⟨k1, k2⟩, h3⟩⟩
    · unfold p_X4_setLimit
      rw [L1, L99, if_neg (mt (nI_ltI (by omega) (by omega)).mp (by omega)), if_pos ((nI_leI (by omega) (by omega)).mpr k2)]
      rfl
    · unfold p_X5_setLimit
      rw [show p_X5_isIn (nI k) 1 99 = some (bI true) by rw [L1, L99]; exact n1, bd_sm, if_neg (bI_ne rfl)]
      rfl
  · refine Or.inr ⟨?_, 0, ?_⟩
    · unfold p_X4_setLimit
      rcases n0 with n0 | ⟨n0, n3⟩
      · rw [L1, if_pos n0]
      · rw [L1, L99, if_neg n0, if_neg n3]
    · unfold p_X5_setLimit
      rw [show p_X5_isIn x 1 99 = some (bI false) by rw [L1, L99]; exact n1, bd_sm, if_pos (bI_eq rfl)]
      rfl
theorem m_repair (hR : iR g fb A B) : ∃ (v : Int32) (A' : tA), p_X4_repair (iH g) (iC fb A) uT uI (iM M) = some (v, iC fb A') ∧ p_X5_repair (iL g fb A B kp sd tw M) = some (v, iL g fb A' B kp sd 0 M) ∧ iR g fb A' B ∧ A'.1 = A.1 := by
  obtain ⟨hr, a, wy, st, wr, sp, la, cl, nx, ct, wm, rd⟩ := A
  obtain ⟨h1, h2, h3, h4, h5, h6, h7, h8, h9, h10, h11, h12, h13, h14, hrest⟩ := hR
  refine ⟨nI st, (hr, a, wy, 0, 0, sp, la, cl, nx, ct, wm, rd), ?_, ?_, ⟨h1, h2, h3, h4, h5, h6, h7, h8, h9, h10, h11, Nat.zero_le _, Nat.zero_le _, h14, hrest⟩, rfl⟩
  · unfold p_X4_repair
    rfl
  · unfold p_X5_repair
    show some (nI st, upd (upd (mkN (nI hr) (nI a) wy (nI st) (nI wr) (nI sp) (mI cl 12) (mI rd 8) (nI B.1) (nF nx) (nF ct) (nF wm)) 3 0) 4 0, _) = _
    rw [upN_3, upN_4]
    rfl
theorem m_call (hR : iR g fb A B) (x : Int32) : (∃ (b : Bool) (A' : tA), p_X4_call (iH g) (iC fb A) uT uI (iM M) x = some (.inr (bI b, iC fb A')) ∧ p_X5_call (iL g fb A B kp sd tw M) x = some (bI b, iL g fb A' B kp sd 0 M) ∧ iR g fb A' B ∧ A'.1 = A.1) ∨ (p_X4_call (iH g) (iC fb A) uT uI (iM M) x = some (.inl xIOB) ∧ ∃ v : Int32, p_X5_call (iL g fb A B kp sd tw M) x = some (v, (iL g fb A B kp sd 1 M))) := by
  have hg := hR.1.2
  rcases f_arg g hg x with ⟨k, hk, rfl, n2⟩ | ⟨n1, n2⟩
  · have hb : ∀ b : Bool, bI b &&& 1 = bI b := bI_and
    refine Or.inl ⟨!(A.2.2.2.2.2.2.2.1 k), Acl A (ud A.2.2.2.2.2.2.2.1 k true), ?_, ?_, R_call hR hk, rfl⟩
    · unfold p_X4_call p_X4_call_J22
      rw [bT_r (c_need hk hg), gd_nI _ (by omega) (by omega), gd_nI _ (by omega) (by omega), gd_nI _ (by omega) (by omega), nI_cl (by omega), nar_1, show (iC fb A).2.2.2.2.2.2.2.1 = bF A.2.2.2.2.2.2.2.1 from rfl, upd_bF, bF_app]
      cases A.2.2.2.2.2.2.2.1 k
      · rw [if_pos (bI_eq rfl), gq_in (by decide +kernel)]; rfl
      · rw [if_neg (bI_ne rfl), gq_in (by decide +kernel)]; rfl
    · unfold p_X5_call p_X5_call_J14 p_X5_call_J45
      rw [n2 _ (by rfl), bd_sm, if_neg (bI_ne rfl), if_pos (by decide +kernel), cL_has6 (cl := A.2.2.2.2.2.2.2.1) (by rfl) (by omega), bd_sm]
      have e6 : (iL g fb A B kp sd tw M).1 6 = mI A.2.2.2.2.2.2.2.1 12 := rfl
      have eu : upd (iL g fb A B kp sd tw M).1 6 (mI (ud A.2.2.2.2.2.2.2.1 k true) 12) = (iL g fb (Acl A (ud A.2.2.2.2.2.2.2.1 k true)) B kp sd 0 M).1 := upN_6
      cases hc : A.2.2.2.2.2.2.2.1 k
      · rw [if_pos (bI_eq rfl), gq_in (by decide +kernel)]
        show some ((1 : Int32), upd (iL g fb A B kp sd tw M).1 6 ((iL g fb A B kp sd tw M).1 6 ||| ((1 : Int32) <<< (nI k &&& 31))), _) = _
        rw [e6, L1, mI_set1 (by omega) (by omega), eu]
        rw [← L1]
        rfl
      · rw [if_neg (bI_ne rfl), gq_in (by decide +kernel)]
        show some ((0 : Int32), upd (iL g fb A B kp sd tw M).1 6 ((iL g fb A B kp sd tw M).1 6 ||| ((1 : Int32) <<< (nI k &&& 31))), _) = _
        rw [e6, L1, mI_set1 (by omega) (by omega), eu]
        rfl
  · refine Or.inr ⟨?_, 0, ?_⟩
    · unfold p_X4_call
      rw [bT_l (n1 _ _ _ _)]
    · unfold p_X5_call p_X5_call_J14
      rw [n2 _ (by rfl), bd_sm, if_pos (bI_eq rfl), if_neg (by decide +kernel)]
      rfl
theorem R_flip {t : Nat} (hR : iR g fb A B) (ht : t < 8) (b : Bool) : iR g (ud fb t b) A B := by
  obtain ⟨h1, h2, h3, h4, h5, h6, h7, h8, h9, hrest⟩ := hR
  refine ⟨h1, h2, h3, h4, h5, h6, h7, h8, fun k hk => ?_, hrest⟩
  show ud fb t b k = false
  rw [ud_ne _ _ (by omega)]
  exact h9 k hk
theorem m_turn (hR : iR g fb A B) (x : Int32) : (∃ (b : Bool) (fb' : Nat → Bool), p_X4_turnTopic (iH g) (iC fb A) uT uI (iM M) x = some (.inr (bI b, iC fb' A)) ∧ p_X5_turnTopic (iL g fb A B kp sd tw M) x = some (bI b, iL g fb' A B kp sd 0 M) ∧ iR g fb' A B) ∨ (p_X4_turnTopic (iH g) (iC fb A) uT uI (iM M) x = some (.inl xIOB) ∧ ∃ v : Int32, p_X5_turnTopic (iL g fb A B kp sd tw M) x = some (v, (iL g fb A B kp sd 1 M))) := by
  rcases t_arg x with ⟨k, hk, rfl, n0, n1, n2⟩ | ⟨n0, n1, n2⟩
  · refine Or.inl ⟨!(fb k), ud fb k (!(fb k)), ?_, ?_, R_flip hR hk _⟩
    · unfold p_X4_turnTopic p_X4_turnTopic_J29
      rw [bT_r n1, gd_nI _ (by omega) (by omega), gd_nI _ (by omega) (by omega), gd_nI _ (by omega) (by omega), gd_nI _ (by omega) (by omega), gd_nI _ (by omega) (by omega), nI_cl (by omega), nar_0, nar_1, show (iC fb A).2.2.2.2.2.2.2.2.2.2.1 = bF fb from rfl, upd_bF, upd_bF, bF_app, bF_app, bF_app, ud_at, ud_at]
      cases fb k
      · rw [if_pos (bI_eq rfl), gq_in (by decide +kernel)]; rfl
      · rw [if_neg (bI_ne rfl), gq_in (by decide +kernel)]; rfl
    · unfold p_X5_turnTopic p_X5_turnTopic_J13
      rw [n2, bd_sm, if_neg (bI_ne rfl), if_pos (by decide +kernel), show (iL g fb A B kp sd tw M).2.2.2.2.2.2.1 = mI fb 8 from rfl, L1, mI_flip1 (by omega) hk, has8 hk, bd_sm, ud_at, ← L1, gq_in (bI_and _)]
      rfl
  · refine Or.inr ⟨?_, 0, ?_⟩
    · unfold p_X4_turnTopic
      rw [bT_l n1]
    · unfold p_X5_turnTopic p_X5_turnTopic_J13
      rw [n2, bd_sm, if_pos (bI_eq rfl), if_neg (by decide +kernel)]
      rfl
end
