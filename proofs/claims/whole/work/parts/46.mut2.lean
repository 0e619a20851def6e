/-! THE PURE PART: what changes, part two -/
section
variable {g : tG} {fb : Nat → Bool} {A : tA} {B : tB} {uI : tX2} {kp : Nat → Int32} {sd tw : Int32} {M : tM} {uT : tX0}
theorem R_addP {k t w : Nat} (hR : iR g fb A B) (hk : k < g.1) (hl : g.2.2.2.1 k < 9) (ht : t < 8) (hw : w ≤ 9) : iR (g.1, g.2.1, g.2.2.1, ud g.2.2.2.1 k (g.2.2.2.1 k + 1), ud g.2.2.2.2.1 (9 * k + g.2.2.2.1 k) t, ud g.2.2.2.2.2.1 (9 * k + g.2.2.2.1 k) w, g.2.2.2.2.2.2) fb A B := by
  obtain ⟨fl, lim, nr, len, tp, th, ta⟩ := g
  obtain ⟨hr, a, wy, st, wr, sp, la, cl, nx, ct, wm, rd⟩ := A
  obtain ⟨mn, tl, Ts, Hs⟩ := B
  have h : iRx fl lim nr len tp th ta fb hr a wy st wr sp la cl nx ct wm rd mn tl := hR
  have hk : k < fl := hk
  have hl : len k < 9 := hl
  obtain ⟨⟨h1, h1b⟩, ⟨h2, h2b⟩, h3, h4, h5, h6, h7, h8, h9, h10, h11, h12, h13, h14, h15, h16, h17, h18, h19, h20, h21, h22, h23⟩ := h
  show iRx fl lim nr (ud len k (len k + 1)) (ud tp (9 * k + len k) t) (ud th (9 * k + len k) w) ta fb hr a wy st wr sp la cl nx ct wm rd mn tl
  have hge : ∀ f, len f ≤ ud len k (len k + 1) f := fun f => by
    by_cases e : f = k
    · subst e; rw [ud_at]; omega
    · rw [ud_ne _ _ e]; exact Nat.le_refl _
  refine ⟨⟨h1, h1b⟩, ⟨h2, h2b⟩, h3, fun f => ?_, fun f hf => ?_, fun i => ?_, fun i => ?_, h8, h9, h10, h11, h12, h13, h14, ?_, h16, fun f => Nat.le_trans (h17 f) (hge f), h18, h19, h20, h21, h22, fun i hi => ⟨(h23 i hi).1, Nat.lt_of_lt_of_le (h23 i hi).2 (hge _)⟩⟩
  · by_cases e : f = k
    · subst e; rw [ud_at]; omega
    · rw [ud_ne _ _ e]; exact h4 f
  · rw [ud_ne _ _ (by omega)]; exact h5 f hf
  · by_cases e : i = 9 * k + len k
    · subst e; rw [ud_at]; exact ht
    · rw [ud_ne _ _ e]; exact h6 i
  · by_cases e : i = 9 * k + len k
    · subst e; rw [ud_at]; exact hw
    · rw [ud_ne _ _ e]; exact h7 i
  · rw [h15]
    by_cases h0 : mn = 0
    · rw [if_pos h0, if_pos h0]
    · rw [if_neg h0, if_neg h0, ud_ne]
      intro e
      have hq := (h23 (mn - 1) (by omega)).2
      rw [e] at hq
      have d1 : (9 * k + len k) / 9 = k := by omega
      have d2 : (9 * k + len k) % 9 = len k := by omega
      rw [d1, d2] at hq
      omega
theorem m_addP (hR : iR g fb A B) (x y w : Int32) : (∃ (v : Int32) (g' : tG), p_X4_addParagraph (iH g) (iC fb A) uT uI (iM M) x y w = some (.inr (v, iH g')) ∧ p_X5_addParagraph (iL g fb A B kp sd tw M) x y w = some (v, iL g' fb A B kp sd 0 M) ∧ iR g' fb A B) ∨ (∃ (E : String) (c v : Int32), p_X4_addParagraph (iH g) (iC fb A) uT uI (iM M) x y w = some (.inl E) ∧ p_X5_addParagraph (iL g fb A B kp sd tw M) x y w = some (v, iL g fb A B kp sd c M) ∧ ((E = xIOB ∧ c = 1) ∨ (E = xIAE ∧ c = 2) ∨ (E = xISE ∧ c = 3))) := by
  have hg := hR.1.2
  have q1 : (iH g).2.2.2.1 = nF g.2.2.2.1 := rfl
  have q2 : (iL g fb A B kp sd tw M).2.2.2.2.2.2.2.1 = nF g.2.2.2.1 := rfl
  rcases f_arg g hg x with ⟨k, hk, rfl, n2⟩ | ⟨n1, n2⟩
  · have h4 := hR.2.2.2.1 k
    rcases t_arg y with ⟨t, ht, rfl, m0, -, m2⟩ | ⟨m0, -, m2⟩
    · rcases b_arg 0 9 (by omega) (by omega) w with ⟨j, -, hj, rfl, b1⟩ | ⟨b0, b1⟩
      · by_cases hl : g.2.2.2.1 k = 9
        · refine Or.inr ⟨xISE, 3, 0, ?_, ?_, Or.inr (Or.inr ⟨rfl, rfl⟩)⟩
          · unfold p_X4_addParagraph
            rw [bT_r (c_need hk hg), m0, bd_sm, if_neg (by decide +kernel), L0, if_neg (mt (nI_ltI (by omega) (by omega)).mp (by omega)), L9, if_pos ((nI_leI (by omega) (by omega)).mpr hj), gd_nI _ (by omega) (by omega), nI_cl (by omega), q1, nF_app, if_neg (mt (nI_ltI (by omega) (by omega)).mp (by omega))]
          · unfold p_X5_addParagraph
            rw [n2 _ (by rfl), bd_sm, if_neg (bI_ne rfl), m2, bd_sm, if_neg (bI_ne rfl), L0, L9, b1, bd_sm, if_neg (bI_ne0 rfl), gd_nI _ (by omega) (by omega), nI_cl (by omega), q2, nF_app, if_pos (by rw [hl]), ← L0]
            rfl
        · refine Or.inl ⟨nI (g.2.2.2.1 k), (g.1, g.2.1, g.2.2.1, ud g.2.2.2.1 k (g.2.2.2.1 k + 1), ud g.2.2.2.2.1 (9 * k + g.2.2.2.1 k) t, ud g.2.2.2.2.2.1 (9 * k + g.2.2.2.1 k) j, g.2.2.2.2.2.2), ?_, ?_, R_addP hR hk (by omega) ht hj⟩
          · unfold p_X4_addParagraph p_X1_append
            rw [bT_r (c_need hk hg), m0, bd_sm, if_neg (by decide +kernel), L0, if_neg (mt (nI_ltI (by omega) (by omega)).mp (by omega)), L9, if_pos ((nI_leI (by omega) (by omega)).mpr hj), gd_nI _ (by omega) (by omega), nI_cl (by omega), q1, nF_app, if_pos ((nI_ltI (by omega) (by omega)).mpr (by omega)), gd_nI _ (by omega) (by omega), nI_mul, nI_add, Nat.mul_comm k 9, gd_nI _ (by omega) (by omega), nI_cl (by omega), L1, nI_add, upd_nF, show (iH g).2.2.2.2.1 = nF g.2.2.2.2.1 from rfl, show (iH g).2.2.2.2.2.1 = nF g.2.2.2.2.2.1 from rfl, upd_nF, upd_nF, bd_sm]
            rfl
          · unfold p_X5_addParagraph
            rw [n2 _ (by rfl), bd_sm, if_neg (bI_ne rfl), m2, bd_sm, if_neg (bI_ne rfl), L0, L9, b1, bd_sm, if_neg (bI_ne0 rfl), gd_nI _ (by omega) (by omega), nI_cl (by omega), q2, nF_app, if_neg (mt (nI_eq (by omega) (by omega)).mp hl), nI_mul, nI_add, gd_nI _ (by omega) (by omega), nI_cl (by omega), L1, nI_add, upd_nF, nF_app, ud_at, nI_sub (by omega), show (iL g fb A B kp sd tw M).2.2.2.2.2.2.2.2.1 = nF g.2.2.2.2.1 from rfl, show (iL g fb A B kp sd tw M).2.2.2.2.2.2.2.2.2.1 = nF g.2.2.2.2.2.1 from rfl, upd_nF, upd_nF, Nat.add_sub_cancel, ← L0]
            rfl
      · refine Or.inr ⟨xIAE, 2, 0, ?_, ?_, Or.inr (Or.inl ⟨rfl, rfl⟩)⟩
        · unfold p_X4_addParagraph
          rw [bT_r (c_need hk hg), m0, bd_sm, if_neg (by decide +kernel), L0, L9]
          rcases b0 with b0 | ⟨b0, b2⟩
          · rw [if_pos b0]
          · rw [if_neg b0, if_neg b2]
        · unfold p_X5_addParagraph p_X5_addParagraph_J36
          rw [n2 _ (by rfl), bd_sm, if_neg (bI_ne rfl), m2, bd_sm, if_neg (bI_ne rfl), L0, L9, b1, bd_sm, if_pos (bI_eq0 rfl), ← L0]
          rfl
    · refine Or.inr ⟨xIAE, 2, 0, ?_, ?_, Or.inr (Or.inl ⟨rfl, rfl⟩)⟩
      · unfold p_X4_addParagraph
        rw [bT_r (c_need hk hg), m0, bd_sm, if_pos rfl]
      · unfold p_X5_addParagraph p_X5_addParagraph_J36
        rw [n2 _ (by rfl), bd_sm, if_neg (bI_ne rfl), m2, bd_sm, if_pos (bI_eq rfl)]
        rfl
  · refine Or.inr ⟨xIOB, 1, 0, ?_, ?_, Or.inl ⟨rfl, rfl⟩⟩
    · unfold p_X4_addParagraph
      rw [bT_l (n1 _ _ _ _)]
    · unfold p_X5_addParagraph
      rw [n2 _ (by rfl), bd_sm, if_pos (bI_eq rfl)]
      rfl
theorem R_addR {t w : Nat} (hR : iR g fb A B) (hn : g.2.2.1 < 8) (ht : t < 8) (hw : w ≤ 20) : iR (g.1, g.2.1, g.2.2.1 + 1, g.2.2.2.1, g.2.2.2.2.1, g.2.2.2.2.2.1, ud g.2.2.2.2.2.2 g.2.2.1 t) fb (A.1, A.2.1, A.2.2.1, A.2.2.2.1, A.2.2.2.2.1, A.2.2.2.2.2.1, A.2.2.2.2.2.2.1, A.2.2.2.2.2.2.2.1, A.2.2.2.2.2.2.2.2.1, A.2.2.2.2.2.2.2.2.2.1, ud A.2.2.2.2.2.2.2.2.2.2.1 g.2.2.1 w, ud A.2.2.2.2.2.2.2.2.2.2.2 g.2.2.1 true) B := by
  obtain ⟨fl, lim, nr, len, tp, th, ta⟩ := g
  obtain ⟨hr, a, wy, st, wr, sp, la, cl, nx, ct, wm, rd⟩ := A
  obtain ⟨mn, tl, Ts, Hs⟩ := B
  have h : iRx fl lim nr len tp th ta fb hr a wy st wr sp la cl nx ct wm rd mn tl := hR
  have hn : nr < 8 := hn
  obtain ⟨⟨h1, h1b⟩, ⟨h2, h2b⟩, h3, h4, h5, h6, h7, h8, h9, h10, h11, h12, h13, h14, h15, h16, h17, h18, h19, h20, h21, h22, h23⟩ := h
  show iRx fl lim (nr + 1) len tp th (ud ta nr t) fb hr a wy st wr sp la cl nx ct (ud wm nr w) (ud rd nr true) mn tl
  refine ⟨⟨h1, h1b⟩, ⟨h2, h2b⟩, by omega, h4, h5, h6, h7, fun r => ?_, h9, h10, h11, h12, h13, h14, h15, h16, h17, h18, h19, fun r => ?_, fun r hr2 => ?_, fun r hr2 => ?_, h23⟩
  · by_cases e : r = nr
    · subst e; rw [ud_at]; exact ht
    · rw [ud_ne _ _ e]; exact h8 r
  · by_cases e : r = nr
    · subst e; rw [ud_at]; omega
    · rw [ud_ne _ _ e]; exact h20 r
  · by_cases e : r = nr
    · subst e; rw [ud_at] at hr2; cases hr2
    · rw [ud_ne _ _ e] at hr2 ⊢; exact h21 r hr2
  · rw [ud_ne _ _ (by omega)]; exact h22 r (by omega)
theorem m_addR (hR : iR g fb A B) (x w : Int32) : (∃ (v : Int32) (g' : tG) (A' : tA), p_X4_addReader (iH g) (iC fb A) uT uI (iM M) x w = some (.inr (v, iH g', iC fb A')) ∧ p_X5_addReader (iL g fb A B kp sd tw M) x w = some (v, iL g' fb A' B kp sd 0 M) ∧ iR g' fb A' B ∧ A'.1 = A.1) ∨ (∃ (E : String) (c v : Int32), p_X4_addReader (iH g) (iC fb A) uT uI (iM M) x w = some (.inl E) ∧ p_X5_addReader (iL g fb A B kp sd tw M) x w = some (v, iL g fb A B kp sd c M) ∧ ((E = xIAE ∧ c = 1) ∨ (E = xISE ∧ c = 2))) := by
  have h8 := hR.2.2.1
  have q1 : (iH g).2.2.1 = nI g.2.2.1 := rfl
  have q2 : (iL g fb A B kp sd tw M).2.2.2.2.2.2.2.2.2.2.1 = nI g.2.2.1 := rfl
  rcases t_arg x with ⟨t, ht, rfl, m0, -, m2⟩ | ⟨m0, -, m2⟩
  · rcases b_arg 1 20 (by omega) (by omega) w with ⟨j, hj0, hj, rfl, b1⟩ | ⟨b0, b1⟩
    · by_cases hl : g.2.2.1 = 8
      · refine Or.inr ⟨xISE, 2, 0, ?_, ?_, Or.inr ⟨rfl, rfl⟩⟩
        · unfold p_X4_addReader
          rw [m0, bd_sm, if_neg (by decide +kernel), L1, L20, if_neg (mt (nI_ltI (by omega) (by omega)).mp (by omega)), if_pos ((nI_leI (by omega) (by omega)).mpr hj), q1, L8, if_neg (mt (nI_ltI (by omega) (by omega)).mp (by omega))]
        · unfold p_X5_addReader
          rw [m2, bd_sm, if_neg (bI_ne rfl), show p_X5_isIn (nI j) 1 20 = some (bI true) by rw [L1, L20]; exact b1, bd_sm, if_neg (bI_ne rfl), q2, L8, if_pos (by rw [hl])]
          rfl
      · have hn : g.2.2.1 < 8 := by omega
        refine Or.inl ⟨nI g.2.2.1, (g.1, g.2.1, g.2.2.1 + 1, g.2.2.2.1, g.2.2.2.2.1, g.2.2.2.2.2.1, ud g.2.2.2.2.2.2 g.2.2.1 t), (A.1, A.2.1, A.2.2.1, A.2.2.2.1, A.2.2.2.2.1, A.2.2.2.2.2.1, A.2.2.2.2.2.2.1, A.2.2.2.2.2.2.2.1, A.2.2.2.2.2.2.2.2.1, A.2.2.2.2.2.2.2.2.2.1, ud A.2.2.2.2.2.2.2.2.2.2.1 g.2.2.1 j, ud A.2.2.2.2.2.2.2.2.2.2.2 g.2.2.1 true), ?_, ?_, R_addR hR hn ht hj, rfl⟩
        · unfold p_X4_addReader
          rw [m0, bd_sm, if_neg (by decide +kernel), nar_1, L1, L20, if_neg (mt (nI_ltI (by omega) (by omega)).mp (by omega)), if_pos ((nI_leI (by omega) (by omega)).mpr hj), q1, L8, if_pos ((nI_ltI (by omega) (by omega)).mpr hn), gd_nI _ hn (by omega), nI_cl (by omega), nI_add, show (iH g).2.2.2.2.2.2 = nF g.2.2.2.2.2.2 from rfl, upd_nF, show (iC fb A).2.2.2.2.2.2.2.2.2.2.2.1 = nF A.2.2.2.2.2.2.2.2.2.2.1 from rfl, upd_nF, show (iC fb A).2.2.2.2.2.2.2.2.2.2.2.2 = bF A.2.2.2.2.2.2.2.2.2.2.2 from rfl, upd_bF]
          rfl
        · have eu : upd (upd (iL g fb A B kp sd tw M).1 (33 + g.2.2.1) (nI j)) 7 (upd (iL g fb A B kp sd tw M).1 (33 + g.2.2.1) (nI j) 7 ||| (nI 1 <<< (nI g.2.2.1 &&& 31))) = iN (A.1, A.2.1, A.2.2.1, A.2.2.2.1, A.2.2.2.2.1, A.2.2.2.2.2.1, A.2.2.2.2.2.2.1, A.2.2.2.2.2.2.2.1, A.2.2.2.2.2.2.2.2.1, A.2.2.2.2.2.2.2.2.2.1, ud A.2.2.2.2.2.2.2.2.2.2.1 g.2.2.1 j, ud A.2.2.2.2.2.2.2.2.2.2.2 g.2.2.1 true) B.1 := by
            have e0 : (iL g fb A B kp sd tw M).1 = mkN (nI A.1) (nI A.2.1) A.2.2.1 (nI A.2.2.2.1) (nI A.2.2.2.2.1) (nI A.2.2.2.2.2.1) (mI A.2.2.2.2.2.2.2.1 12) (mI A.2.2.2.2.2.2.2.2.2.2.2 8) (nI B.1) (nF A.2.2.2.2.2.2.2.2.1) (nF A.2.2.2.2.2.2.2.2.2.1) (nF A.2.2.2.2.2.2.2.2.2.2.1) := rfl
            rw [e0, upN_w hn, upd_nF, mkN_7, mI_set1 (by omega) hn, upN_7]
            rfl
          unfold p_X5_addReader
          rw [m2, bd_sm, if_neg (bI_ne rfl), show p_X5_isIn (nI j) 1 20 = some (bI true) by rw [L1, L20]; exact b1, bd_sm, if_neg (bI_ne rfl), q2, L8, if_neg (mt (nI_eq (by omega) (by omega)).mp hl), gd_nI _ hn (by omega), L33, nI_add, gd_nI _ (by omega) (by omega), nI_cl (by omega), nI_cl (by omega), L1, nI_add, nI_sub (by omega), Nat.add_sub_cancel, eu, show (iL g fb A B kp sd tw M).2.2.2.2.2.2.2.2.2.2.2.1 = nF g.2.2.2.2.2.2 from rfl, upd_nF]
          rfl
    · refine Or.inr ⟨xIAE, 1, 0, ?_, ?_, Or.inl ⟨rfl, rfl⟩⟩
      · unfold p_X4_addReader
        rw [m0, bd_sm, if_neg (by decide +kernel), L1, L20]
        rcases b0 with b0 | ⟨b0, b2⟩
        · rw [if_pos b0]
        · rw [if_neg b0, if_neg b2]
      · unfold p_X5_addReader p_X5_addReader_J22
        rw [m2, bd_sm, if_neg (bI_ne rfl), show p_X5_isIn w 1 20 = some (bI false) by rw [L1, L20]; exact b1, bd_sm, if_pos (bI_eq rfl)]
        rfl
  · refine Or.inr ⟨xIAE, 1, 0, ?_, ?_, Or.inl ⟨rfl, rfl⟩⟩
    · unfold p_X4_addReader
      rw [m0, bd_sm, if_pos rfl]
    · unfold p_X5_addReader p_X5_addReader_J22
      rw [m2, bd_sm, if_pos (bI_eq rfl)]
      rfl
theorem O_addM {t u : Nat} (hM : oM4 M) (hn : M.1 < 4) (ht : t < 8) (hu : u < 8) (hne : t ≠ u) : oM4 (M.1 + 1, ud M.2.1 M.1 t, ud M.2.2 M.1 u) := by
  obtain ⟨a1, a2, a3⟩ := hM
  refine ⟨by show M.1 + 1 ≤ 4; omega, fun m => ?_, fun m hm => ?_⟩
  · show ud M.2.1 M.1 t m < 8 ∧ ud M.2.2 M.1 u m < 8
    by_cases e : m = M.1
    · subst e; rw [ud_at, ud_at]; exact ⟨ht, hu⟩
    · rw [ud_ne _ _ e, ud_ne _ _ e]; exact a2 m
  · have hm : m < M.1 + 1 := hm
    show ud M.2.1 M.1 t m ≠ ud M.2.2 M.1 u m
    by_cases e : m = M.1
    · subst e; rw [ud_at, ud_at]; exact hne
    · rw [ud_ne _ _ e, ud_ne _ _ e]; exact a3 m (by omega)
theorem m_addM (hM : oM4 M) (x y : Int32) : (∃ (v : Int32) (M' : tM), p_X4_addMirror (iH g) (iC fb A) uT uI (iM M) x y = some (.inr (v, iM M')) ∧ p_X5_addMirror (iL g fb A B kp sd tw M) x y = some (v, iL g fb A B kp sd 0 M') ∧ oM4 M') ∨ (∃ (E : String) (c v : Int32), p_X4_addMirror (iH g) (iC fb A) uT uI (iM M) x y = some (.inl E) ∧ p_X5_addMirror (iL g fb A B kp sd tw M) x y = some (v, iL g fb A B kp sd c M) ∧ ((E = xIAE ∧ c = 1) ∨ (E = xISE ∧ c = 2))) := by
  have h4 := hM.1
  have q1 : (iM M).1 = nI M.1 := rfl
  have q2 : (iL g fb A B kp sd tw M).2.2.2.2.2.2.2.2.2.2.2.2.1 = nI M.1 := rfl
  have e4 : (4 : Int32) = nI 4 := L4
  rcases t_arg x with ⟨t, ht, rfl, m0, -, m2⟩ | ⟨m0, -, m2⟩
  · rcases t_arg y with ⟨u, hu, rfl, o0, -, o2⟩ | ⟨o0, -, o2⟩
    · by_cases he : t = u
      · subst he
        refine Or.inr ⟨xIAE, 1, 0, ?_, ?_, Or.inl ⟨rfl, rfl⟩⟩
        · unfold p_X4_addMirror
          rw [m0, bd_sm, if_neg (by decide +kernel), bd_sm, if_neg (by decide +kernel), if_pos rfl]
        · unfold p_X5_addMirror p_X5_addMirror_J24
          rw [m2, bd_sm, if_neg (bI_ne rfl), bd_sm, if_neg (bI_ne rfl), if_pos rfl]
          rfl
      · have hne : ¬ nI t = nI u := mt (nI_eq (by omega) (by omega)).mp he
        by_cases hl : M.1 = 4
        · refine Or.inr ⟨xISE, 2, 0, ?_, ?_, Or.inr ⟨rfl, rfl⟩⟩
          · unfold p_X4_addMirror
            rw [m0, bd_sm, if_neg (by decide +kernel), o0, bd_sm, if_neg (by decide +kernel), if_neg hne, q1, e4, if_neg (mt (nI_ltI (by omega) (by omega)).mp (by omega))]
          · unfold p_X5_addMirror
            rw [m2, bd_sm, if_neg (bI_ne rfl), o2, bd_sm, if_neg (bI_ne rfl), if_neg hne, q2, e4, if_pos (by rw [hl])]
            rfl
        · have hn : M.1 < 4 := by omega
          refine Or.inl ⟨nI M.1, (M.1 + 1, ud M.2.1 M.1 t, ud M.2.2 M.1 u), ?_, ?_, O_addM hM hn ht hu he⟩
          · unfold p_X4_addMirror p_X3_append
            rw [m0, bd_sm, if_neg (by decide +kernel), o0, bd_sm, if_neg (by decide +kernel), if_neg hne, q1, e4, if_pos ((nI_ltI (by omega) (by omega)).mpr hn), gd_nI _ hn (by omega), nI_cl (by omega), L1, nI_add, show (iM M).2.1 = nF M.2.1 from rfl, show (iM M).2.2 = nF M.2.2 from rfl, upd_nF, upd_nF, bd_sm]
            rfl
          · unfold p_X5_addMirror
            rw [m2, bd_sm, if_neg (bI_ne rfl), o2, bd_sm, if_neg (bI_ne rfl), if_neg hne, q2, e4, if_neg (mt (nI_eq (by omega) (by omega)).mp hl), gd_nI _ hn (by omega), nI_cl (by omega), L1, nI_add, nI_sub (by omega), Nat.add_sub_cancel, show (iL g fb A B kp sd tw M).2.2.2.2.2.2.2.2.2.2.2.2.2.1 = nF M.2.1 from rfl, show (iL g fb A B kp sd tw M).2.2.2.2.2.2.2.2.2.2.2.2.2.2.1 = nF M.2.2 from rfl, upd_nF, upd_nF]
            rfl
    · refine Or.inr ⟨xIAE, 1, 0, ?_, ?_, Or.inl ⟨rfl, rfl⟩⟩
      · unfold p_X4_addMirror
        rw [m0, bd_sm, if_neg (by decide +kernel), o0, bd_sm, if_pos rfl]
      · unfold p_X5_addMirror p_X5_addMirror_J24
        rw [m2, bd_sm, if_neg (bI_ne rfl), o2, bd_sm, if_pos (bI_eq rfl)]
        rfl
  · refine Or.inr ⟨xIAE, 1, 0, ?_, ?_, Or.inl ⟨rfl, rfl⟩⟩
    · unfold p_X4_addMirror
      rw [m0, bd_sm, if_pos rfl]
    · unfold p_X5_addMirror p_X5_addMirror_J24
      rw [m2, bd_sm, if_pos (bI_eq rfl)]
      rfl
end
/-- an hour's instalment is told -/
theorem U_app {r : Int32} {hr a' p : Nat} {B B' : tB} {uI : tX2} (hU : uR B uI) (hp : p < 9) (hB : B.1 < 108) (hB' : B' = (B.1 + 1, ud B.2.1 B.1 (9 * a' + p), upd B.2.2.1 B.1 r, upd B.2.2.2 B.1 (nI hr))) : ∃ uI' : tX2, p_X2_append uI (nI a') (nI p) r (nI hr) = some uI' ∧ uR B' uI' := by
  have e108 : (108 : Int32) = nI 108 := L108
  refine ⟨(nI (B.1 + 1), upd uI.2.1 B.1 (nI a'), upd uI.2.2.1 B.1 (nI p), upd uI.2.2.2.1 B.1 r, upd uI.2.2.2.2 B.1 (nI hr)), ?_, ?_⟩
  · unfold p_X2_append
    rw [hU.1, e108, if_pos ((nI_ltI (by omega) (by omega)).mpr hB), gd_nI _ hB (by omega), nI_cl (by omega), L1, nI_add]
  · rw [hB']
    refine ⟨rfl, fun i hi => ?_⟩
    have hi : i < B.1 + 1 := hi
    show upd uI.2.1 B.1 (nI a') i = nI (ud B.2.1 B.1 (9 * a' + p) i / 9) ∧ upd uI.2.2.1 B.1 (nI p) i = nI (ud B.2.1 B.1 (9 * a' + p) i % 9) ∧ upd uI.2.2.2.1 B.1 r i = upd B.2.2.1 B.1 r i ∧ upd uI.2.2.2.2 B.1 (nI hr) i = upd B.2.2.2 B.1 (nI hr) i
    by_cases e : i = B.1
    · subst e
      rw [upd_at, upd_at, upd_at, upd_at, upd_at, upd_at, ud_at, show (9 * a' + p) / 9 = a' by omega, show (9 * a' + p) % 9 = p by omega]
      exact ⟨rfl, rfl, rfl, rfl⟩
    · rw [upd_ne _ _ e, upd_ne _ _ e, upd_ne _ _ e, upd_ne _ _ e, upd_ne _ _ e, upd_ne _ _ e, ud_ne _ _ e]
      exact hU.2 i (by omega)
theorem j_pass {g : tG} {fb : Nat → Bool} {N : Nat} {uT : tX0} {uM : tX3} {b : Int32} (hN : N ≤ 60) : ∀ (n : Nat) (A : tA) (B : tB) (uI : tX2) (i fuel fuel2 : Nat), iR g fb A B → uR B uI → A.1 + n < 1000000 → i + n = N → n < fuel → n < fuel2 → ∃ (A' : tA) (B' : tB) (uI' : tX2), p_X4_passHours_L31 fuel (iH g) (iC fb A) uT uI uM (nI N) b (nI i) = some (.inr (nI B'.1 - b, iC fb A', uI')) ∧ (∀ (kp : Nat → Int32) (sd tw : Int32) (M : tM), ∃ sd' : Int32, p_X5_hoursOn_L2 fuel2 (iL g fb A B kp sd tw M) (nI N) (nI i) = some (iL g fb A' B' kp sd' tw M)) ∧ iR g fb A' B' ∧ uR B' uI' ∧ A'.1 = A.1 + n := by
  intro n
  induction n with
  | zero =>
    intro A B uI i fuel fuel2 hR hU hh hi hf hf2
    obtain ⟨f, rfl⟩ : ∃ f, fuel = f + 1 := ⟨fuel - 1, by omega⟩
    obtain ⟨f2, rfl⟩ : ∃ f2, fuel2 = f2 + 1 := ⟨fuel2 - 1, by omega⟩
    refine ⟨A, B, uI, ?_, fun kp sd tw M => ⟨sd, ?_⟩, hR, hU, rfl⟩
    · rw [p_X4_passHours_L31, if_pos ((nI_leI (by omega) (by omega)).mpr (by omega)), hU.1]
    · rw [p_X5_hoursOn_L2, if_pos ((nI_leI (by omega) (by omega)).mpr (by omega))]
  | succ n ih =>
    intro A B uI i fuel fuel2 hR hU hh hi hf hf2
    obtain ⟨f, rfl⟩ : ∃ f, fuel = f + 1 := ⟨fuel - 1, by omega⟩
    obtain ⟨f2, rfl⟩ : ∃ f2, fuel2 = f2 + 1 := ⟨fuel2 - 1, by omega⟩
    obtain ⟨r, A1, B1, sd1, e1, e2, e3, e4, e5, e6⟩ := j_hour hR (by omega)
    have kU : ∃ uI1 : tX2, uR B1 uI1 ∧ p_X4_passHours_L31 (f + 1) (iH g) (iC fb A) uT uI uM (nI N) b (nI i) = p_X4_passHours_L31 f (iH g) (iC fb A1) uT uI1 uM (nI N) b (nI (i + 1)) := by
      rcases e5 with ⟨hr1, hB⟩ | ⟨x, p, hr1, hx, hp, ha, hBB, hnx, hB⟩
      · refine ⟨uI, by rw [hB]; exact hU, ?_⟩
        rw [p_X4_passHours_L31, if_neg (mt (nI_leI (by omega) (by omega)).mp (by omega)), e1, bd_sm, Lm1, if_pos hr1, L1, nI_add]
      · obtain ⟨uI1, k1, k2⟩ := U_app hU hp hBB hB
        refine ⟨uI1, k2, ?_⟩
        have hne : ¬ r = m1 := by rw [hr1]; exact of_eq_false (nI_m1e hx)
        rw [p_X4_passHours_L31, if_neg (mt (nI_leI (by omega) (by omega)).mp (by omega)), e1, bd_sm, Lm1, if_neg hne, show (iC fb A1).2.1 = nI A1.2.1 from rfl, gd_nI _ ha (by omega), nI_cl (by omega), show (iC fb A1).2.2.2.2.2.2.2.2.1 A1.2.1 = nI (A1.2.2.2.2.2.2.2.2.1 A1.2.1) from rfl, hnx, L1, nI_sub (by omega), Nat.add_sub_cancel, show (iC fb A).1 = nI A.1 from rfl, k1, bd_sm, nI_add]
    obtain ⟨uI1, u1, u2⟩ := kU
    obtain ⟨A', B', uI', k1, k2, k3, k4, k5⟩ := ih A1 B1 uI1 (i + 1) f f2 e3 u1 (by omega) (by omega) (by omega) (by omega)
    refine ⟨A', B', uI', by rw [u2]; exact k1, fun kp sd tw M => ?_, k3, k4, by omega⟩
    obtain ⟨sd', k⟩ := k2 kp sd1 tw M
    refine ⟨sd', ?_⟩
    rw [p_X5_hoursOn_L2, if_neg (mt (nI_leI (by omega) (by omega)).mp (by omega)), e2 kp sd tw M, bd_sm, L1, nI_add]
    exact k
section
variable {g : tG} {fb : Nat → Bool} {A : tA} {B : tB} {uI : tX2} {kp : Nat → Int32} {sd tw : Int32} {M : tM} {uT : tX0}
theorem m_pass (hR : iR g fb A B) (hU : uR B uI) (hh : A.1 < 900000) (x : Int32) : (∃ (v : Int32) (A' : tA) (B' : tB) (uI' : tX2) (sd' : Int32), p_X4_passHours (iH g) (iC fb A) uT uI (iM M) x = some (.inr (v, iC fb A', uI')) ∧ p_X5_passHours (iL g fb A B kp sd tw M) x = some (v, iL g fb A' B' kp sd' 0 M) ∧ iR g fb A' B' ∧ uR B' uI' ∧ A'.1 ≤ A.1 + 60) ∨ (p_X4_passHours (iH g) (iC fb A) uT uI (iM M) x = some (.inl xIAE) ∧ ∃ v : Int32, p_X5_passHours (iL g fb A B kp sd tw M) x = some (v, (iL g fb A B kp sd 1 M))) := by
  rcases b_arg 1 60 (by omega) (by omega) x with ⟨k, k1, k2, rfl, n1⟩ | ⟨n0, n1⟩
  · obtain ⟨A', B', uI', e1, e2, e3, e4, e5⟩ := j_pass (uT := uT) (uM := iM M) (b := nI B.1) k2 k A B uI 0 200 200 hR hU (by omega) (by omega) (by omega) (by omega)
    obtain ⟨sd', e6⟩ := e2 kp sd 0 M
    refine Or.inl ⟨nI B'.1 - nI B.1, A', B', uI', sd', ?_, ?_, e3, e4, by omega⟩
    · unfold p_X4_passHours
      rw [L1, L60, if_neg (mt (nI_ltI (by omega) (by omega)).mp (by omega)), if_pos ((nI_leI (by omega) (by omega)).mpr k2), hU.1, L0]
      exact e1
    · unfold p_X5_passHours p_X5_hoursOn
      have e7 : ((iL g fb A B kp sd tw M).1, (iL g fb A B kp sd tw M).2.1, (iL g fb A B kp sd tw M).2.2.1, (0 : Int32), (iL g fb A B kp sd tw M).2.2.2.2) = iL g fb A B kp sd 0 M := rfl
      rw [show p_X5_isIn (nI k) 1 60 = some (bI true) by rw [L1, L60]; exact n1, bd_sm, if_neg (bI_ne rfl), e7, show (0 : Int32) = nI 0 from L0, ← L0, show p_X5_hoursOn_L2 200 (iL g fb A B kp sd 0 M) (nI k) 0 = some (iL g fb A' B' kp sd' 0 M) by rw [show p_X5_hoursOn_L2 200 (iL g fb A B kp sd 0 M) (nI k) 0 = p_X5_hoursOn_L2 200 (iL g fb A B kp sd 0 M) (nI k) (nI 0) from rfl]; exact e6, bd_sm]
      rfl
  · refine Or.inr ⟨?_, 0, ?_⟩
    · unfold p_X4_passHours
      rcases n0 with n0 | ⟨n0, n3⟩
      · rw [L1, if_pos n0]
      · rw [L1, L60, if_neg n0, if_neg n3]
    · unfold p_X5_passHours
      rw [show p_X5_isIn x 1 60 = some (bI false) by rw [L1, L60]; exact n1, bd_sm, if_pos (bI_eq rfl)]
      rfl
end
