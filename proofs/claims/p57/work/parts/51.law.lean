/-! THE PURE PART: a step of the law -/
section
variable {hr a st wr sp la : Nat} {wy : Int32} {cl fb rd : Nat → Bool} {nx ct wm : Nat → Nat} {fl lim nr : Nat} {len tp th ta : Nat → Nat} {sd : Int32} {nm mn : Nat} {lk dl tl Ts Hs : Nat → Nat} {hrq aq stq wrq spq laq mnq : Nat} {wyq : Int32} {clq rdq : Nat → Bool} {nxq ctq wmq tlq Tsq Hsq : Nat → Nat} {uT : tX0}
theorem df_at {cl : Nat → Bool} {k fl : Nat} (hk : k < fl) (hc : cl k = true) : cnt (dfG cl (ud cl k false)) fl = 1 := by
  refine (sm_ext (w' := fun t => b1 (decide (k = t))) fl (fun j _ => ?_)).trans (sm_one hk)
  show b1 (dfG cl (ud cl k false) j) = b1 (decide (k = j))
  unfold dfG
  by_cases e : j = k
  · subst e; rw [ud_at, hc, decide_eq_true rfl]; rfl
  · rw [ud_ne _ _ e, decide_eq_false (fun q => e q.symm)]
    cases cl j <;> rfl
theorem df_no {cl : Nat → Bool} {fl : Nat} : cnt (dfG cl cl) fl = 0 := cnt_0 fun i _ => by
  unfold dfG
  cases cl i <;> rfl
/-- cooler readers, as the law asks -/
theorem co_facts (h21 : ∀ r, rd r = false → wm r = 0) : (∀ i, i < nr → coR nr wm rd 0 i = true → rd i = true) ∧ (∀ i, i < nr → rd i = true → coR nr wm rd 0 i = false → wm i = 0 ∧ 0 = 0) ∧ (∀ i, i < nr → rd i = true → coR nr wm rd 0 i = true → (0 = 0 ∧ coW nr wm 0 i + 1 = wm i) ∨ (0 = 1 ∧ wm i ≤ coW nr wm 0 i)) := by
  refine ⟨fun i hi hq => ?_, fun i hi h1 hq => ?_, fun i hi h1 hq => Or.inl ⟨rfl, ?_⟩⟩
  · unfold coR at hq
    by_cases e : 0 ≤ i ∧ i < nr ∧ wm i = 0
    · rw [if_pos e] at hq; cases hq
    · rw [if_neg e] at hq; exact hq
  · unfold coR at hq
    by_cases e : 0 ≤ i ∧ i < nr ∧ wm i = 0
    · exact ⟨e.2.2, rfl⟩
    · rw [if_neg e, h1] at hq; cases hq
  · unfold coR at hq
    by_cases e : 0 ≤ i ∧ i < nr ∧ wm i = 0
    · rw [if_pos e] at hq; cases hq
    · unfold coW
      rw [if_pos ⟨Nat.zero_le _, hi⟩]
      omega
/-- warmer readers, as the law asks -/
theorem pr_facts {t x : Nat} (h20 : ∀ r, wm r ≤ 99) : (∀ i, i < nr → rd i = true → rd i = true) ∧ (∀ i, i < nr → rd i = true → rd i = false → wm i = 0 ∧ 1 = 0) ∧ (∀ i, i < nr → rd i = true → rd i = true → (1 = 0 ∧ prG nr ta rd t x wm 0 i + 1 = wm i) ∨ (1 = 1 ∧ wm i ≤ prG nr ta rd t x wm 0 i)) := by
  refine ⟨fun i hi hq => hq, fun i hi h1 hq => ?_, fun i hi h1 hq => Or.inr ⟨rfl, ?_⟩⟩
  · rw [h1] at hq; cases hq
  · have := h20 i
    have k : ∀ y, wm i ≤ m99 (wm i + y) := fun y => by unfold m99; split <;> omega
    unfold prG
    rw [if_pos ⟨Nat.zero_le _, hi, h1⟩]
    exact k _
/-- all that the law asks of an hour, beside the move -/
theorem hour_sum {r : Int32} (h : iRx fl lim nr len tp th ta fb hr a wy st wr sp la cl nx ct wm rd mn tl) (haq : aq < fl) (hf : hN r (fl, lim, nr, len, tp, th, ta) (hr, a, wy, st, wr, sp, la, cl, nx, ct, wm, rd) (mn, tl, Ts, Hs) (hrq, aq, wyq, stq, wrq, spq, laq, clq, nxq, ctq, wmq, rdq) (mnq, tlq, Tsq, Hsq) ∨ (st = 0 ∧ hS r (fl, lim, nr, len, tp, th, ta) fb (hr, aq, wy, st, wr, sp, la, cl, nx, ct, wm, rd) (mn, tl, Ts, Hs) (hrq, aq, wyq, stq, wrq, spq, laq, clq, nxq, ctq, wmq, rdq) (mnq, tlq, Tsq, Hsq))) (hhr : hrq = hr + 1) : ∃ P D : Nat, P ≤ 1 ∧ P ≤ D ∧ D ≤ 1 ∧ D = cnt (dfG cl clq) fl ∧ (0 < st → D = 0) ∧ mnq = mn + P ∧ (sm ct 12 ≤ sm ctq 12 ∧ P + (sm ctq 12 - sm ct 12) ≤ D) ∧ (P = 0 → st = 0 → spq = sp) ∧ (P = 0 → 0 < st → sp < spq) ∧ (P = 1 → spq = 0) ∧ (P = 1 → mn < mnq ∧ tlq mn / 9 < fl ∧ tlq mn % 9 < len (tlq mn / 9) ∧ Tsq mn = th (tlq mn) + sp ∧ fb (tp (tlq mn)) = false ∧ Hsq mn + 1 = hrq) ∧ (∀ i, i < nr → rdq i = true → rd i = true) ∧ (∀ i, i < nr → rd i = true → rdq i = false → wm i = 0 ∧ P = 0) ∧ (∀ i, i < nr → rd i = true → rdq i = true → (P = 0 ∧ wmq i + 1 = wm i) ∨ (P = 1 ∧ wm i ≤ wmq i)) ∧ (∀ k, clq k = cl k ∨ (k = aq ∧ cl k = true ∧ clq k = false)) ∧ (∀ k, k ≠ aq → nxq k = nx k) := by
  obtain ⟨⟨h1, h1b⟩, ⟨h2, h2b⟩, h3, h4, h5, h6, h7, h8, h9, h10, h11, h12, h13, h14, h15, h16, h17, h18, h19, h20, h21, h22, h23⟩ := h
  rcases hf with ⟨q1, q2, q3, q4, q5, q6, q7, q8⟩ | ⟨hst, -, q2, q3, q4⟩
  · injection q5 with e1 q5
    injection q5 with e2 q5
    injection q5 with e3 e4
    subst q2 q3 q4 q6 q7 e1 e2 e3 e4
    obtain ⟨c1, c2, c3⟩ := co_facts (nr := nr) h21
    refine ⟨0, 0, by omega, by omega, by omega, df_no.symm, fun _ => rfl, rfl, ⟨Nat.le_refl _, by omega⟩, fun _ e => ?_, fun _ e => ?_, fun e => by omega, fun e => by omega, c1, c2, c3, fun k => Or.inl rfl, fun k _ => rfl⟩
    · rcases q8 with q8 | q8
      · exact q8.2
      · omega
    · rcases q8 with q8 | q8
      · omega
      · exact q8.2
  · subst q3
    have hcl : ∀ k, ud cl aq false k = cl k ∨ (k = aq ∧ cl k = true ∧ ud cl aq false k = false) := fun k => by
      by_cases e : k = aq
      · subst e; exact Or.inr ⟨rfl, q2, ud_at _ _ _⟩
      · exact Or.inl (ud_ne _ _ e)
    have hdf := df_at haq q2
    have hnx : ∀ v k, k ≠ aq → ud nx aq v k = nx k := fun v k e => ud_ne _ _ e
    have h9 := h4 aq
    rcases q4 with ⟨p1, p2, p3, p4, p5, p6⟩ | ⟨p1, p2, p3, p4, p5, p6, p7, p8, p9⟩
    · injection p3 with e1 p3
      injection p3 with e2 p3
      injection p3 with e3 e4
      subst p4 p5 e1 e2 e3 e4
      obtain ⟨c1, c2, c3⟩ := co_facts (nr := nr) h21
      rcases p6 with ⟨t1, t2⟩ | ⟨t0, t1, t2⟩
      · subst t1 t2
        exact ⟨0, 1, by omega, by omega, by omega, hdf.symm, fun e => by omega, rfl, ⟨Nat.le_refl _, by omega⟩, fun _ _ => p2, fun _ e => by omega, fun e => by omega, fun e => by omega, c1, c2, c3, hcl, fun k _ => rfl⟩
      · subst t1 t2
        have e2 := sm_ud (w := ct) (n := 12) (k := aq) (v := ct aq + 1) (by omega)
        exact ⟨0, 1, by omega, by omega, by omega, hdf.symm, fun e => by omega, rfl, ⟨by omega, by omega⟩, fun _ _ => p2, fun _ e => by omega, fun e => by omega, fun e => by omega, c1, c2, c3, hcl, hnx _⟩
    · injection p9 with e1 p9
      injection p9 with e2 p9
      injection p9 with e3 e4
      subst p5 p6 p7 p8 e1 e2 e3 e4
      obtain ⟨c1, c2, c3⟩ := pr_facts (nr := nr) (ta := ta) (rd := rdq) (t := tp (9 * aq + nx aq)) (x := th (9 * aq + nx aq) + sp) h20
      have d1 : (9 * aq + nx aq) / 9 = aq := by omega
      have d2 : (9 * aq + nx aq) % 9 = nx aq := by omega
      refine ⟨1, 1, by omega, by omega, by omega, hdf.symm, fun e => by omega, rfl, ⟨Nat.le_refl _, by omega⟩, fun e => by omega, fun e => by omega, fun _ => p4, fun _ => ?_, c1, c2, c3, hcl, hnx _⟩
      rw [ud_at, ud_at, ud_at, d1, d2]
      exact ⟨by omega, haq, p2, rfl, p3, by omega⟩
theorem mv_facts (ha : a < fl) (hfl : fl ≤ 12) (haq : aq < fl) (hm : aq = a ∨ (st = 0 ∧ cl a = false ∧ ((aq = a + 1 ∧ ∃ k, a < k ∧ k < fl ∧ cl k = true) ∨ (a = aq + 1 ∧ ∃ k, k < a ∧ cl k = true)))) (hm2 : st = 0 → ¬ cnt cl 12 = 0 → cl a = true ∨ aq ≠ a) : (nI aq - nI a = 0 → st = 0 → ¬ cnt cl 12 = 0 → cl a = true) ∧ (nI aq - nI a = 0 ∨ ((nI aq - nI a = 1 ∨ nI aq - nI a = -1) ∧ st = 0 ∧ cl a = false ∧ ∃ k, k < fl ∧ twG cl a (nI aq - nI a) k = true)) := by
  rcases hm with e | ⟨h1, h2, ⟨e, k, k1, k2, k3⟩ | ⟨e, k, k1, k3⟩⟩
  · subst e
    refine ⟨fun _ q1 q2 => ?_, Or.inl (by rw [nI_sub (Nat.le_refl _), Nat.sub_self, ← L0])⟩
    rcases hm2 q1 q2 with q | q
    · exact q
    · exact absurd rfl q
  · have ed : nI aq - nI a = 1 := by rw [e, nI_sub (by omega), Nat.add_sub_cancel_left, ← L1]
    rw [ed]
    refine ⟨fun q => absurd q (by decide +kernel), Or.inr ⟨Or.inl rfl, h1, h2, k, k2, ?_⟩⟩
    unfold twG
    rw [k3, if_neg (by decide +kernel), decide_eq_true k1]
    rfl
  · have ed : nI aq - nI a = -1 := by rw [e, ← nI_m1a aq, Int32.add_comm, Int32.add_sub_cancel]; rfl
    rw [ed]
    refine ⟨fun q => absurd q (by decide +kernel), Or.inr ⟨Or.inr rfl, h1, h2, k, by omega, ?_⟩⟩
    unfold twG
    rw [k3, if_pos (by decide +kernel), decide_eq_true k1]
    rfl
end
section
variable {hr a st wr sp la : Nat} {wy : Int32} {cl fb rd : Nat → Bool} {nx ct wm : Nat → Nat} {fl lim nr : Nat} {len tp th ta : Nat → Nat} {sd : Int32} {nm mn : Nat} {lk dl tl Ts Hs : Nat → Nat} {uT : tX0} {uG : tX5} {xv : Nat → Int32} {Lc : Nat} {rec22 : tX1 → tX0 → tX0 → tX2 → tX3 → tX5 → Int32 → Option Unit} {l3 : Int32}
theorem w_L253z (h : iRx fl lim nr len tp th ta fb hr a wy st wr sp la cl nx ct wm rd mn tl) (hh : hr < 1000000) {f0 f1 : Nat → Int32} : p_L_law_L253 xv Lc rec22 200 (nI fl, nI lim, nI nr, nF len, nF tp, nF th, nF ta) (nI hr, nI a, wy, nI st, nI wr, nI sp, nI la, bF cl, nF nx, nF ct, bF fb, nF wm, bF rd) uT (nI mn, (fun i => nI (tl i / 9)), (fun i => nI (tl i % 9)), nF Ts, nF Hs) (nI nm, nF lk, nF dl) uG f0 fl f1 fl l3 (nI fl) (nI mn) (nI (cnt cl fl)) (nI (sm len fl)) (nI (sm nx fl)) (nI 0) (nI 0) = p_L_law_L359 xv Lc rec22 200 (nI fl, nI lim, nI nr, nF len, nF tp, nF th, nF ta) (nI hr, nI a, wy, nI st, nI wr, nI sp, nI la, bF cl, nF nx, nF ct, bF fb, nF wm, bF rd) uT (nI mn, (fun i => nI (tl i / 9)), (fun i => nI (tl i % 9)), nF Ts, nF Hs) (nI nm, nF lk, nF dl) uG f0 fl f1 fl l3 (nI fl) (nI mn) (nI (cnt cl fl)) (nI 0) := w_L253 h hh 8 0 200 (by omega) (by omega)
end
section
variable {uT : tX0} {xv : Nat → Int32} {Lc : Nat} {rec22 : tX1 → tX0 → tX0 → tX2 → tX3 → tX5 → Int32 → Option Unit} {l3 : Int32}
theorem law_step {g : tG} {fb : Nat → Bool} {A : tA} {B : tB} {M : tM} {sd : Int32} (hR : iR g fb A B M) (hh : A.1 < 900000) : ∃ (A' : tA) (B' : tB) (sd' : Int32), p_L_law_L99 xv Lc rec22 200 (iH g) (iC fb A) uT (iI B) (iM M) (iS g fb A B M sd) z0F g.1 z0F g.1 l3 (nI g.1) (nI B.1) (0 : Int32) (0 : Int32) (0 : Int32) (0 : Int32) = rec22 (iH g) (iC fb A') uT (iI B') (iM M) (iS g fb A' B' M sd') (l3 + 1) ∧ iR g fb A' B' M ∧ A'.1 = A.1 + 1 := by
  obtain ⟨A', B', sd', r, j1, j2, j3, j4⟩ := j_one (uT := uT) (sd := sd) hR hh
  refine ⟨A', B', sd', ?_, j3, j4.1.1⟩
  obtain ⟨fl, lim, nr, len, tp, th, ta⟩ := g
  obtain ⟨hr, a, wy, st, wr, sp, la, cl, nx, ct, wm, rd⟩ := A
  obtain ⟨mn, tl, Ts, Hs⟩ := B
  obtain ⟨nm, lk, dl⟩ := M
  obtain ⟨hrq, aq, wyq, stq, wrq, spq, laq, clq, nxq, ctq, wmq, rdq⟩ := A'
  obtain ⟨mnq, tlq, Tsq, Hsq⟩ := B'
  have hh : hr < 900000 := hh
  have h : iRx fl lim nr len tp th ta fb hr a wy st wr sp la cl nx ct wm rd mn tl := hR.1
  have hy : iRy th nx hr mn tl Ts Hs := hR.2.1
  have hm : oM4 (nm, lk, dl) := hR.2.2
  have hnm : nm ≤ 4 := hm.1
  have hq : iRx fl lim nr len tp th ta fb hrq aq wyq stq wrq spq laq clq nxq ctq wmq rdq mnq tlq := j3.1
  have hmn := R_mn2 h
  have hmnq := R_mn2 hq
  have haq : aq < fl := hq.2.2.2.2.2.2.2.2.2.1
  have hxq : ∀ f, nxq f ≤ len f := hq.2.2.2.2.2.2.2.2.2.2.2.2.2.2.2.2.1
  have hwq : ∀ r, wmq r ≤ 99 := hq.2.2.2.2.2.2.2.2.2.2.2.2.2.2.2.2.2.2.2.1
  have hspq : spq ≤ 10 * hrq := hq.2.2.2.2.2.2.2.2.2.2.2.2.2.1
  have hctq : ∀ f, ctq f ≤ nxq f := hq.2.2.2.2.2.2.2.2.2.2.2.2.2.2.2.2.2.1
  have v1 : hrq = hr + 1 := j4.1.1
  have v2 : cnt clq 12 = 0 → wyq = nI 0 := j4.1.2.1
  obtain ⟨P, D, p1, p2, p3, p4, p5, p6, p7, p8, p9, p10, p11, p12, p13, p14, p15, p16⟩ := hour_sum h haq j4.2 v1
  have hh0 := h
  obtain ⟨⟨h1, h1b⟩, ⟨h2, h2b⟩, h3, h4, h5, h6, h7, h8, h9, h10, h11, h12, h13, h14, h15, h16, h17, h18, h19, h20, h21, h22, h23⟩ := h
  obtain ⟨v3, v4⟩ := mv_facts (fl := fl) h10 h1b haq j4.1.2.2.1 j4.1.2.2.2
  have ec := cnt_cut h1b h16
  have hcn := cnt_le 12 cl
  have b1 : sm ctq 12 ≤ 108 := by
    have := sm_le (w' := fun _ => 9) 12 (fun j _ => Nat.le_trans (hctq j) (Nat.le_trans (hxq j) (h4 j)))
    rw [sm_c] at this
    omega
  rw [← ec] at v3
  -- the state as it is
  have e1 := w_L99 (uT := uT) (uG := (nI hr, nI a, wy, nI st, nI wr, nI lim, nI sp, (fl, bF cl), bF fb, (fl, sCh len nx ct tp th), (nr, sRd nr ta wm rd), (nm, sMi nm lk dl), (mn, sPr mn tl Ts Hs tp th), sd)) (xv := xv) (Lc := Lc) (rec22 := rec22) (l3 := l3) (nm := nm) (lk := lk) (dl := dl) (Ts := Ts) (Hs := Hs) hh0 fl 0 200 (by omega) (by omega)
  rw [mixF_0, mixF_0, show cnt cl 0 = 0 from rfl, show sm len 0 = 0 from rfl, show sm nx 0 = 0 from rfl, w_L253z hh0 (by omega), w_L359 hh0 hy hm (by omega) mn 0 200 (by omega) (by omega), w_L573 hh0 hy hm (by omega) nm 0 200 (by omega) (by omega)] at e1
  have e2 := w_L648 (uT := uT) (uG := (nI hr, nI a, wy, nI st, nI wr, nI lim, nI sp, (fl, bF cl), bF fb, (fl, sCh len nx ct tp th), (nr, sRd nr ta wm rd), (nm, sMi nm lk dl), (mn, sPr mn tl Ts Hs tp th), sd)) (xv := xv) (Lc := Lc) (rec22 := rec22) (l3 := l3) (l5 := nI fl) (l6 := nI mn) (l7 := nI (cnt cl fl)) (f0 := mixF (nx1 len nx) z0F fl) (n0 := fl) (f1 := mixF (bF cl) z0F fl) (n1 := fl) (nm := nm) (lk := lk) (dl := dl) (Ts := Ts) (Hs := Hs) hh0 nr 0 200 (by omega) (by omega)
  rw [mixF_0, mixF_0, show cnt rd 0 = 0 from rfl, show sm (wm1 wm rd) 0 = 0 from rfl, w_J792 hh0] at e2
  have j1 : p_X4_passHours (nI fl, nI lim, nI nr, nF len, nF tp, nF th, nF ta) (nI hr, nI a, wy, nI st, nI wr, nI sp, nI la, bF cl, nF nx, nF ct, bF fb, nF wm, bF rd) uT (nI mn, (fun i => nI (tl i / 9)), (fun i => nI (tl i % 9)), nF Ts, nF Hs) (nI nm, nF lk, nF dl) (1 : Int32) = some (nI mnq - nI mn, (nI hrq, nI aq, wyq, nI stq, nI wrq, nI spq, nI laq, bF clq, nF nxq, nF ctq, bF fb, nF wmq, bF rdq), (nI mnq, (fun i => nI (tlq i / 9)), (fun i => nI (tlq i % 9)), nF Tsq, nF Hsq)) := by rw [L1]; exact j1
  have j2 : p_X5_pass (nI hr, nI a, wy, nI st, nI wr, nI lim, nI sp, (fl, bF cl), bF fb, (fl, sCh len nx ct tp th), (nr, sRd nr ta wm rd), (nm, sMi nm lk dl), (mn, sPr mn tl Ts Hs tp th), sd) = some (iS (fl, lim, nr, len, tp, th, ta) fb (hrq, aq, wyq, stq, wrq, spq, laq, clq, nxq, ctq, wmq, rdq) (mnq, tlq, Tsq, Hsq) (nm, lk, dl) sd') := j2
  unfold p_X4_liftAt p_X4_stuckFor p_X4_suspense at e2
  rw [bd_sm, bd_sm, bd_sm, X_cuts, bd_sm, j1, bd_sm, j2, bd_sm, bd_sm] at e2
  dsimp only at e2
  rw [L0] at e2 ⊢
  refine e1.trans (e2.trans ?_)
  rw [p6, nI_sub (by omega), Nat.add_sub_cancel_left, ← p6]
  have e3 := w_L881 (uT := uT) (uG := iS (fl, lim, nr, len, tp, th, ta) fb (hrq, aq, wyq, stq, wrq, spq, laq, clq, nxq, ctq, wmq, rdq) (mnq, tlq, Tsq, Hsq) (nm, lk, dl) sd') (xv := xv) (Lc := Lc) (rec22 := rec22) (l3 := l3) (hrq := hrq) (stq := stq) (wyq := wyq) (wrq := wrq) (spq := spq) (laq := laq) (fb := fb) (ctq := ctq) (wmq := wmq) (rdq := rdq) (mnq := mnq) (tlq := tlq) (Tsq := Tsq) (Hsq := Hsq) (lim := lim) (nr := nr) (tp := tp) (th := th) (ta := ta) (nm := nm) (lk := lk) (dl := dl) (mn := mn) (f2 := mixF (nF (wm1 wm rd)) z0F nr) (f3 := mixF (bF rd) z0F nr) (d := nI aq - nI a) (l7 := nI (cnt cl fl)) (l13 := nI nr) (l18 := nI a) (l19 := nI st) (l20 := nI sp) (l21 := nI (sm ct 12)) (l22 := nI P) h4 hxq h1b (f0 := mixF (nx1 len nx) z0F fl) (f1 := mixF (bF cl) z0F fl) (fun i hi => mixF_at hi) (fun i hi => mixF_at hi) haq p15 p16 fl 0 200 (by omega) (by omega)
  refine Eq.trans e3 ?_
  rw [← p4, w_L973 (cl := cl) (by omega) h12 h10 h1b (fun i hi => mixF_at hi) v3 v4 fl 0 200 false (by omega) (by omega) (fun k hk => absurd hk (Nat.not_lt_zero k)), w_J1086 (P := 0) p3 p5 h12, w_J1102 p1 ⟨p2, by omega⟩ ⟨p7.1, b1, p7.2⟩ ⟨p6, hmnq⟩ ⟨by omega, by omega⟩ p8 p9 p10 h12, w_J1186 p1 h4 h1b h6 hmnq p11, L0]
  exact w_L1262 (f2 := mixF (nF (wm1 wm rd)) z0F nr) (f3 := mixF (bF rd) z0F nr) h3 p1 h20 hwq p12 p13 p14 (fun i hi => mixF_at hi) (fun i hi => mixF_at hi) v2 nr 0 200 (by omega) (by omega)
end
