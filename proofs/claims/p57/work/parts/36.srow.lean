/-! THE PURE PART: the law's own rows read and written -/
section
variable {len nx ct tp th : Nat → Nat} {f k v : Nat}
theorem sCh_1 : (sCh len nx ct tp th f).1 = 2 + 2 * len f := rfl
theorem sCh_0 : (sCh len nx ct tp th f).2 0 = nI (nx f) := rfl
theorem sCh_c : (sCh len nx ct tp th f).2 1 = nI (ct f) := rfl
theorem sCh_t (h : k < len f) : (sCh len nx ct tp th f).2 (2 + 2 * k) = nI (tp (9 * f + k)) := by
  show (if 2 + 2 * k = 0 then nI (nx f) else if 2 + 2 * k = 1 then nI (ct f) else if 2 + 2 * k < 2 + 2 * len f then (if (2 + 2 * k) % 2 = 0 then nI (tp (9 * f + (2 + 2 * k - 2) / 2)) else nI (th (9 * f + (2 + 2 * k - 2) / 2))) else nI 0) = _
  rw [if_neg (by omega), if_neg (by omega), if_pos (by omega), if_pos (by omega), show (2 + 2 * k - 2) / 2 = k by omega]
theorem sCh_h (h : k < len f) : (sCh len nx ct tp th f).2 (3 + 2 * k) = nI (th (9 * f + k)) := by
  show (if 3 + 2 * k = 0 then nI (nx f) else if 3 + 2 * k = 1 then nI (ct f) else if 3 + 2 * k < 2 + 2 * len f then (if (3 + 2 * k) % 2 = 0 then nI (tp (9 * f + (3 + 2 * k - 2) / 2)) else nI (th (9 * f + (3 + 2 * k - 2) / 2))) else nI 0) = _
  rw [if_neg (by omega), if_neg (by omega), if_pos (by omega), if_neg (by omega), show (3 + 2 * k - 2) / 2 = k by omega]
theorem sCh_u0 : uR (sCh len nx ct tp th) f (upd (sCh len nx ct tp th f).2 0 (nI v)) = sCh len (ud nx f v) ct tp th := by
  funext j
  unfold uR
  by_cases e : j = f
  · subst e
    rw [if_pos rfl]
    refine Prod.ext rfl (funext fun i => ?_)
    show upd (sCh len nx ct tp th j).2 0 (nI v) i = (sCh len (ud nx j v) ct tp th j).2 i
    unfold upd sCh
    dsimp only
    rw [ud_at]
    by_cases h : i = 0
    · rw [if_pos h, if_pos h]
    · rw [if_neg h, if_neg h, if_neg h]
  · rw [if_neg e]
    unfold sCh
    rw [ud_ne _ _ e]
theorem sCh_u1 : uR (sCh len nx ct tp th) f (upd (sCh len nx ct tp th f).2 1 (nI v)) = sCh len nx (ud ct f v) tp th := by
  funext j
  unfold uR
  by_cases e : j = f
  · subst e
    rw [if_pos rfl]
    refine Prod.ext rfl (funext fun i => ?_)
    show upd (sCh len nx ct tp th j).2 1 (nI v) i = (sCh len nx (ud ct j v) tp th j).2 i
    unfold upd sCh
    dsimp only
    rw [ud_at]
    by_cases h0 : i = 0
    · rw [if_neg (by omega), if_pos h0, if_pos h0]
    · by_cases h : i = 1
      · rw [if_pos h, if_neg h0, if_pos h]
      · rw [if_neg h, if_neg h0, if_neg h, if_neg h0, if_neg h]
  · rw [if_neg e]
    unfold sCh
    rw [ud_ne _ _ e]
end
section
variable {nr r v : Nat} {ta wm : Nat → Nat} {rd : Nat → Bool}
theorem sRd_1 (h : r < nr) : (sRd nr ta wm rd r).1 = 3 := by unfold sRd; rw [if_pos h]
theorem sRd_t (h : r < nr) : (sRd nr ta wm rd r).2 0 = nI (ta r) := by unfold sRd; rw [if_pos h]; rfl
theorem sRd_w (h : r < nr) : (sRd nr ta wm rd r).2 1 = nI (wm r) := by unfold sRd; rw [if_pos h]; rfl
theorem sRd_r (h : r < nr) : (sRd nr ta wm rd r).2 2 = bI (rd r) := by unfold sRd; rw [if_pos h]; rfl
theorem sRd_u1 (hr : r < nr) : uR (sRd nr ta wm rd) r (upd (sRd nr ta wm rd r).2 1 (nI v)) = sRd nr ta (ud wm r v) rd := by
  funext j
  unfold uR
  by_cases e : j = r
  · subst e
    rw [if_pos rfl]
    unfold sRd
    rw [if_pos hr, if_pos hr]
    refine Prod.ext rfl (funext fun i => ?_)
    show upd _ 1 (nI v) i = _
    unfold upd
    dsimp only
    rw [ud_at]
    by_cases h0 : i = 0
    · rw [if_neg (by omega), if_pos h0, if_pos h0]
    · by_cases h : i = 1
      · rw [if_pos h, if_neg h0, if_pos h]
      · rw [if_neg h, if_neg h0, if_neg h, if_neg h0, if_neg h]
  · rw [if_neg e]
    unfold sRd
    rw [ud_ne _ _ e]
theorem sRd_u2 (hr : r < nr) : uR (sRd nr ta wm rd) r (upd (sRd nr ta wm rd r).2 2 (bI false)) = sRd nr ta wm (ud rd r false) := by
  funext j
  unfold uR
  by_cases e : j = r
  · subst e
    rw [if_pos rfl]
    unfold sRd
    rw [if_pos hr, if_pos hr]
    refine Prod.ext rfl (funext fun i => ?_)
    show upd _ 2 (bI false) i = _
    unfold upd
    dsimp only
    rw [ud_at]
    by_cases h0 : i = 0
    · rw [if_neg (by omega), if_pos h0, if_pos h0]
    · by_cases h : i = 1
      · rw [if_neg (by omega), if_neg h0, if_pos h, if_neg h0, if_pos h]
      · by_cases h2 : i = 2
        · rw [if_pos h2, if_neg h0, if_neg h, if_pos h2]
        · rw [if_neg h2, if_neg h0, if_neg h, if_neg h2, if_neg h0, if_neg h, if_neg h2]
  · rw [if_neg e]
    unfold sRd
    rw [ud_ne _ _ e]
end
section
variable {mn : Nat} {tl Ts Hs tp th : Nat → Nat} {i : Nat}
theorem sPr_1 (h : i < mn) : (sPr mn tl Ts Hs tp th i).1 = 6 := by unfold sPr; rw [if_pos h]
theorem sPr_a (h : i < mn) : (sPr mn tl Ts Hs tp th i).2 0 = nI (tl i / 9) := by unfold sPr; rw [if_pos h]; rfl
theorem sPr_p (h : i < mn) : (sPr mn tl Ts Hs tp th i).2 1 = nI (tl i % 9) := by unfold sPr; rw [if_pos h]; rfl
theorem sPr_t (h : i < mn) : (sPr mn tl Ts Hs tp th i).2 2 = nI (tp (tl i)) := by unfold sPr; rw [if_pos h]; rfl
theorem sPr_o (h : i < mn) : (sPr mn tl Ts Hs tp th i).2 3 = nI (th (tl i)) := by unfold sPr; rw [if_pos h]; rfl
theorem sPr_s (h : i < mn) : (sPr mn tl Ts Hs tp th i).2 4 = nI (Ts i) := by unfold sPr; rw [if_pos h]; rfl
theorem sPr_h (h : i < mn) : (sPr mn tl Ts Hs tp th i).2 5 = nI (Hs i) := by unfold sPr; rw [if_pos h]; rfl
theorem sPr_push {q x y : Nat} : pR (mn, sPr mn tl Ts Hs tp th) (6, upd (upd (upd (upd (upd (upd (fun _ => nI 0) 0 (nI (q / 9))) 1 (nI (q % 9))) 2 (nI (tp q))) 3 (nI (th q))) 4 (nI x)) 5 (nI y)) = (mn + 1, sPr (mn + 1) (ud tl mn q) (ud Ts mn x) (ud Hs mn y) tp th) := by
  unfold pR
  refine Prod.ext rfl (funext fun j => ?_)
  show (if j = mn then _ else sPr mn tl Ts Hs tp th j) = sPr (mn + 1) (ud tl mn q) (ud Ts mn x) (ud Hs mn y) tp th j
  unfold sPr
  by_cases e : j = mn
  · subst e
    rw [if_pos rfl, if_pos (by omega), ud_at, ud_at, ud_at]
    refine Prod.ext rfl (funext fun i => ?_)
    show upd (upd (upd (upd (upd (upd (fun _ => nI 0) 0 (nI (q / 9))) 1 (nI (q % 9))) 2 (nI (tp q))) 3 (nI (th q))) 4 (nI x)) 5 (nI y) i = _
    unfold upd
    dsimp only
    by_cases h5 : i = 5
    · subst h5; rfl
    · rw [if_neg h5]
      by_cases h4 : i = 4
      · subst h4; rfl
      · rw [if_neg h4]
        by_cases h3 : i = 3
        · subst h3; rfl
        · rw [if_neg h3]
          by_cases h2 : i = 2
          · subst h2; rfl
          · rw [if_neg h2]
            by_cases h1 : i = 1
            · subst h1; rfl
            · rw [if_neg h1]
              by_cases h0 : i = 0
              · subst h0; rfl
              · rw [if_neg h0, if_neg h0, if_neg h1, if_neg h2, if_neg h3, if_neg h4, if_neg h5]
  · rw [if_neg e]
    by_cases h : j < mn
    · rw [if_pos h, if_pos (by omega), ud_ne _ _ e, ud_ne _ _ e, ud_ne _ _ e]
    · rw [if_neg h, if_neg (by omega)]
end
theorem gN_nI {α : Type} {a n : Nat} (k : Option α) (h : a < n) : gN a n k = k := gN_in h
/-- a loop that adds, with more to carry -/
theorem fl_s2 {L : Nat → Int32 → Int32 → Option Int32} {N : Nat} {w : Nat → Nat} (fuel : Nat) (hN : N < fuel) (hs : ∀ f acc i : Nat, i ≤ N → L (f + 1) (nI acc) (nI i) = if N ≤ i then some (nI acc) else L f (nI (acc + w i)) (nI (i + 1))) : L fuel (nI 0) (nI 0) = some (nI (sm w N)) := fl_sum0 fuel hN hs
section
variable {hr a st wr sp la : Nat} {wy : Int32} {cl fb rd : Nat → Bool} {nx ct wm : Nat → Nat} {fl lim nr : Nat} {len tp th ta : Nat → Nat} {sd : Int32} {nm mn : Nat} {lk dl tl Ts Hs : Nat → Nat}
theorem sS_calls (hfl : fl ≤ 12) : p_X5_calls (nI hr, nI a, wy, nI st, nI wr, nI lim, nI sp, (fl, bF cl), bF fb, (fl, sCh len nx ct tp th), (nr, sRd nr ta wm rd), (nm, sMi nm lk dl), (mn, sPr mn tl Ts Hs tp th), sd) = some (nI (cnt cl fl)) := by
  unfold p_X5_calls
  rw [L0]
  refine fl_s2 (L := fun f x i => p_X5_calls_L13 f (nI hr, nI a, wy, nI st, nI wr, nI lim, nI sp, (fl, bF cl), bF fb, (fl, sCh len nx ct tp th), (nr, sRd nr ta wm rd), (nm, sMi nm lk dl), (mn, sPr mn tl Ts Hs tp th), sd) x (nI fl) i) 200 (by omega) (fun f acc i hi => ?_)
  show p_X5_calls_L13 (f + 1) _ _ _ _ = _
  rw [p_X5_calls_L13]
  by_cases h : fl ≤ i
  · simp (disch := omega) only [↓Lm1, L0, L1, L2, L3, L4, L5, L7, L8, L9, L10, L12, L20, L21, L33, L40, L60, L80, L99, L108, nI_add, nI_mul, gd_nI, nI_cl, nI_lt', nI_le', nI_eq', bd_sm, nF_app, bF_app, bI_n0, nI_m1e, nI_m1e', nI_m1l, nI_m1l', nI_m1t, nI_m1t', if_true, if_false, h]
  · simp (disch := omega) only [↓Lm1, L0, L1, L2, L3, L4, L5, L7, L8, L9, L10, L12, L20, L21, L33, L40, L60, L80, L99, L108, nI_add, nI_mul, gd_nI, nI_cl, nI_lt', nI_le', nI_eq', bd_sm, nF_app, bF_app, bI_n0, nI_m1e, nI_m1e', nI_m1l, nI_m1l', nI_m1t, nI_m1t', if_true, if_false, h]
    cases hc : cl i <;> simp [b1]
theorem cnt_cut {n N : Nat} {g : Nat → Bool} (h : n ≤ N) (hz : ∀ j, n ≤ j → g j = false) : cnt g n = cnt g N := by
  unfold cnt
  exact sm_cut h (fun j hj => by rw [hz j hj]; rfl)
/-- the end of an hour -/
theorem sS_tail (hfl : fl ≤ 12) (hz : ∀ f, fl ≤ f → cl f = false) (hlim : lim ≤ 99) (hst : st ≤ 25) (hwr : wr < 2000000) : p_X5_pass_J351 (nI hr, nI a, wy, nI st, nI wr, nI lim, nI sp, (fl, bF cl), bF fb, (fl, sCh len nx ct tp th), (nr, sRd nr ta wm rd), (nm, sMi nm lk dl), (mn, sPr mn tl Ts Hs tp th), sd) = some (iS (fl, lim, nr, len, tp, th, ta) fb (tlA lim hr a wy st wr sp la cl nx ct wm rd) (mn, tl, Ts, Hs) (nm, lk, dl) sd) := by
  have hcn := cnt_le 12 cl
  unfold p_X5_pass_J351 p_X5_pass_J363 p_X5_pass_J398 iS tlA
  rw [sS_calls hfl, cnt_cut hfl hz]
  simp (disch := omega) only [↓Lm1, L0, L1, L2, L3, L4, L5, L7, L8, L9, L10, L12, L20, L21, L33, L40, L60, L80, L99, L108, nI_add, nI_mul, gd_nI, nI_cl, nI_lt', nI_le', nI_eq', bd_sm, nF_app, bF_app, bI_n0, nI_m1e, nI_m1e', nI_m1l, nI_m1l', nI_m1t, nI_m1t', if_true, if_false, nI_div]
  by_cases h1 : cnt cl 12 = 0 <;> by_cases h2 : st = 0 <;> by_cases h3 : lim ≤ wr
  all_goals
    have h4 : (wr < lim) = ¬ (lim ≤ wr) := propext ⟨fun h => by omega, fun h => by omega⟩
    simp (disch := omega) only [h1, h2, h3, h4, if_true, if_false, bd_sm, nI_add, and_true, and_false, not_true_eq_false, not_false_eq_true, ← L0, ← L1] <;> simp [L0, L1, nI_add, Nat.add_comm]
end
