/-! THE PURE PART: the law, what is asked of a state: floors, topics -/
abbrev z0F : Nat → Int32 := fun _ => (0 : Int32)
theorem mixF_at {f g : Nat → Int32} {i n : Nat} (h : i < n) : mixF f g n i = f i := if_pos h
theorem mixF_b {cl : Nat → Bool} {g : Nat → Int32} {i : Nat} : upd (mixF (bF cl) g i) i (bI (cl i)) = mixF (bF cl) g (i + 1) := mixF_s (bF cl) g i
theorem mixF_n {w : Nat → Nat} {g : Nat → Int32} {i : Nat} : upd (mixF (nF w) g i) i (nI (w i)) = mixF (nF w) g (i + 1) := mixF_s (nF w) g i
theorem mixF_x {len nx : Nat → Nat} {g : Nat → Int32} {i : Nat} : upd (mixF (nx1 len nx) g i) i (nx1 len nx i) = mixF (nx1 len nx) g (i + 1) := mixF_s (nx1 len nx) g i
theorem cnt_succ (g : Nat → Bool) (n : Nat) : cnt g (n + 1) = cnt g n + b1 (g n) := sm_succ _ n
theorem m1_l : (m1 < m1) = False := by decide +kernel
theorem m1_n1 : (-nI 1 : Int32) = m1 := by decide +kernel
theorem nI_pos0 {n : Nat} (h : n < 2147483648) : (0 ≤ nI n) = True := by rw [L0, nI_le' (by omega) h]; exact eq_true (by omega)
theorem nI_neg00 {n : Nat} (h : n < 2147483648) : (nI n < 0) = False := by rw [L0, nI_lt' h (by omega)]; exact eq_false (by omega)
theorem m1_pos0 : (0 ≤ m1) = False := by decide +kernel
theorem m1_neg : (m1 < -1) = False := by decide +kernel
theorem nI_neg1 {n : Nat} (h : n < 2147483648) : (nI n < -1) = False := by rw [Lm1]; exact nI_m1l h
section
variable {hr a st wr sp la : Nat} {wy : Int32} {cl fb rd : Nat → Bool} {nx ct wm : Nat → Nat} {fl lim nr : Nat} {len tp th ta : Nat → Nat} {sd : Int32} {nm mn : Nat} {lk dl tl Ts Hs : Nat → Nat} {uT : tX0} {uG : tX5} {xv : Nat → Int32} {Lc : Nat} {rec22 : tX1 → tX0 → tX0 → tX2 → tX3 → tX5 → Int32 → Option Unit} {l3 : Int32}
theorem w_J151 {rec99 : tX1 → tX0 → tX0 → tX2 → tX3 → tX5 → (Nat → Int32) → Nat → (Nat → Int32) → Nat → Int32 → Int32 → Int32 → Int32 → Int32 → Int32 → Int32 → Option Unit} {f0 f1 : Nat → Int32} {n0 n1 i s u b c : Nat} {l5 l6 : Int32} (h : iRx fl lim nr len tp th ta fb hr a wy st wr sp la cl nx ct wm rd mn tl) (hi : i < fl) (hn : i < n0) (hn0 : n0 ≤ 12) (hf : f0 i = nx1 len nx i) : p_L_law_J151 xv Lc rec22 rec99 (nI fl, nI lim, nI nr, nF len, nF tp, nF th, nF ta) (nI hr, nI a, wy, nI st, nI wr, nI sp, nI la, bF cl, nF nx, nF ct, bF fb, nF wm, bF rd) uT (nI mn, (fun i => nI (tl i / 9)), (fun i => nI (tl i % 9)), nF Ts, nF Hs) (nI nm, nF lk, nF dl) uG f0 n0 f1 n1 l3 l5 l6 (nI s) (nI u) (nI i) (nI (len i)) (nI b) (nI c) = rec99 (nI fl, nI lim, nI nr, nF len, nF tp, nF th, nF ta) (nI hr, nI a, wy, nI st, nI wr, nI sp, nI la, bF cl, nF nx, nF ct, bF fb, nF wm, bF rd) uT (nI mn, (fun i => nI (tl i / 9)), (fun i => nI (tl i % 9)), nF Ts, nF Hs) (nI nm, nF lk, nF dl) uG f0 n0 f1 n1 l3 l5 l6 (nI (c + b)) (nI (s + len i)) (nI (u + nx i)) (nI (i + 1)) := by
  obtain ⟨⟨h1, h1b⟩, ⟨h2, h2b⟩, h3, h4, h5, h6, h7, h8, h9, h10, h11, h12, h13, h14, h15, h16, h17, h18, h19, h20, h21, h22, h23⟩ := h
  have q1 := h17 i
  have q2 := h18 i
  have q3 := h4 i
  have e0 : ∀ X : Option Unit, gd (nI i) n0 X = X := fun X => gd_nI X hn (by omega)
  unfold p_L_law_J151 p_L_law_J181 p_L_law_J236
  rw [e0, nI_cl (by omega), hf]
  by_cases hx : len i ≤ nx i
  · have e : nx1 len nx i = m1 := if_pos hx
    have e2 : nx i = len i := by omega
    rw [e, if_neg (of_eq_false m1_pos0), e0, if_neg (of_eq_false m1_neg), if_neg (of_eq_false (nI_m1t (by omega))), X_cutOn hi h1b, bd_sm, if_neg (of_eq_false (nI_neg00 (by omega))), bd_sm, if_neg (of_eq_false m1_pos0), if_pos ((nI_leI (by omega) (by omega)).mpr (by omega)), nI_add, nI_add, nI_add, L1, nI_add, e2]
  · have e : nx1 len nx i = nI (nx i) := if_neg hx
    rw [e, if_pos (of_eq_true (nI_pos0 (by omega))), e0, if_neg (of_eq_false (nI_neg1 (by omega))), if_neg (mt (nI_leI (by omega) (by omega)).mp (by omega)), X_cutOn hi h1b, bd_sm, if_neg (of_eq_false (nI_neg00 (by omega))), bd_sm, if_pos (of_eq_true (nI_pos0 (by omega))), if_pos ((nI_leI (by omega) (by omega)).mpr (by omega)), nI_add, nI_add, nI_add, L1, nI_add]
theorem w_L99 (h : iRx fl lim nr len tp th ta fb hr a wy st wr sp la cl nx ct wm rd mn tl) : ∀ n i fuel, i + n = fl → n < fuel → p_L_law_L99 xv Lc rec22 fuel (nI fl, nI lim, nI nr, nF len, nF tp, nF th, nF ta) (nI hr, nI a, wy, nI st, nI wr, nI sp, nI la, bF cl, nF nx, nF ct, bF fb, nF wm, bF rd) uT (nI mn, (fun i => nI (tl i / 9)), (fun i => nI (tl i % 9)), nF Ts, nF Hs) (nI nm, nF lk, nF dl) uG (mixF (nx1 len nx) z0F i) fl (mixF (bF cl) z0F i) fl l3 (nI fl) (nI mn) (nI (cnt cl i)) (nI (sm len i)) (nI (sm nx i)) (nI i) = p_L_law_L253 xv Lc rec22 200 (nI fl, nI lim, nI nr, nF len, nF tp, nF th, nF ta) (nI hr, nI a, wy, nI st, nI wr, nI sp, nI la, bF cl, nF nx, nF ct, bF fb, nF wm, bF rd) uT (nI mn, (fun i => nI (tl i / 9)), (fun i => nI (tl i % 9)), nF Ts, nF Hs) (nI nm, nF lk, nF dl) uG (mixF (nx1 len nx) z0F fl) fl (mixF (bF cl) z0F fl) fl l3 (nI fl) (nI mn) (nI (cnt cl fl)) (nI (sm len fl)) (nI (sm nx fl)) (nI 0) (nI 0) := by
  have hh := h
  obtain ⟨⟨h1, h1b⟩, ⟨h2, h2b⟩, h3, h4, h5, h6, h7, h8, h9, h10, h11, h12, h13, h14, h15, h16, h17, h18, h19, h20, h21, h22, h23⟩ := h
  intro n
  induction n with
  | zero =>
    intro i fuel hi hf
    obtain ⟨f, rfl⟩ : ∃ f, fuel = f + 1 := ⟨fuel - 1, by omega⟩
    have : i = fl := by omega
    subst this
    rw [p_L_law_L99, if_pos (nI_leI (by omega) (by omega) |>.mpr (Nat.le_refl _)), L0]
  | succ n ih =>
    intro i fuel hi hf
    obtain ⟨f, rfl⟩ : ∃ f, fuel = f + 1 := ⟨fuel - 1, by omega⟩
    have hi2 : i < fl := by omega
    have e0 : ∀ X : Option Unit, gd (nI i) fl X = X := fun X => gd_nI X hi2 (by omega)
    have eb : bI (cl i) = nI (b1 (cl i)) := bI_b1 _
    have st : p_L_law_J151 xv Lc rec22 (p_L_law_L99 xv Lc rec22 f) (nI fl, nI lim, nI nr, nF len, nF tp, nF th, nF ta) (nI hr, nI a, wy, nI st, nI wr, nI sp, nI la, bF cl, nF nx, nF ct, bF fb, nF wm, bF rd) uT (nI mn, (fun i => nI (tl i / 9)), (fun i => nI (tl i % 9)), nF Ts, nF Hs) (nI nm, nF lk, nF dl) uG (mixF (nx1 len nx) z0F (i + 1)) fl (mixF (bF cl) z0F (i + 1)) fl l3 (nI fl) (nI mn) (nI (sm len i)) (nI (sm nx i)) (nI i) (nI (len i)) (nI (b1 (cl i))) (nI (cnt cl i)) = p_L_law_L253 xv Lc rec22 200 (nI fl, nI lim, nI nr, nF len, nF tp, nF th, nF ta) (nI hr, nI a, wy, nI st, nI wr, nI sp, nI la, bF cl, nF nx, nF ct, bF fb, nF wm, bF rd) uT (nI mn, (fun i => nI (tl i / 9)), (fun i => nI (tl i % 9)), nF Ts, nF Hs) (nI nm, nF lk, nF dl) uG (mixF (nx1 len nx) z0F fl) fl (mixF (bF cl) z0F fl) fl l3 (nI fl) (nI mn) (nI (cnt cl fl)) (nI (sm len fl)) (nI (sm nx fl)) (nI 0) (nI 0) := by
      rw [w_J151 hh hi2 hi2 h1b (mixF_at (by omega)), ← cnt_succ, ← sm_succ, ← sm_succ]
      exact ih (i + 1) f (by omega) (by omega)
    rw [p_L_law_L99, if_neg (mt (nI_leI (by omega) (by omega)).mp (by omega)), X_paras hi2 h1b, bd_sm, X_next h4 h17 hi2 h1b, bd_sm, e0, X_called hi2 h1b, bd_sm, e0, nI_cl (by omega), nar_bI, mixF_b, mixF_x, mixF_at (by omega)]
    rw [← st]
    cases hc : cl i
    · rw [if_pos (show bF cl i = 0 by show bI (cl i) = 0; rw [hc]; rfl)]; rfl
    · rw [if_neg (show ¬ bF cl i = 0 by show ¬ bI (cl i) = 0; rw [hc]; decide +kernel)]; rfl
theorem okw_lo {wy : Int32} (h : okw wy) : ¬ wy < -1 ∧ ¬ (1 : Int32) < wy := by
  rcases h with h | h | h <;> subst h <;> decide +kernel
theorem w_L253 (h : iRx fl lim nr len tp th ta fb hr a wy st wr sp la cl nx ct wm rd mn tl) (hh : hr < 1000000) {f0 f1 : Nat → Int32} : ∀ n i fuel, i + n = 8 → n < fuel → p_L_law_L253 xv Lc rec22 fuel (nI fl, nI lim, nI nr, nF len, nF tp, nF th, nF ta) (nI hr, nI a, wy, nI st, nI wr, nI sp, nI la, bF cl, nF nx, nF ct, bF fb, nF wm, bF rd) uT (nI mn, (fun i => nI (tl i / 9)), (fun i => nI (tl i % 9)), nF Ts, nF Hs) (nI nm, nF lk, nF dl) uG f0 fl f1 fl l3 (nI fl) (nI mn) (nI (cnt cl fl)) (nI (sm len fl)) (nI (sm nx fl)) (nI (sm (tcG len nx tp fl) i)) (nI i) = p_L_law_L359 xv Lc rec22 200 (nI fl, nI lim, nI nr, nF len, nF tp, nF th, nF ta) (nI hr, nI a, wy, nI st, nI wr, nI sp, nI la, bF cl, nF nx, nF ct, bF fb, nF wm, bF rd) uT (nI mn, (fun i => nI (tl i / 9)), (fun i => nI (tl i % 9)), nF Ts, nF Hs) (nI nm, nF lk, nF dl) uG f0 fl f1 fl l3 (nI fl) (nI mn) (nI (cnt cl fl)) (nI 0) := by
  have hmn := R_mn2 h
  obtain ⟨⟨h1, h1b⟩, ⟨h2, h2b⟩, h3, h4, h5, h6, h7, h8, h9, h10, h11, h12, h13, h14, h15, h16, h17, h18, h19, h20, h21, h22, h23⟩ := h
  have hcn := cnt_le 12 cl
  have hnz : ∀ f, fl ≤ f → nx f = 0 := fun f hf => by have := h17 f; have := h5 f hf; omega
  have e1 := cnt_cut h1b h16
  have e2 : sm nx fl = sm nx 12 := sm_cut h1b hnz
  have e3 := tc_sum (fl := fl) h6 h17
  have b1 : sm len fl ≤ 108 := by
    have := sm_le (w' := fun _ => 9) fl (fun j _ => h4 j)
    rw [sm_c] at this
    omega
  have b2 : sm nx fl ≤ sm len fl := sm_mono fl h17
  have b3 : sm ct 12 ≤ sm nx 12 := sm_mono 12 h18
  intro n
  induction n with
  | zero =>
    intro i fuel hi hf
    obtain ⟨f, rfl⟩ : ∃ f, fuel = f + 1 := ⟨fuel - 1, by omega⟩
    have : i = 8 := by omega
    subst this
    obtain ⟨w1, w2⟩ := okw_lo h11
    rw [p_L_law_L253, L8, if_pos (nI_leI (by omega) (by omega) |>.mpr (Nat.le_refl _)), X_calls, bd_sm, if_pos (by rw [e1]), X_cuts, bd_sm, nI_add, if_pos (by rw [h19, e2]), nI_sub b2, if_pos (by congr 1; omega)]
    unfold p_X4_liftAt p_X4_goes p_X4_wear p_X4_suspense
    rw [bd_sm, if_neg (of_eq_false (nI_neg00 (by omega))), bd_sm, if_neg (mt (nI_leI (by omega) (by omega)).mp (by omega)), bd_sm, if_neg w1, bd_sm, if_neg w2, bd_sm, if_neg (of_eq_false (nI_neg00 (by omega))), bd_sm, if_pos (of_eq_true (nI_pos0 (by omega))), L0]
  | succ n ih =>
    intro i fuel hi hf
    obtain ⟨f, rfl⟩ : ∃ f, fuel = f + 1 := ⟨fuel - 1, by omega⟩
    rw [p_L_law_L253, L8, if_neg (mt (nI_leI (by omega) (by omega)).mp (by omega)), X_toCome h4 h17 h6 h1b (by omega), bd_sm, nI_add, L1, nI_add, ← sm_succ]
    exact ih (i + 1) f (by omega) (by omega)
end
