/-! THE PURE PART: what the acts need: draws, sums of the law's own, rows that grow -/
theorem cell_nat (v : Int32) : ∃ x : Nat, x < 2147483648 ∧ v &&& (2147483647 : Int32) = nI x := by
  refine ⟨(v &&& (2147483647 : Int32)).toBitVec.toNat, ?_, ?_⟩
  · rw [Int32.toBitVec_and, BitVec.toNat_and]
    exact Nat.lt_of_le_of_lt Nat.and_le_right (by decide +kernel)
  · apply Int32.toBitVec_inj.mp
    show _ = BitVec.ofNat 32 _
    rw [BitVec.ofNat_toNat, BitVec.setWidth_eq]
theorem below_ok (v : Int32) {n : Nat} (h1 : 1 ≤ n) (h2 : n < 2147483648) : ∃ b : Nat, b < n ∧ p_L_below v (nI n) = some (nI b) := by
  obtain ⟨x, hx, e⟩ := cell_nat v
  have h0 : ¬ nI n = 0 := by rw [L0, nI_eq' h2 (by omega)]; omega
  have hle : x / n * n ≤ x := Nat.div_mul_le_self x n
  refine ⟨x % n, Nat.mod_lt x (by omega), ?_⟩
  unfold p_L_below
  rw [gz_in h0, e, nI_div hx h2, nI_mul, nI_sub hle]
  have := Nat.div_add_mod x n
  rw [Nat.mul_comm] at this
  rw [show x - x / n * n = x % n by omega]
section
variable {hr a st wr sp la : Nat} {wy : Int32} {cl fb rd : Nat → Bool} {nx ct wm : Nat → Nat} {fl lim nr : Nat} {len tp th ta : Nat → Nat} {sd : Int32} {nm mn : Nat} {lk dl tl Ts Hs : Nat → Nat}
theorem sS_subs (hn : nr ≤ 8) : p_X5_subscribers (nI hr, nI a, wy, nI st, nI wr, nI lim, nI sp, (fl, bF cl), bF fb, (fl, sCh len nx ct tp th), (nr, sRd nr ta wm rd), (nm, sMi nm lk dl), (mn, sPr mn tl Ts Hs tp th), sd) = some (nI (cnt rd nr)) := by
  unfold p_X5_subscribers
  rw [L0]
  refine fl_s2 (L := fun f x i => p_X5_subscribers_L13 f (nI hr, nI a, wy, nI st, nI wr, nI lim, nI sp, (fl, bF cl), bF fb, (fl, sCh len nx ct tp th), (nr, sRd nr ta wm rd), (nm, sMi nm lk dl), (mn, sPr mn tl Ts Hs tp th), sd) x (nI nr) i) 200 (by omega) (fun f acc i hi => ?_)
  show p_X5_subscribers_L13 (f + 1) _ _ _ _ = _
  rw [p_X5_subscribers_L13]
  by_cases h : nr ≤ i
  · simp (disch := omega) only [↓Lm1, L0, L1, L2, L3, L4, L5, L7, L8, L9, L10, L12, L20, L21, L33, L40, L60, L80, L99, L108, nI_add, nI_mul, gd_nI, nI_cl, nI_lt', nI_le', nI_eq', bd_sm, nF_app, bF_app, bI_n0, nI_m1e, nI_m1e', nI_m1l, nI_m1l', nI_m1t, nI_m1t', if_true, if_false, h]
  · have hir : i < nr := by omega
    simp (disch := omega) only [↓Lm1, L0, L1, L2, L3, L4, L5, L7, L8, L9, L10, L12, L20, L21, L33, L40, L60, L80, L99, L108, nI_add, nI_mul, gd_nI, nI_cl, nI_lt', nI_le', nI_eq', bd_sm, nF_app, bF_app, bI_n0, nI_m1e, nI_m1e', nI_m1l, nI_m1l', nI_m1t, nI_m1t', if_true, if_false, h, sRd_1 hir, sRd_r hir, bI_b1]
theorem b1_mul (b : Bool) (w : Nat) : b1 b * w = if b = true then w else 0 := by cases b <;> simp [b1]
theorem sS_warm (hn : nr ≤ 8) : p_X5_warmth (nI hr, nI a, wy, nI st, nI wr, nI lim, nI sp, (fl, bF cl), bF fb, (fl, sCh len nx ct tp th), (nr, sRd nr ta wm rd), (nm, sMi nm lk dl), (mn, sPr mn tl Ts Hs tp th), sd) = some (nI (sm (wm1 wm rd) nr)) := by
  unfold p_X5_warmth
  rw [L0]
  refine fl_s2 (L := fun f x i => p_X5_warmth_L13 f (nI hr, nI a, wy, nI st, nI wr, nI lim, nI sp, (fl, bF cl), bF fb, (fl, sCh len nx ct tp th), (nr, sRd nr ta wm rd), (nm, sMi nm lk dl), (mn, sPr mn tl Ts Hs tp th), sd) x (nI nr) i) 200 (by omega) (fun f acc i hi => ?_)
  show p_X5_warmth_L13 (f + 1) _ _ _ _ = _
  rw [p_X5_warmth_L13]
  by_cases h : nr ≤ i
  · simp (disch := omega) only [↓Lm1, L0, L1, L2, L3, L4, L5, L7, L8, L9, L10, L12, L20, L21, L33, L40, L60, L80, L99, L108, nI_add, nI_mul, gd_nI, nI_cl, nI_lt', nI_le', nI_eq', bd_sm, nF_app, bF_app, bI_n0, nI_m1e, nI_m1e', nI_m1l, nI_m1l', nI_m1t, nI_m1t', if_true, if_false, h]
  · have hir : i < nr := by omega
    simp (disch := omega) only [↓Lm1, L0, L1, L2, L3, L4, L5, L7, L8, L9, L10, L12, L20, L21, L33, L40, L60, L80, L99, L108, nI_add, nI_mul, gd_nI, nI_cl, nI_lt', nI_le', nI_eq', bd_sm, nF_app, bF_app, bI_n0, nI_m1e, nI_m1e', nI_m1l, nI_m1l', nI_m1t, nI_m1t', if_true, if_false, h, sRd_1 hir, sRd_r hir, sRd_w hir, bI_b1, b1_mul]
    rfl
theorem sS_cuts (hl : ∀ f, len f ≤ 9) (hfl : fl ≤ 12) : p_X5_cuts (nI hr, nI a, wy, nI st, nI wr, nI lim, nI sp, (fl, bF cl), bF fb, (fl, sCh len nx ct tp th), (nr, sRd nr ta wm rd), (nm, sMi nm lk dl), (mn, sPr mn tl Ts Hs tp th), sd) = some (nI (sm ct fl)) := by
  unfold p_X5_cuts
  rw [L0]
  refine fl_s2 (L := fun f x i => p_X5_cuts_L13 f (nI hr, nI a, wy, nI st, nI wr, nI lim, nI sp, (fl, bF cl), bF fb, (fl, sCh len nx ct tp th), (nr, sRd nr ta wm rd), (nm, sMi nm lk dl), (mn, sPr mn tl Ts Hs tp th), sd) x (nI fl) i) 200 (by omega) (fun f acc i hi => ?_)
  show p_X5_cuts_L13 (f + 1) _ _ _ _ = _
  have h9 := hl i
  rw [p_X5_cuts_L13]
  by_cases h : fl ≤ i
  · simp (disch := omega) only [↓Lm1, L0, L1, L2, L3, L4, L5, L7, L8, L9, L10, L12, L20, L21, L33, L40, L60, L80, L99, L108, nI_add, nI_mul, gd_nI, nI_cl, nI_lt', nI_le', nI_eq', bd_sm, nF_app, bF_app, bI_n0, nI_m1e, nI_m1e', nI_m1l, nI_m1l', nI_m1t, nI_m1t', if_true, if_false, h]
  · simp (disch := omega) only [↓Lm1, L0, L1, L2, L3, L4, L5, L7, L8, L9, L10, L12, L20, L21, L33, L40, L60, L80, L99, L108, nI_add, nI_mul, gd_nI, nI_cl, nI_lt', nI_le', nI_eq', bd_sm, nF_app, bF_app, bI_n0, nI_m1e, nI_m1e', nI_m1l, nI_m1l', nI_m1t, nI_m1t', if_true, if_false, h, sCh_1, sCh_c]
end
/-- a reader more -/
theorem sRd_push {nr t w : Nat} {ta wm : Nat → Nat} {rd : Nat → Bool} : pR (nr, sRd nr ta wm rd) (3, upd (upd (upd (fun _ => nI 0) 0 (nI t)) 1 (nI w)) 2 (nI 1)) = (nr + 1, sRd (nr + 1) (ud ta nr t) (ud wm nr w) (ud rd nr true)) := by
  unfold pR
  refine Prod.ext rfl (funext fun j => ?_)
  show (if j = nr then _ else sRd nr ta wm rd j) = sRd (nr + 1) (ud ta nr t) (ud wm nr w) (ud rd nr true) j
  unfold sRd
  by_cases e : j = nr
  · subst e
    rw [if_pos rfl, if_pos (by omega), ud_at, ud_at, ud_at]
    refine Prod.ext rfl (funext fun i => ?_)
    show upd (upd (upd (fun _ => nI 0) 0 (nI t)) 1 (nI w)) 2 (nI 1) i = _
    unfold upd
    dsimp only
    by_cases h2 : i = 2
    · subst h2; exact bI_t1.symm
    · rw [if_neg h2]
      by_cases h1 : i = 1
      · subst h1; rfl
      · rw [if_neg h1]
        by_cases h0 : i = 0
        · subst h0; rfl
        · rw [if_neg h0, if_neg h0, if_neg h1, if_neg h2]
  · rw [if_neg e]
    by_cases h : j < nr
    · rw [if_pos h, if_pos (by omega), ud_ne _ _ e, ud_ne _ _ e, ud_ne _ _ e]
    · rw [if_neg h, if_neg (by omega)]
/-- a mirror more -/
theorem sMi_push {nm t w : Nat} {lk dl : Nat → Nat} : pR (nm, sMi nm lk dl) (2, upd (upd (fun _ => nI 0) 0 (nI t)) 1 (nI w)) = (nm + 1, sMi (nm + 1) (ud lk nm t) (ud dl nm w)) := by
  unfold pR
  refine Prod.ext rfl (funext fun j => ?_)
  show (if j = nm then _ else sMi nm lk dl j) = sMi (nm + 1) (ud lk nm t) (ud dl nm w) j
  unfold sMi
  by_cases e : j = nm
  · subst e
    rw [if_pos rfl, if_pos (by omega), ud_at, ud_at]
    refine Prod.ext rfl (funext fun i => ?_)
    show upd (upd (fun _ => nI 0) 0 (nI t)) 1 (nI w) i = _
    unfold upd
    dsimp only
    by_cases h1 : i = 1
    · subst h1; rfl
    · rw [if_neg h1]
      by_cases h0 : i = 0
      · subst h0; rfl
      · rw [if_neg h0, if_neg h0, if_neg h1]
  · rw [if_neg e]
    by_cases h : j < nm
    · rw [if_pos h, if_pos (by omega), ud_ne _ _ e, ud_ne _ _ e]
    · rw [if_neg h, if_neg (by omega)]
/-- a paragraph more -/
theorem sCh_q {fl k t x : Nat} {len nx ct tp th : Nat → Nat} (h9 : ∀ f, len f ≤ 9) (hk : len k < 9) : qR (fl, sCh len nx ct tp th) k (4 + 2 * len k, upd (upd (fun i => if i < 2 + 2 * len k then (sCh len nx ct tp th k).2 i else nI 0) (2 + 2 * len k) (nI t)) (3 + 2 * len k) (nI x)) = (fl, sCh (ud len k (len k + 1)) nx ct (ud tp (9 * k + len k) t) (ud th (9 * k + len k) x)) := by
  unfold qR
  refine Prod.ext rfl (funext fun j => ?_)
  show (if j = k then _ else sCh len nx ct tp th j) = sCh (ud len k (len k + 1)) nx ct (ud tp (9 * k + len k) t) (ud th (9 * k + len k) x) j
  by_cases e : j = k
  · subst e
    rw [if_pos rfl]
    refine Prod.ext ?_ (funext fun i => ?_)
    · show 4 + 2 * len j = 2 + 2 * ud len j (len j + 1) j
      rw [ud_at]; omega
    · show upd (upd (fun i => if i < 2 + 2 * len j then (sCh len nx ct tp th j).2 i else nI 0) (2 + 2 * len j) (nI t)) (3 + 2 * len j) (nI x) i = _
      unfold upd sCh
      dsimp only
      rw [ud_at]
      by_cases h3 : i = 3 + 2 * len j
      · subst h3
        rw [if_pos rfl, if_neg (by omega), if_neg (by omega), if_pos (by omega), if_neg (by omega), show 9 * j + (3 + 2 * len j - 2) / 2 = 9 * j + len j by omega, ud_at]
      · rw [if_neg h3]
        by_cases h2 : i = 2 + 2 * len j
        · subst h2
          rw [if_pos rfl, if_neg (by omega), if_neg (by omega), if_pos (by omega), if_pos (by omega), show 9 * j + (2 + 2 * len j - 2) / 2 = 9 * j + len j by omega, ud_at]
        · rw [if_neg h2]
          by_cases h1 : i < 2 + 2 * len j
          · rw [if_pos h1]
            by_cases q0 : i = 0
            · rw [if_pos q0, if_pos q0]
            · rw [if_neg q0, if_neg q0]
              by_cases q1 : i = 1
              · rw [if_pos q1, if_pos q1]
              · rw [if_neg q1, if_neg q1, if_pos h1, if_pos (show i < 2 + 2 * (len j + 1) by omega), ud_ne _ _ (by omega), ud_ne _ _ (by omega)]
          · rw [if_neg h1, if_neg (by omega), if_neg (by omega), if_neg (by omega)]
  · rw [if_neg e]
    have := h9 j
    refine Prod.ext ?_ (funext fun i => ?_)
    · show 2 + 2 * len j = 2 + 2 * ud len k (len k + 1) j
      rw [ud_ne _ _ e]
    · unfold sCh
      dsimp only
      rw [ud_ne _ _ e]
      by_cases q0 : i = 0
      · rw [if_pos q0, if_pos q0]
      · rw [if_neg q0, if_neg q0]
        by_cases q1 : i = 1
        · rw [if_pos q1, if_pos q1]
        · rw [if_neg q1, if_neg q1]
          by_cases h1 : i < 2 + 2 * len j
          · rw [if_pos h1, if_pos h1, ud_ne _ _ (by omega), ud_ne _ _ (by omega)]
          · rw [if_neg h1, if_neg h1]
/-- rows emptied -/
def zN : Nat → Nat := fun _ => 0
def zB : Nat → Bool := fun _ => false
theorem sCh_0z {tp th : Nat → Nat} : sCh zN zN zN tp th = fun _ => (2, fun _ => nI 0) := by
  funext f
  unfold sCh zN
  refine Prod.ext rfl (funext fun i => ?_)
  dsimp only
  by_cases q0 : i = 0
  · rw [if_pos q0]
  · rw [if_neg q0]
    by_cases q1 : i = 1
    · rw [if_pos q1]
    · rw [if_neg q1, if_neg (by omega)]
theorem sPr_0z {tl Ts Hs tp th : Nat → Nat} : sPr 0 tl Ts Hs tp th = fun _ => (0, fun _ => nI 0) := by
  funext f
  unfold sPr
  rw [if_neg (by omega)]
def mixF (f g : Nat → Int32) (i : Nat) : Nat → Int32 := fun j => if j < i then f j else g j
theorem mixF_0 (f g : Nat → Int32) : mixF f g 0 = g := by funext j; unfold mixF; rw [if_neg (by omega)]
theorem mixF_s (f g : Nat → Int32) (i : Nat) : upd (mixF f g i) i (f i) = mixF f g (i + 1) := by
  funext j
  show (if j = i then f i else if j < i then f j else g j) = if j < i + 1 then f j else g j
  by_cases h : j = i
  · subst h; rw [if_pos rfl, if_pos (by omega)]
  · rw [if_neg h]
    by_cases h2 : j < i
    · rw [if_pos h2, if_pos (by omega)]
    · rw [if_neg h2, if_neg (by omega)]
theorem mixF_e {f g : Nat → Int32} {n : Nat} (h : ∀ j, n ≤ j → g j = 0) (h' : ∀ j, n ≤ j → f j = 0) : mixF f g n = f := by
  funext j; unfold mixF
  by_cases h2 : j < n
  · rw [if_pos h2]
  · rw [if_neg h2, h j (by omega), h' j (by omega)]
section
variable {h0 h1 h2 : Int32} {x x2 x3 h4 h5 h6 : Nat → Int32}
theorem cC_clear : ∀ n i fuel : Nat, i + n = 12 → n < fuel → p_X1_clear_L7 fuel (h0, h1, h2, mixF (nF zN) x i, h4, h5, h6) (nI i) = some (h0, h1, h2, mixF (nF zN) x 12, h4, h5, h6) := by
  intro n
  induction n with
  | zero =>
    intro i fuel hi hf
    obtain ⟨f, rfl⟩ : ∃ f, fuel = f + 1 := ⟨fuel - 1, by omega⟩
    rw [p_X1_clear_L7, show i = 12 by omega, if_pos (by decide +kernel)]
  | succ n ih =>
    intro i fuel hi hf
    obtain ⟨f, rfl⟩ : ∃ f, fuel = f + 1 := ⟨fuel - 1, by omega⟩
    rw [p_X1_clear_L7, L12, if_neg (mt (nI_leI (by omega) (by omega)).mp (by omega)), gd_nI _ (by omega) (by omega), nI_cl (by omega), L0, L1, nI_add]
    have e := mixF_s (nF zN) x i
    rw [show nF zN i = nI 0 from rfl] at e
    show p_X1_clear_L7 f (h0, h1, h2, upd (mixF (nF zN) x i) i (nI 0), h4, h5, h6) (nI (i + 1)) = _
    rw [e]
    exact ih (i + 1) f (by omega) (by omega)
end
section
variable {hr aa wy st wr sp la : Int32} {x x2 x3 q4 q5 q6 : Nat → Int32} {uH : tX1}
theorem cC_over : ∀ n i fuel : Nat, i + n = 12 → n < fuel → p_X0_startOver_L32 fuel (hr, aa, wy, st, wr, sp, la, mixF (bF zB) x i, mixF (nF zN) x2 i, mixF (nF zN) x3 i, q4, q5, q6) uH (nI i) = some (hr, aa, wy, st, wr, sp, la, mixF (bF zB) x 12, mixF (nF zN) x2 12, mixF (nF zN) x3 12, q4, q5, q6) := by
  intro n
  induction n with
  | zero =>
    intro i fuel hi hf
    obtain ⟨f, rfl⟩ : ∃ f, fuel = f + 1 := ⟨fuel - 1, by omega⟩
    rw [p_X0_startOver_L32, show i = 12 by omega, if_pos (by decide +kernel)]
  | succ n ih =>
    intro i fuel hi hf
    obtain ⟨f, rfl⟩ : ∃ f, fuel = f + 1 := ⟨fuel - 1, by omega⟩
    rw [p_X0_startOver_L32, L12, if_neg (mt (nI_leI (by omega) (by omega)).mp (by omega)), gd_nI _ (by omega) (by omega), nI_cl (by omega), nar_0, L0, L1, nI_add]
    have e1 : upd (mixF (bF zB) x i) i (bI false) = mixF (bF zB) x (i + 1) := mixF_s (bF zB) x i
    have e2 : upd (mixF (nF zN) x2 i) i (nI 0) = mixF (nF zN) x2 (i + 1) := mixF_s (nF zN) x2 i
    have e3 : upd (mixF (nF zN) x3 i) i (nI 0) = mixF (nF zN) x3 (i + 1) := mixF_s (nF zN) x3 i
    show p_X0_startOver_L32 f (hr, aa, wy, st, wr, sp, la, upd (mixF (bF zB) x i) i (bI false), upd (mixF (nF zN) x2 i) i (nI 0), upd (mixF (nF zN) x3 i) i (nI 0), q4, q5, q6) uH (nI (i + 1)) = _
    rw [e1, e2, e3]
    exact ih (i + 1) f (by omega) (by omega)
end
