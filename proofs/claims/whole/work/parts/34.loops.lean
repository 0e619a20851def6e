/-! THE PURE PART: the model's ways; readers get warmer and cooler -/
theorem cL_isFloor {z : tX5} {fl k : Nat} (h : z.2.2.2.2.1 = nI fl) (h1 : 1 ≤ fl) (h2 : fl ≤ 12) (hk : k < 2147483648) : p_X5_isFloor z (nI k) = some (bI (decide (k < fl))) := by
  unfold p_X5_isFloor p_X5_isIn
  rw [h]
  simp (disch := omega) only [↓Lm1, L0, L1, L2, L3, L4, L5, L7, L8, L9, L10, L12, L20, L21, L33, L40, L60, L80, L99, L108, nI_add, nI_mul, gd_nI, nI_cl, nI_lt', nI_le', nI_eq', bd_sm, nF_app, bF_app, bI_n0, nI_m1e, nI_m1e', nI_m1l, nI_m1l', nI_m1t, nI_m1t', if_true, if_false, nI_sub]
  rw [if_neg (by omega)]
  by_cases hk : fl - 1 < k
  · rw [if_pos hk, decide_eq_false (by omega), bd_sm, bI_f0]
    exact gq_in (by decide +kernel)
  · rw [if_neg hk, decide_eq_true (by omega), bd_sm, bI_t1]
    exact gq_in (by decide +kernel)
theorem cL_isFloorN {z : tX5} {x : Int32} (hx : x < 0) : p_X5_isFloor z x = some (bI false) := by
  unfold p_X5_isFloor p_X5_isIn
  rw [if_pos hx, bd_sm]
  exact gq_bI false _
theorem m1_lt0 : m1 < 0 := by decide +kernel
theorem cL_has6 {z : tX5} {cl : Nat → Bool} {k : Nat} (h : z.1 6 = mI cl 12) (hk : k < 12) : p_X5_has (z.1 6) (nI k) = some (bI (cl k)) := by
  rw [h, c_has (by omega) (by omega), decide_eq_true hk, Bool.true_and]
theorem cL_up {z : tX5} {cl : Nat → Bool} {fl : Nat} (h : z.2.2.2.2.1 = nI fl) (h6 : z.1 6 = mI cl 12) (h1 : 1 ≤ fl) (h2 : fl ≤ 12) : ∀ n i fuel : Nat, i + n = fl → n < fuel → p_X5_isWay_L9 fuel z (nI 1) (nI i) = some (bI (aF cl i n)) := by
  intro n
  induction n with
  | zero =>
    intro i fuel hi hf
    obtain ⟨f, rfl⟩ : ∃ f, fuel = f + 1 := ⟨fuel - 1, by omega⟩
    rw [p_X5_isWay_L9, cL_isFloor h h1 h2 (by omega), bd_sm, decide_eq_false (by omega), if_pos (bI_eq rfl)]
    rfl
  | succ n ih =>
    intro i fuel hi hf
    obtain ⟨f, rfl⟩ : ∃ f, fuel = f + 1 := ⟨fuel - 1, by omega⟩
    rw [p_X5_isWay_L9, cL_isFloor h h1 h2 (by omega), bd_sm, decide_eq_true (by omega), if_neg (bI_ne rfl), cL_has6 h6 (by omega), bd_sm]
    simp (disch := omega) only [↓Lm1, L0, L1, L2, L3, L4, L5, L7, L8, L9, L10, L12, L20, L21, L33, L40, L60, L80, L99, L108, nI_add, nI_mul, gd_nI, nI_cl, nI_lt', nI_le', nI_eq', bd_sm, nF_app, bF_app, bI_n0, nI_m1e, nI_m1e', nI_m1l, nI_m1l', nI_m1t, nI_m1t', if_true, if_false, nI_10]
    rw [if_neg (by omega), ih (i + 1) f (by omega) (by omega), aF]
    cases hc : cl i <;> simp [bI_t1]
theorem cL_dn {z : tX5} {cl : Nat → Bool} {fl : Nat} (h : z.2.2.2.2.1 = nI fl) (h6 : z.1 6 = mI cl 12) (h1 : 1 ≤ fl) (h2 : fl ≤ 12) : ∀ k fuel : Nat, k ≤ fl → k < fuel → p_X5_isWay_L9 fuel z m1 (pm k) = some (bI (aD cl k)) := by
  intro k
  induction k with
  | zero =>
    intro fuel hi hf
    obtain ⟨f, rfl⟩ : ∃ f, fuel = f + 1 := ⟨fuel - 1, by omega⟩
    rw [p_X5_isWay_L9, pm, cL_isFloorN m1_lt0, bd_sm, if_pos (bI_eq rfl)]
    rfl
  | succ k ih =>
    intro fuel hi hf
    obtain ⟨f, rfl⟩ : ∃ f, fuel = f + 1 := ⟨fuel - 1, by omega⟩
    rw [p_X5_isWay_L9, pm, cL_isFloor h h1 h2 (by omega), bd_sm, decide_eq_true (by omega), if_neg (bI_ne rfl), cL_has6 h6 (by omega), bd_sm, pm_a, ih f (by omega) (by omega), aD]
    simp (disch := omega) only [↓Lm1, L0, L1, L2, L3, L4, L5, L7, L8, L9, L10, L12, L20, L21, L33, L40, L60, L80, L99, L108, nI_add, nI_mul, gd_nI, nI_cl, nI_lt', nI_le', nI_eq', bd_sm, nF_app, bF_app, bI_n0, nI_m1e, nI_m1e', nI_m1l, nI_m1l', nI_m1t, nI_m1t', if_true, if_false]
    cases hc : cl k <;> simp [bI_t1]
theorem cL_near_L {z : tX5} {cl : Nat → Bool} {a fl : Nat} (h : z.2.2.2.2.1 = nI fl) (h6 : z.1 6 = mI cl 12) (ha1 : z.1 1 = nI a) (h2 : fl ≤ 12) (ha : a < fl) (hz : ∀ f, fl ≤ f → cl f = false) : ∀ n d fuel : Nat, 1 ≤ d → d + n = 12 → n < fuel → p_X5_wayToNearest_L2 fuel z (nI d) = some (nearG cl a d n) := by
  intro n
  induction n with
  | zero =>
    intro d fuel h1 hi hf
    obtain ⟨f, rfl⟩ : ∃ f, fuel = f + 1 := ⟨fuel - 1, by omega⟩
    rw [p_X5_wayToNearest_L2, h]
    simp (disch := omega) only [↓Lm1, L0, L1, L2, L3, L4, L5, L7, L8, L9, L10, L12, L20, L21, L33, L40, L60, L80, L99, L108, nI_add, nI_mul, gd_nI, nI_cl, nI_lt', nI_le', nI_eq', bd_sm, nF_app, bF_app, bI_n0, nI_m1e, nI_m1e', nI_m1l, nI_m1l', nI_m1t, nI_m1t', if_true, if_false]
    rw [if_pos (by omega)]
    rfl
  | succ n ih =>
    intro d fuel h1 hi hf
    obtain ⟨f, rfl⟩ : ∃ f, fuel = f + 1 := ⟨fuel - 1, by omega⟩
    rw [p_X5_wayToNearest_L2, h, ha1]
    unfold p_X5_wayToNearest_J48
    simp (disch := omega) only [↓Lm1, L0, L1, L2, L3, L4, L5, L7, L8, L9, L10, L12, L20, L21, L33, L40, L60, L80, L99, L108, nI_add, nI_mul, gd_nI, nI_cl, nI_lt', nI_le', nI_eq', bd_sm, nF_app, bF_app, bI_n0, nI_m1e, nI_m1e', nI_m1l, nI_m1l', nI_m1t, nI_m1t', if_true, if_false]
    by_cases hd : fl ≤ d
    · rw [if_pos hd, near_z ha hz _ _ hd]
    · rw [if_neg hd, ih (d + 1) f (by omega) (by omega) (by omega), ha1]
      have e1 : bd (p_X5_isFloor z (nI a - nI d)) (fun v3 => if v3 = nI 0 then some (nearG cl a (d + 1) n) else bd (p_X5_has (z.1 6) (nI a - nI d)) (fun v4 => if v4 = nI 0 then some (nearG cl a (d + 1) n) else some m1)) = some (if d ≤ a ∧ cl (a - d) = true then m1 else nearG cl a (d + 1) n) := by
        by_cases hda : d ≤ a
        · rw [nI_sub hda, cL_isFloor h (by omega) h2 (by omega), bd_sm, decide_eq_true (by omega), if_neg (bI_ne0 rfl), cL_has6 h6 (by omega), bd_sm]
          cases hc2 : cl (a - d)
          · rw [if_pos (bI_eq0 rfl), if_neg (by simp)]
          · rw [if_neg (bI_ne0 rfl), if_pos ⟨hda, rfl⟩]
        · have hx : nI a - nI d < 0 := of_eq_true (nI_neg_lt (by omega) (by omega))
          rw [cL_isFloorN hx, bd_sm, if_pos (bI_eq0 rfl), if_neg (by omega)]
      rw [e1, nearG, cL_isFloor h (by omega) h2 (by omega), bd_sm]
      by_cases hf2 : a + d < fl
      · rw [decide_eq_true hf2, if_neg (bI_ne0 rfl), cL_has6 h6 (by omega), bd_sm]
        cases hc : cl (a + d)
        · rw [if_pos (bI_eq0 rfl)]
          simp
        · rw [if_neg (bI_ne0 rfl), if_pos rfl]
      · rw [decide_eq_false hf2, if_pos (bI_eq0 rfl), hz (a + d) (by omega)]
        simp
theorem cL_near {z : tX5} {cl : Nat → Bool} {a fl : Nat} (h : z.2.2.2.2.1 = nI fl) (h6 : z.1 6 = mI cl 12) (ha1 : z.1 1 = nI a) (h2 : fl ≤ 12) (ha : a < fl) (hz : ∀ f, fl ≤ f → cl f = false) : p_X5_wayToNearest z = some (nearG cl a 1 11) := by
  unfold p_X5_wayToNearest
  rw [L1]
  exact cL_near_L h h6 ha1 h2 ha hz 11 1 200 (by omega) (by omega) (by omega)
theorem cL_isWay {z : tX5} {cl : Nat → Bool} {a fl : Nat} {wy : Int32} (h : z.2.2.2.2.1 = nI fl) (h6 : z.1 6 = mI cl 12) (ha1 : z.1 1 = nI a) (h2 : fl ≤ 12) (ha : a < fl) (hz : ∀ f, fl ≤ f → cl f = false) (hw : okw wy) : p_X5_isWay z wy = some (bI (goG cl a wy)) := by
  unfold p_X5_isWay
  rw [ha1]
  rcases hw with h0 | h0 | h0
  · subst h0
    rw [goG_0, nI_add, p_X5_isWay_L9, cL_isFloor h (by omega) h2 (by omega), bd_sm, decide_eq_true (by omega), if_neg (bI_ne rfl), if_pos L0.symm]
    rfl
  · subst h0
    rw [goG_1, nI_add, cL_up h h6 (by omega) h2 (fl - (a + 1)) (a + 1) 200 (by omega) (by omega), aF_cut hz (i := a + 1) (n := fl - (a + 1)) (m := 11 - a) (by omega) (by omega)]
  · subst h0
    rw [goG_m, pm_a, cL_dn h h6 (by omega) h2 a 200 (by omega) (by omega), aD_aF]
theorem mI_cnt {g : Nat → Bool} : (mI g 12 = 0) = (cnt g 12 = 0) := by
  rw [mI_0 (by omega)]
  apply propext
  constructor
  · intro h; exact cnt_0 h
  · intro h i hi
    cases hg : g i
    · rfl
    · have := cnt_pos hi hg
      omega
/-! warmer -/
def m99 (v : Nat) : Nat := if v < 99 then v else 99
theorem m99_nI (v : Nat) : (if v < 99 then nI v else nI 99) = nI (m99 v) := by unfold m99; split <;> rfl
theorem m99_le (v : Nat) : m99 v ≤ 99 := by unfold m99; split <;> omega
def prG (nr : Nat) (ta : Nat → Nat) (rd : Nat → Bool) (t x : Nat) (wm : Nat → Nat) (i : Nat) : Nat → Nat := fun r => if i ≤ r ∧ r < nr ∧ rd r = true then m99 (wm r + (if ta r = t then x else x / 3)) else wm r
theorem prG_end {nr : Nat} {ta : Nat → Nat} {rd : Nat → Bool} {t x : Nat} {wm : Nat → Nat} {i : Nat} (h : nr ≤ i) : prG nr ta rd t x wm i = wm := by
  funext r; unfold prG; rw [if_neg (by omega)]
theorem prG_skip {nr : Nat} {ta : Nat → Nat} {rd : Nat → Bool} {t x : Nat} {wm : Nat → Nat} {i : Nat} (h : rd i = false) : prG nr ta rd t x wm i = prG nr ta rd t x wm (i + 1) := by
  funext r; unfold prG
  by_cases hr : r = i
  · subst hr
    rw [if_neg (show ¬ (r ≤ r ∧ r < nr ∧ rd r = true) from fun e => by rw [h] at e; exact nomatch e.2.2), if_neg (show ¬ (r + 1 ≤ r ∧ r < nr ∧ rd r = true) by omega)]
  · by_cases h2 : i ≤ r ∧ r < nr ∧ rd r = true
    · rw [if_pos h2, if_pos (show i + 1 ≤ r ∧ r < nr ∧ rd r = true from ⟨by omega, h2.2⟩)]
    · rw [if_neg h2, if_neg (show ¬ (i + 1 ≤ r ∧ r < nr ∧ rd r = true) from fun h3 => h2 ⟨by omega, h3.2⟩)]
theorem prG_put {nr : Nat} {ta : Nat → Nat} {rd : Nat → Bool} {t x : Nat} {wm : Nat → Nat} {i v : Nat} (hi : i < nr) (h : rd i = true) (hv : v = m99 (wm i + (if ta i = t then x else x / 3))) : prG nr ta rd t x wm i = prG nr ta rd t x (ud wm i v) (i + 1) := by
  funext r; unfold prG
  by_cases hr : r = i
  · subst hr
    rw [if_pos (show r ≤ r ∧ r < nr ∧ rd r = true from ⟨Nat.le_refl r, hi, h⟩), if_neg (show ¬ (r + 1 ≤ r ∧ r < nr ∧ rd r = true) by omega), ud_at, hv]
  · rw [ud_ne _ _ hr]
    by_cases h2 : i ≤ r ∧ r < nr ∧ rd r = true
    · rw [if_pos h2, if_pos (show i + 1 ≤ r ∧ r < nr ∧ rd r = true from ⟨by omega, h2.2⟩)]
    · rw [if_neg h2, if_neg (show ¬ (i + 1 ≤ r ∧ r < nr ∧ rd r = true) from fun h3 => h2 ⟨by omega, h3.2⟩)]
section
variable {hr aa wy st wr sp la cm mn : Int32} {cl rd : Nat → Bool} {nx ct wm : Nat → Nat} {q0 q1 q2 q3 q4 q5 q6 : Nat → Int32} {fl lim : Int32} {len tp th ta : Nat → Nat} {nr t x : Nat}
theorem cC_print_L (hn : nr ≤ 8) (ht : t < 8) (hx : x < 100000000) (hta : ∀ r, ta r < 8) : ∀ n i fuel wm, (∀ r, wm r ≤ 99) → i + n = nr → n < fuel → p_X0_print_L20 fuel (hr, aa, wy, st, wr, sp, la, q0, q1, q2, q3, nF wm, bF rd) (fl, lim, nI nr, q4, q5, q6, nF ta) (nI t) (nI x) (nI i) = some (nI x, hr, aa, wy, st, wr, sp, la, q0, q1, q2, q3, nF (prG nr ta rd t x wm i), bF rd) := by
  intro n
  induction n with
  | zero =>
    intro i fuel wm hw hi hf
    obtain ⟨f, rfl⟩ : ∃ f, fuel = f + 1 := ⟨fuel - 1, by omega⟩
    rw [p_X0_print_L20]
    simp (disch := omega) only [↓Lm1, L0, L1, L2, L3, L4, L5, L7, L8, L9, L10, L12, L20, L21, L33, L40, L60, L80, L99, L108, nI_add, nI_mul, gd_nI, nI_cl, nI_lt', nI_le', nI_eq', bd_sm, nF_app, bF_app, bI_n0, nI_m1e, nI_m1e', nI_m1l, nI_m1l', nI_m1t, nI_m1t', if_true, if_false]
    rw [if_pos (by omega), prG_end (by omega)]
  | succ n ih =>
    intro i fuel wm hw hi hf
    obtain ⟨f, rfl⟩ : ∃ f, fuel = f + 1 := ⟨fuel - 1, by omega⟩
    have hta1 := hta i
    have hw1 := hw i
    have hw2 : ∀ v r : Nat, ud wm i (m99 v) r ≤ 99 := fun v r => by
      by_cases h : r = i
      · subst h; rw [ud_at]; exact m99_le v
      · rw [ud_ne _ _ h]; exact hw r
    rw [p_X0_print_L20]
    unfold p_X0_print_J63
    simp (disch := omega) only [↓Lm1, L0, L1, L2, L3, L4, L5, L7, L8, L9, L10, L12, L20, L21, L33, L40, L60, L80, L99, L108, nI_add, nI_mul, gd_nI, nI_cl, nI_lt', nI_le', nI_eq', bd_sm, nF_app, bF_app, bI_n0, nI_m1e, nI_m1e', nI_m1l, nI_m1l', nI_m1t, nI_m1t', if_true, if_false, nI_div]
    rw [if_neg (by omega)]
    cases hc : rd i
    · rw [if_pos rfl, ih (i + 1) f wm hw (by omega) (by omega), prG_skip hc]
    · rw [if_neg (by simp)]
      by_cases he : ta i = t
      · rw [if_pos he, m99_nI, upd_nF, ih (i + 1) f _ (hw2 _) (by omega) (by omega), prG_put (by omega) hc (by rw [if_pos he])]
      · rw [if_neg he, m99_nI, upd_nF, ih (i + 1) f _ (hw2 _) (by omega) (by omega), prG_put (by omega) hc (by rw [if_neg he])]
end
section
variable {hr aa wy st wr sp cm mn : Int32} {rd : Nat → Bool} {q0 q1 kp l7 lB lC lD lE lF : Nat → Int32} {sd tw fl lim fb nm : Int32} {tp th ta : Nat → Nat} {nr p x : Nat}
theorem cL_print_L (hn : nr ≤ 8) (hp : p < 108) (htp : ∀ i, tp i < 8) (hx : x < 100000000) (hta : ∀ r, ta r < 8) : ∀ n i fuel wm, (∀ r, wm r ≤ 99) → i + n = nr → n < fuel → p_X5_print_L78 fuel (mkN hr aa wy st wr sp cm (mI rd 8) mn q0 q1 (nF wm), kp, sd, tw, fl, lim, fb, l7, nF tp, nF th, nI nr, nF ta, nm, lB, lC, lD, lE, lF) (nI p) (nI x) (nI i) = some (mkN hr aa wy st wr sp cm (mI rd 8) mn q0 q1 (nF (prG nr ta rd (tp p) x wm i)), kp, sd, tw, fl, lim, fb, l7, nF tp, nF th, nI nr, nF ta, nm, lB, lC, lD, lE, lF) := by
  intro n
  induction n with
  | zero =>
    intro i fuel wm hw hi hf
    obtain ⟨f, rfl⟩ : ∃ f, fuel = f + 1 := ⟨fuel - 1, by omega⟩
    rw [p_X5_print_L78]
    simp (disch := omega) only [↓Lm1, L0, L1, L2, L3, L4, L5, L7, L8, L9, L10, L12, L20, L21, L33, L40, L60, L80, L99, L108, nI_add, nI_mul, gd_nI, nI_cl, nI_lt', nI_le', nI_eq', bd_sm, nF_app, bF_app, bI_n0, nI_m1e, nI_m1e', nI_m1l, nI_m1l', nI_m1t, nI_m1t', if_true, if_false]
    rw [if_pos (by omega), prG_end (by omega)]
  | succ n ih =>
    intro i fuel wm hw hi hf
    obtain ⟨f, rfl⟩ : ∃ f, fuel = f + 1 := ⟨fuel - 1, by omega⟩
    have hta1 := hta i
    have htp1 := htp p
    have hw1 := hw i
    have hw2 : ∀ v r : Nat, ud wm i (m99 v) r ≤ 99 := fun v r => by
      by_cases h : r = i
      · subst h; rw [ud_at]; exact m99_le v
      · rw [ud_ne _ _ h]; exact hw r
    rw [p_X5_print_L78]
    unfold p_X5_print_J135
    rw [c_reads (g := rd) (by rfl) (by omega)]
    simp (disch := omega) only [↓Lm1, L0, L1, L2, L3, L4, L5, L7, L8, L9, L10, L12, L20, L21, L33, L40, L60, L80, L99, L108, nI_add, nI_mul, gd_nI, nI_cl, nI_lt', nI_le', nI_eq', bd_sm, nF_app, bF_app, bI_n0, nI_m1e, nI_m1e', nI_m1l, nI_m1l', nI_m1t, nI_m1t', if_true, if_false, nI_div, mkN_w, upN_w]
    rw [if_neg (by omega)]
    cases hc : rd i
    · rw [if_pos rfl, ih (i + 1) f wm hw (by omega) (by omega), prG_skip hc]
    · rw [if_neg (by simp)]
      by_cases he : ta i = tp p
      · rw [if_pos he.symm, m99_nI, upd_nF, ih (i + 1) f _ (hw2 _) (by omega) (by omega), prG_put (by omega) hc (by rw [if_pos he])]
      · rw [if_neg (fun e => he e.symm), m99_nI, upd_nF, ih (i + 1) f _ (hw2 _) (by omega) (by omega), prG_put (by omega) hc (by rw [if_neg he])]
end
/-! cooler -/
def coW (nr : Nat) (wm : Nat → Nat) (i : Nat) : Nat → Nat := fun r => if i ≤ r ∧ r < nr then wm r - 1 else wm r
def coR (nr : Nat) (wm : Nat → Nat) (rd : Nat → Bool) (i : Nat) : Nat → Bool := fun r => if i ≤ r ∧ r < nr ∧ wm r = 0 then false else rd r
theorem coW_end {nr : Nat} {wm : Nat → Nat} {i : Nat} (h : nr ≤ i) : coW nr wm i = wm := by
  funext r; unfold coW; rw [if_neg (by omega)]
theorem coR_end {nr : Nat} {wm : Nat → Nat} {rd : Nat → Bool} {i : Nat} (h : nr ≤ i) : coR nr wm rd i = rd := by
  funext r; unfold coR; rw [if_neg (by omega)]
theorem coW_z {nr : Nat} {wm : Nat → Nat} {i : Nat} (h : wm i = 0) : coW nr wm i = coW nr wm (i + 1) := by
  funext r; unfold coW
  by_cases hr : r = i
  · subst hr; rw [h, if_neg (show ¬ (r + 1 ≤ r ∧ r < nr) by omega)]; split <;> rfl
  · by_cases h2 : i ≤ r ∧ r < nr
    · rw [if_pos h2, if_pos (show i + 1 ≤ r ∧ r < nr by omega)]
    · rw [if_neg h2, if_neg (show ¬ (i + 1 ≤ r ∧ r < nr) by omega)]
theorem coW_p {nr : Nat} {wm : Nat → Nat} {i : Nat} (hi : i < nr) : coW nr wm i = coW nr (ud wm i (wm i - 1)) (i + 1) := by
  funext r; unfold coW
  by_cases hr : r = i
  · subst hr; rw [if_pos (show r ≤ r ∧ r < nr by omega), if_neg (show ¬ (r + 1 ≤ r ∧ r < nr) by omega), ud_at]
  · rw [ud_ne _ _ hr]
    by_cases h2 : i ≤ r ∧ r < nr
    · rw [if_pos h2, if_pos (show i + 1 ≤ r ∧ r < nr by omega)]
    · rw [if_neg h2, if_neg (show ¬ (i + 1 ≤ r ∧ r < nr) by omega)]
theorem coR_z {nr : Nat} {wm : Nat → Nat} {rd : Nat → Bool} {i : Nat} (hi : i < nr) (h : wm i = 0) : coR nr wm rd i = coR nr wm (ud rd i false) (i + 1) := by
  funext r; unfold coR
  by_cases hr : r = i
  · subst hr; rw [if_pos (show r ≤ r ∧ r < nr ∧ wm r = 0 by omega), if_neg (show ¬ (r + 1 ≤ r ∧ r < nr ∧ wm r = 0) by omega), ud_at]
  · rw [ud_ne _ _ hr]
    by_cases h2 : i ≤ r ∧ r < nr ∧ wm r = 0
    · rw [if_pos h2, if_pos (show i + 1 ≤ r ∧ r < nr ∧ wm r = 0 by omega)]
    · rw [if_neg h2, if_neg (show ¬ (i + 1 ≤ r ∧ r < nr ∧ wm r = 0) by omega)]
theorem coR_p {nr : Nat} {wm : Nat → Nat} {rd : Nat → Bool} {i v : Nat} (h : ¬ wm i = 0) : coR nr wm rd i = coR nr (ud wm i v) rd (i + 1) := by
  funext r; unfold coR
  by_cases hr : r = i
  · subst hr; rw [if_neg (show ¬ (r ≤ r ∧ r < nr ∧ wm r = 0) by omega), if_neg (show ¬ (r + 1 ≤ r ∧ r < nr ∧ ud wm r v r = 0) by omega)]
  · rw [ud_ne _ _ hr]
    by_cases h2 : i ≤ r ∧ r < nr ∧ wm r = 0
    · rw [if_pos h2, if_pos (show i + 1 ≤ r ∧ r < nr ∧ wm r = 0 by omega)]
    · rw [if_neg h2, if_neg (show ¬ (i + 1 ≤ r ∧ r < nr ∧ wm r = 0) by omega)]
theorem coR_s {nr : Nat} {wm : Nat → Nat} {rd : Nat → Bool} {i : Nat} (h : rd i = false) : coR nr wm rd i = coR nr wm rd (i + 1) := by
  funext r; unfold coR
  by_cases hr : r = i
  · subst hr; rw [h, if_neg (show ¬ (r + 1 ≤ r ∧ r < nr ∧ wm r = 0) by omega)]; split <;> rfl
  · by_cases h2 : i ≤ r ∧ r < nr ∧ wm r = 0
    · rw [if_pos h2, if_pos (show i + 1 ≤ r ∧ r < nr ∧ wm r = 0 by omega)]
    · rw [if_neg h2, if_neg (show ¬ (i + 1 ≤ r ∧ r < nr ∧ wm r = 0) by omega)]
section
variable {hr aa wy st wr sp la cm mn : Int32} {q0 q1 q2 q3 q4 q5 q6 q7 : Nat → Int32} {fl lim : Int32} {nr : Nat}
theorem cC_cool_L (hn : nr ≤ 8) : ∀ n i fuel wm rd, (∀ r, wm r ≤ 99) → i + n = nr → n < fuel → p_X0_coolReaders_L2 fuel (hr, aa, wy, st, wr, sp, la, q0, q1, q2, q3, nF wm, bF rd) (fl, lim, nI nr, q4, q5, q6, q7) (nI i) = some (hr, aa, wy, st, wr, sp, la, q0, q1, q2, q3, nF (coW nr wm i), bF (coR nr wm rd i)) := by
  intro n
  induction n with
  | zero =>
    intro i fuel wm rd hw hi hf
    obtain ⟨f, rfl⟩ : ∃ f, fuel = f + 1 := ⟨fuel - 1, by omega⟩
    rw [p_X0_coolReaders_L2]
    simp (disch := omega) only [↓Lm1, L0, L1, L2, L3, L4, L5, L7, L8, L9, L10, L12, L20, L21, L33, L40, L60, L80, L99, L108, nI_add, nI_mul, gd_nI, nI_cl, nI_lt', nI_le', nI_eq', bd_sm, nF_app, bF_app, bI_n0, nI_m1e, nI_m1e', nI_m1l, nI_m1l', nI_m1t, nI_m1t', if_true, if_false]
    rw [if_pos (by omega), coW_end (by omega), coR_end (by omega)]
  | succ n ih =>
    intro i fuel wm rd hw hi hf
    obtain ⟨f, rfl⟩ : ∃ f, fuel = f + 1 := ⟨fuel - 1, by omega⟩
    have hw1 := hw i
    rw [p_X0_coolReaders_L2]
    by_cases hz : wm i = 0
    · simp (disch := omega) only [↓Lm1, L0, L1, L2, L3, L4, L5, L7, L8, L9, L10, L12, L20, L21, L33, L40, L60, L80, L99, L108, nI_add, nI_mul, gd_nI, nI_cl, nI_lt', nI_le', nI_eq', bd_sm, nF_app, bF_app, bI_n0, nI_m1e, nI_m1e', nI_m1l, nI_m1l', nI_m1t, nI_m1t', if_true, if_false, nar_n0, upd_bF, hz]
      rw [if_neg (by omega), ih (i + 1) f wm _ hw (by omega) (by omega), coW_z hz, coR_z (by omega) hz]
      simp
    · have hw2 : ∀ r : Nat, ud wm i (wm i - 1) r ≤ 99 := fun r => by
        by_cases h : r = i
        · subst h; rw [ud_at]; omega
        · rw [ud_ne _ _ h]; exact hw r
      have hz2 : (wm i ≤ 0) = False := eq_false (by omega)
      simp (disch := omega) only [↓Lm1, L0, L1, L2, L3, L4, L5, L7, L8, L9, L10, L12, L20, L21, L33, L40, L60, L80, L99, L108, nI_add, nI_mul, gd_nI, nI_cl, nI_lt', nI_le', nI_eq', bd_sm, nF_app, bF_app, bI_n0, nI_m1e, nI_m1e', nI_m1l, nI_m1l', nI_m1t, nI_m1t', if_true, if_false, nI_sub, upd_nF, hz2]
      rw [if_neg (by omega), ih (i + 1) f _ rd hw2 (by omega) (by omega), ← coW_p (by omega), ← coR_p hz]
end
section
variable {hr aa wy st wr sp cm : Int32} {q0 q1 kp l7 l8 l9 lA lB lC lD lE lF : Nat → Int32} {sd tw fl lim fb nm : Int32} {nr mn : Nat}
theorem cL_cool_L (hn : nr ≤ 8) : ∀ n i fuel wm rd, (∀ r, wm r ≤ 99) → (∀ r, rd r = false → wm r = 0) → i + n = nr → n < fuel → p_X5_hourOn_L73 fuel (mkN hr aa wy st wr sp cm (mI rd 8) (nI mn) q0 q1 (nF wm), kp, sd, tw, fl, lim, fb, l7, l8, l9, nI nr, lA, nm, lB, lC, lD, lE, lF) (nI mn) (nI i) = p_X5_hourOn_J152 (mkN hr aa wy st wr sp cm (mI (coR nr wm rd i) 8) (nI mn) q0 q1 (nF (coW nr wm i)), kp, sd, tw, fl, lim, fb, l7, l8, l9, nI nr, lA, nm, lB, lC, lD, lE, lF) := by
  intro n
  induction n with
  | zero =>
    intro i fuel wm rd hw hz hi hf
    obtain ⟨f, rfl⟩ : ∃ f, fuel = f + 1 := ⟨fuel - 1, by omega⟩
    rw [p_X5_hourOn_L73]
    simp (disch := omega) only [↓Lm1, L0, L1, L2, L3, L4, L5, L7, L8, L9, L10, L12, L20, L21, L33, L40, L60, L80, L99, L108, nI_add, nI_mul, gd_nI, nI_cl, nI_lt', nI_le', nI_eq', bd_sm, nF_app, bF_app, bI_n0, nI_m1e, nI_m1e', nI_m1l, nI_m1l', nI_m1t, nI_m1t', if_true, if_false]
    rw [if_pos (by omega), coW_end (by omega), coR_end (by omega)]
  | succ n ih =>
    intro i fuel wm rd hw hz hi hf
    obtain ⟨f, rfl⟩ : ∃ f, fuel = f + 1 := ⟨fuel - 1, by omega⟩
    have hw1 := hw i
    rw [p_X5_hourOn_L73, c_reads (g := rd) (by rfl) (by omega)]
    cases hc : rd i
    · have hz1 := hz i hc
      simp (disch := omega) only [↓Lm1, L0, L1, L2, L3, L4, L5, L7, L8, L9, L10, L12, L20, L21, L33, L40, L60, L80, L99, L108, nI_add, nI_mul, gd_nI, nI_cl, nI_lt', nI_le', nI_eq', bd_sm, nF_app, bF_app, bI_n0, nI_m1e, nI_m1e', nI_m1l, nI_m1l', nI_m1t, nI_m1t', if_true, if_false, mkN_8, eq_self]
      rw [if_neg (by omega), ih (i + 1) f wm rd hw hz (by omega) (by omega), coW_z hz1, coR_s hc]
    · by_cases h0 : wm i = 0
      · have hz2 : ∀ r, ud rd i false r = false → wm r = 0 := fun r => by
          by_cases h : r = i
          · subst h; exact fun _ => h0
          · rw [ud_ne _ _ h]; exact hz r
        simp (disch := omega) only [↓Lm1, L0, L1, L2, L3, L4, L5, L7, L8, L9, L10, L12, L20, L21, L33, L40, L60, L80, L99, L108, nI_add, nI_mul, gd_nI, nI_cl, nI_lt', nI_le', nI_eq', bd_sm, nF_app, bF_app, bI_n0, nI_m1e, nI_m1e', nI_m1l, nI_m1l', nI_m1t, nI_m1t', if_true, if_false, mkN_8, eq_self, mkN_w, h0, mkN_7, mI_clr1, upN_7]
        rw [if_neg (by omega), if_neg (by simp), ih (i + 1) f wm _ hw hz2 (by omega) (by omega), coW_z h0, coR_z (by omega) h0]
      · have hw2 : ∀ r : Nat, ud wm i (wm i - 1) r ≤ 99 := fun r => by
          by_cases h : r = i
          · subst h; rw [ud_at]; omega
          · rw [ud_ne _ _ h]; exact hw r
        have hz2 : ∀ r, rd r = false → ud wm i (wm i - 1) r = 0 := fun r hr => by
          by_cases h : r = i
          · subst h; rw [hc] at hr; cases hr
          · rw [ud_ne _ _ h]; exact hz r hr
        simp (disch := omega) only [↓Lm1, L0, L1, L2, L3, L4, L5, L7, L8, L9, L10, L12, L20, L21, L33, L40, L60, L80, L99, L108, nI_add, nI_mul, gd_nI, nI_cl, nI_lt', nI_le', nI_eq', bd_sm, nF_app, bF_app, bI_n0, nI_m1e, nI_m1e', nI_m1l, nI_m1l', nI_m1t, nI_m1t', if_true, if_false, mkN_8, eq_self, mkN_w, h0, nI_sub, upN_w, upd_nF]
        rw [if_neg (by omega), if_neg (by simp), ih (i + 1) f _ rd hw2 hz2 (by omega) (by omega), ← coW_p (by omega), ← coR_p h0]
end
