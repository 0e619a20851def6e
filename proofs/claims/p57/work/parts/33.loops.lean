/-! THE PURE PART: the model's ways; readers get warmer and cooler -/
/-! warmer -/
def m99 (v : Nat) : Nat := if v < 99 then v else 99
theorem m99_nI (v : Nat) : (if v < 99 then nI v else nI 99) = nI (m99 v) := by unfold m99; split <;> rfl
theorem m99_le (v : Nat) : m99 v ≤ 99 := by unfold m99; split <;> omega
def prG (nr : Nat) (ta : Nat → Nat) (rd : Nat → Bool) (t x : Nat) (wm : Nat → Nat) (i : Nat) : Nat → Nat := fun r => if i ≤ r ∧ r < nr ∧ rd r = true then m99 (wm r + (if ta r = t then x else x / 3)) else wm r
theorem prG_end {nr : Nat} {ta : Nat → Nat} {rd : Nat → Bool} {t x : Nat} {wm : Nat → Nat} {i : Nat} (h : nr ≤ i) : prG nr ta rd t x wm i = wm := by
  funext r; unfold prG; rw [if_neg (by omega)]
theorem prG_skip {nr : Nat} {ta : Nat → Nat} {rd : Nat → Bool} {t x : Nat} {wm : Nat → Nat} {i : Nat} (h : rd i = false) : prG nr ta rd t x wm i = prG nr ta rd t x wm (i + 1) := by
  funext r; unfold prG
  by_cases hr : r = i
  · subst hr
    rw [if_neg (show ¬ (r ≤ r ∧ r < nr ∧ rd r = true) from fun e => by rw [h] at e; exact nomatch e.2.2), if_neg (show ¬ (r + 1 ≤ r ∧ r < nr ∧ rd r = true) by omega)]
  · by_cases h2 : i ≤ r ∧ r < nr ∧ rd r = true
    · rw [if_pos h2, if_pos (show i + 1 ≤ r ∧ r < nr ∧ rd r = true from ⟨by omega, h2.2⟩)]
    · rw [if_neg h2, if_neg (show ¬ (i + 1 ≤ r ∧ r < nr ∧ rd r = true) from fun h3 => h2 ⟨by omega, h3.2⟩)]
theorem prG_put {nr : Nat} {ta : Nat → Nat} {rd : Nat → Bool} {t x : Nat} {wm : Nat → Nat} {i v : Nat} (hi : i < nr) (h : rd i = true) (hv : v = m99 (wm i + (if ta i = t then x else x / 3))) : prG nr ta rd t x wm i = prG nr ta rd t x (ud wm i v) (i + 1) := by
  funext r; unfold prG
  by_cases hr : r = i
  · subst hr
    rw [if_pos (show r ≤ r ∧ r < nr ∧ rd r = true from ⟨Nat.le_refl r, hi, h⟩), if_neg (show ¬ (r + 1 ≤ r ∧ r < nr ∧ rd r = true) by omega), ud_at, hv]
  · rw [ud_ne _ _ hr]
    by_cases h2 : i ≤ r ∧ r < nr ∧ rd r = true
    · rw [if_pos h2, if_pos (show i + 1 ≤ r ∧ r < nr ∧ rd r = true from ⟨by omega, h2.2⟩)]
    · rw [if_neg h2, if_neg (show ¬ (i + 1 ≤ r ∧ r < nr ∧ rd r = true) from fun h3 => h2 ⟨by omega, h3.2⟩)]
section
variable {hr aa wy st wr sp la cm mn : Int32} {cl rd : Nat → Bool} {nx ct wm : Nat → Nat} {q0 q1 q2 q3 q4 q5 q6 : Nat → Int32} {fl lim : Int32} {len tp th ta : Nat → Nat} {nr t x : Nat}
theorem cC_print_L (hn : nr ≤ 8) (ht : t < 8) (hx : x < 100000000) (hta : ∀ r, ta r < 8) : ∀ n i fuel wm, (∀ r, wm r ≤ 99) → i + n = nr → n < fuel → p_X0_print_L20 fuel (hr, aa, wy, st, wr, sp, la, q0, q1, q2, q3, nF wm, bF rd) (fl, lim, nI nr, q4, q5, q6, nF ta) (nI t) (nI x) (nI i) = some (nI x, hr, aa, wy, st, wr, sp, la, q0, q1, q2, q3, nF (prG nr ta rd t x wm i), bF rd) := by
  intro n
  induction n with
  | zero =>
    intro i fuel wm hw hi hf
    obtain ⟨f, rfl⟩ : ∃ f, fuel = f + 1 := ⟨fuel - 1, by omega⟩
    rw [p_X0_print_L20]
    simp (disch := omega) only [↓Lm1, L0, L1, L2, L3, L4, L5, L7, L8, L9, L10, L12, L20, L21, L33, L40, L60, L80, L99, L108, nI_add, nI_mul, gd_nI, nI_cl, nI_lt', nI_le', nI_eq', bd_sm, nF_app, bF_app, bI_n0, nI_m1e, nI_m1e', nI_m1l, nI_m1l', nI_m1t, nI_m1t', if_true, if_false]
    rw [if_pos (by omega), prG_end (by omega)]
  | succ n ih =>
    intro i fuel wm hw hi hf
    obtain ⟨f, rfl⟩ : ∃ f, fuel = f + 1 := ⟨fuel - 1, by omega⟩
    have hta1 := hta i
    have hw1 := hw i
    have hw2 : ∀ v r : Nat, ud wm i (m99 v) r ≤ 99 := fun v r => by
      by_cases h : r = i
      · subst h; rw [ud_at]; exact m99_le v
      · rw [ud_ne _ _ h]; exact hw r
    rw [p_X0_print_L20]
    unfold p_X0_print_J63
    simp (disch := omega) only [↓Lm1, L0, L1, L2, L3, L4, L5, L7, L8, L9, L10, L12, L20, L21, L33, L40, L60, L80, L99, L108, nI_add, nI_mul, gd_nI, nI_cl, nI_lt', nI_le', nI_eq', bd_sm, nF_app, bF_app, bI_n0, nI_m1e, nI_m1e', nI_m1l, nI_m1l', nI_m1t, nI_m1t', if_true, if_false, nI_div]
    rw [if_neg (by omega)]
    cases hc : rd i
    · rw [if_pos rfl, ih (i + 1) f wm hw (by omega) (by omega), prG_skip hc]
    · rw [if_neg (by simp)]
      by_cases he : ta i = t
      · rw [if_pos he, m99_nI, upd_nF, ih (i + 1) f _ (hw2 _) (by omega) (by omega), prG_put (by omega) hc (by rw [if_pos he])]
      · rw [if_neg he, m99_nI, upd_nF, ih (i + 1) f _ (hw2 _) (by omega) (by omega), prG_put (by omega) hc (by rw [if_neg he])]
end
section
variable {hr aa wy st wr sp cm mn : Int32} {rd : Nat → Bool} {q0 q1 kp l7 lB lC lD lE lF : Nat → Int32} {sd tw fl lim fb nm : Int32} {tp th ta : Nat → Nat} {nr p x : Nat}
end
/-! cooler -/
def coW (nr : Nat) (wm : Nat → Nat) (i : Nat) : Nat → Nat := fun r => if i ≤ r ∧ r < nr then wm r - 1 else wm r
def coR (nr : Nat) (wm : Nat → Nat) (rd : Nat → Bool) (i : Nat) : Nat → Bool := fun r => if i ≤ r ∧ r < nr ∧ wm r = 0 then false else rd r
theorem coW_end {nr : Nat} {wm : Nat → Nat} {i : Nat} (h : nr ≤ i) : coW nr wm i = wm := by
  funext r; unfold coW; rw [if_neg (by omega)]
theorem coR_end {nr : Nat} {wm : Nat → Nat} {rd : Nat → Bool} {i : Nat} (h : nr ≤ i) : coR nr wm rd i = rd := by
  funext r; unfold coR; rw [if_neg (by omega)]
theorem coW_z {nr : Nat} {wm : Nat → Nat} {i : Nat} (h : wm i = 0) : coW nr wm i = coW nr wm (i + 1) := by
  funext r; unfold coW
  by_cases hr : r = i
  · subst hr; rw [h, if_neg (show ¬ (r + 1 ≤ r ∧ r < nr) by omega)]; split <;> rfl
  · by_cases h2 : i ≤ r ∧ r < nr
    · rw [if_pos h2, if_pos (show i + 1 ≤ r ∧ r < nr by omega)]
    · rw [if_neg h2, if_neg (show ¬ (i + 1 ≤ r ∧ r < nr) by omega)]
theorem coW_p {nr : Nat} {wm : Nat → Nat} {i : Nat} (hi : i < nr) : coW nr wm i = coW nr (ud wm i (wm i - 1)) (i + 1) := by
  funext r; unfold coW
  by_cases hr : r = i
  · subst hr; rw [if_pos (show r ≤ r ∧ r < nr by omega), if_neg (show ¬ (r + 1 ≤ r ∧ r < nr) by omega), ud_at]
  · rw [ud_ne _ _ hr]
    by_cases h2 : i ≤ r ∧ r < nr
    · rw [if_pos h2, if_pos (show i + 1 ≤ r ∧ r < nr by omega)]
    · rw [if_neg h2, if_neg (show ¬ (i + 1 ≤ r ∧ r < nr) by omega)]
theorem coR_z {nr : Nat} {wm : Nat → Nat} {rd : Nat → Bool} {i : Nat} (hi : i < nr) (h : wm i = 0) : coR nr wm rd i = coR nr wm (ud rd i false) (i + 1) := by
  funext r; unfold coR
  by_cases hr : r = i
  · subst hr; rw [if_pos (show r ≤ r ∧ r < nr ∧ wm r = 0 by omega), if_neg (show ¬ (r + 1 ≤ r ∧ r < nr ∧ wm r = 0) by omega), ud_at]
  · rw [ud_ne _ _ hr]
    by_cases h2 : i ≤ r ∧ r < nr ∧ wm r = 0
    · rw [if_pos h2, if_pos (show i + 1 ≤ r ∧ r < nr ∧ wm r = 0 by omega)]
    · rw [if_neg h2, if_neg (show ¬ (i + 1 ≤ r ∧ r < nr ∧ wm r = 0) by omega)]
theorem coR_p {nr : Nat} {wm : Nat → Nat} {rd : Nat → Bool} {i v : Nat} (h : ¬ wm i = 0) : coR nr wm rd i = coR nr (ud wm i v) rd (i + 1) := by
  funext r; unfold coR
  by_cases hr : r = i
  · subst hr; rw [if_neg (show ¬ (r ≤ r ∧ r < nr ∧ wm r = 0) by omega), if_neg (show ¬ (r + 1 ≤ r ∧ r < nr ∧ ud wm r v r = 0) by omega)]
  · rw [ud_ne _ _ hr]
    by_cases h2 : i ≤ r ∧ r < nr ∧ wm r = 0
    · rw [if_pos h2, if_pos (show i + 1 ≤ r ∧ r < nr ∧ wm r = 0 by omega)]
    · rw [if_neg h2, if_neg (show ¬ (i + 1 ≤ r ∧ r < nr ∧ wm r = 0) by omega)]
theorem coR_s {nr : Nat} {wm : Nat → Nat} {rd : Nat → Bool} {i : Nat} (h : rd i = false) : coR nr wm rd i = coR nr wm rd (i + 1) := by
  funext r; unfold coR
  by_cases hr : r = i
  · subst hr; rw [h, if_neg (show ¬ (r + 1 ≤ r ∧ r < nr ∧ wm r = 0) by omega)]; split <;> rfl
  · by_cases h2 : i ≤ r ∧ r < nr ∧ wm r = 0
    · rw [if_pos h2, if_pos (show i + 1 ≤ r ∧ r < nr ∧ wm r = 0 by omega)]
    · rw [if_neg h2, if_neg (show ¬ (i + 1 ≤ r ∧ r < nr ∧ wm r = 0) by omega)]
section
variable {hr aa wy st wr sp la cm mn : Int32} {q0 q1 q2 q3 q4 q5 q6 q7 : Nat → Int32} {fl lim : Int32} {nr : Nat}
theorem cC_cool_L (hn : nr ≤ 8) : ∀ n i fuel wm rd, (∀ r, wm r ≤ 99) → i + n = nr → n < fuel → p_X0_coolReaders_L2 fuel (hr, aa, wy, st, wr, sp, la, q0, q1, q2, q3, nF wm, bF rd) (fl, lim, nI nr, q4, q5, q6, q7) (nI i) = some (hr, aa, wy, st, wr, sp, la, q0, q1, q2, q3, nF (coW nr wm i), bF (coR nr wm rd i)) := by
  intro n
  induction n with
  | zero =>
    intro i fuel wm rd hw hi hf
    obtain ⟨f, rfl⟩ : ∃ f, fuel = f + 1 := ⟨fuel - 1, by omega⟩
    rw [p_X0_coolReaders_L2]
    simp (disch := omega) only [↓Lm1, L0, L1, L2, L3, L4, L5, L7, L8, L9, L10, L12, L20, L21, L33, L40, L60, L80, L99, L108, nI_add, nI_mul, gd_nI, nI_cl, nI_lt', nI_le', nI_eq', bd_sm, nF_app, bF_app, bI_n0, nI_m1e, nI_m1e', nI_m1l, nI_m1l', nI_m1t, nI_m1t', if_true, if_false]
    rw [if_pos (by omega), coW_end (by omega), coR_end (by omega)]
  | succ n ih =>
    intro i fuel wm rd hw hi hf
    obtain ⟨f, rfl⟩ : ∃ f, fuel = f + 1 := ⟨fuel - 1, by omega⟩
    have hw1 := hw i
    rw [p_X0_coolReaders_L2]
    by_cases hz : wm i = 0
    · simp (disch := omega) only [↓Lm1, L0, L1, L2, L3, L4, L5, L7, L8, L9, L10, L12, L20, L21, L33, L40, L60, L80, L99, L108, nI_add, nI_mul, gd_nI, nI_cl, nI_lt', nI_le', nI_eq', bd_sm, nF_app, bF_app, bI_n0, nI_m1e, nI_m1e', nI_m1l, nI_m1l', nI_m1t, nI_m1t', if_true, if_false, nar_n0, upd_bF, hz]
      rw [if_neg (by omega), ih (i + 1) f wm _ hw (by omega) (by omega), coW_z hz, coR_z (by omega) hz]
      simp
    · have hw2 : ∀ r : Nat, ud wm i (wm i - 1) r ≤ 99 := fun r => by
        by_cases h : r = i
        · subst h; rw [ud_at]; omega
        · rw [ud_ne _ _ h]; exact hw r
      have hz2 : (wm i ≤ 0) = False := eq_false (by omega)
      simp (disch := omega) only [↓Lm1, L0, L1, L2, L3, L4, L5, L7, L8, L9, L10, L12, L20, L21, L33, L40, L60, L80, L99, L108, nI_add, nI_mul, gd_nI, nI_cl, nI_lt', nI_le', nI_eq', bd_sm, nF_app, bF_app, bI_n0, nI_m1e, nI_m1e', nI_m1l, nI_m1l', nI_m1t, nI_m1t', if_true, if_false, nI_sub, upd_nF, hz2]
      rw [if_neg (by omega), ih (i + 1) f _ rd hw2 (by omega) (by omega), ← coW_p (by omega), ← coR_p hz]
end
section
variable {hr aa wy st wr sp cm : Int32} {q0 q1 kp l7 l8 l9 lA lB lC lD lE lF : Nat → Int32} {sd tw fl lim fb nm : Int32} {nr mn : Nat}
end
