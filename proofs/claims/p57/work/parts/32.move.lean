/-! THE PURE PART: where the lift goes -/
theorem nI_neg0 {a b : Nat} (h : a < b) (hb : b < 2147483648) : (nI a - nI b < nI 0) = True := nI_neg_lt h hb
theorem nI_m1a0 : nI 0 + m1 = m1 := by decide +kernel
theorem nI_m1a (n : Nat) : nI (n + 1) + m1 = nI n := by
  have h := nI_pred n
  rw [Int32.sub_eq_add_neg] at h
  exact h
def pm : Nat → Int32
  | 0 => m1
  | k + 1 => nI k
theorem pm_a (k : Nat) : nI k + m1 = pm k := by
  cases k with
  | zero => exact nI_m1a0
  | succ k => exact nI_m1a k
/-- some of n from the i-th on -/
def aF (g : Nat → Bool) : Nat → Nat → Bool
  | _, 0 => false
  | i, n + 1 => g i || aF g (i + 1) n
theorem aF_iff (g : Nat → Bool) : ∀ (n i : Nat), aF g i n = true ↔ ∃ j, i ≤ j ∧ j < i + n ∧ g j = true := by
  intro n
  induction n with
  | zero => intro i; simp [aF]; intro j h1 h2; omega
  | succ n ih =>
    intro i
    rw [aF, Bool.or_eq_true, ih]
    constructor
    · rintro (h | ⟨j, h1, h2, h3⟩)
      · exact ⟨i, by omega, by omega, h⟩
      · exact ⟨j, by omega, by omega, h3⟩
    · rintro ⟨j, h1, h2, h3⟩
      by_cases h : i = j
      · subst h; exact Or.inl h3
      · exact Or.inr ⟨j, by omega, by omega, h3⟩
def aD (g : Nat → Bool) : Nat → Bool
  | 0 => false
  | k + 1 => g k || aD g k
theorem aD_iff (g : Nat → Bool) : ∀ k : Nat, aD g k = true ↔ ∃ j, j < k ∧ g j = true := by
  intro k
  induction k with
  | zero => simp [aD]
  | succ k ih =>
    rw [aD, Bool.or_eq_true, ih]
    constructor
    · rintro (h | ⟨j, h1, h3⟩)
      · exact ⟨k, by omega, h⟩
      · exact ⟨j, by omega, h3⟩
    · rintro ⟨j, h1, h3⟩
      by_cases h : k = j
      · subst h; exact Or.inl h3
      · exact Or.inr ⟨j, by omega, h3⟩
theorem b_ext {a b : Bool} (h : a = true ↔ b = true) : a = b := by
  cases a <;> cases b <;> simp at h <;> rfl
theorem aD_aF (g : Nat → Bool) (k : Nat) : aD g k = aF g 0 k := by
  apply b_ext
  rw [aD_iff, aF_iff]
  constructor
  · rintro ⟨j, h1, h2⟩; exact ⟨j, by omega, by omega, h2⟩
  · rintro ⟨j, h1, h2, h3⟩; exact ⟨j, by omega, h3⟩
theorem aF_cut {g : Nat → Bool} {N : Nat} (hz : ∀ f, N ≤ f → g f = false) {i n m : Nat} (h1 : i + n = N) (h2 : n ≤ m) : aF g i n = aF g i m := by
  apply b_ext
  rw [aF_iff, aF_iff]
  constructor
  · rintro ⟨j, h3, h4, h5⟩; exact ⟨j, by omega, by omega, h5⟩
  · rintro ⟨j, h3, h4, h5⟩
    by_cases h : N ≤ j
    · rw [hz j h] at h5; cases h5
    · exact ⟨j, by omega, by omega, h5⟩
def nearG (cl : Nat → Bool) (a : Nat) : Nat → Nat → Int32
  | _, 0 => nI 0
  | d, n + 1 => if cl (a + d) = true then nI 1 else if d ≤ a ∧ cl (a - d) = true then m1 else nearG cl a (d + 1) n
theorem near_z {cl : Nat → Bool} {a fl : Nat} (ha : a < fl) (hz : ∀ f, fl ≤ f → cl f = false) : ∀ n d : Nat, fl ≤ d → nearG cl a d n = nI 0 := by
  intro n
  induction n with
  | zero => intro d _; rfl
  | succ n ih =>
    intro d hd
    rw [nearG, hz (a + d) (by omega), if_neg (by simp), if_neg (by omega), ih (d + 1) (by omega)]
def okw (wy : Int32) : Prop := wy = nI 0 ∨ wy = nI 1 ∨ wy = m1
theorem near_ok {cl : Nat → Bool} {a fl : Nat} (ha : a < fl) (hz : ∀ f, fl ≤ f → cl f = false) : ∀ n d : Nat, 1 ≤ d → (nearG cl a d n = nI 0) ∨ (nearG cl a d n = nI 1 ∧ a + 1 < fl) ∨ (nearG cl a d n = m1 ∧ 1 ≤ a) := by
  intro n
  induction n with
  | zero => intro d _; exact Or.inl rfl
  | succ n ih =>
    intro d hd
    rw [nearG]
    by_cases h1 : cl (a + d) = true
    · rw [if_pos h1]
      by_cases h2 : fl ≤ a + d
      · rw [hz _ h2] at h1; cases h1
      · exact Or.inr (Or.inl ⟨rfl, by omega⟩)
    · rw [if_neg h1]
      by_cases h2 : d ≤ a ∧ cl (a - d) = true
      · rw [if_pos h2]; exact Or.inr (Or.inr ⟨rfl, by omega⟩)
      · rw [if_neg h2]; exact ih (d + 1) (by omega)
def goG (cl : Nat → Bool) (a : Nat) (wy : Int32) : Bool := (decide (wy = nI 1) && aF cl (a + 1) (11 - a)) || (decide (wy = m1) && aF cl 0 a)
def wyG (cl : Nat → Bool) (a : Nat) (wy : Int32) : Int32 := if goG cl a wy = true then wy else nearG cl a 1 11
theorem nI_01 : (nI 0 = nI 1) = False := by decide +kernel
theorem nI_10 : (nI 1 = nI 0) = False := by decide +kernel
theorem goG_0 (cl : Nat → Bool) (a : Nat) : goG cl a (nI 0) = false := by
  unfold goG
  rw [decide_eq_false (by rw [nI_01]; exact id), decide_eq_false (by rw [nI_m1e (by omega)]; exact id)]
  rfl
theorem goG_1 (cl : Nat → Bool) (a : Nat) : goG cl a (nI 1) = aF cl (a + 1) (11 - a) := by
  unfold goG
  rw [decide_eq_true rfl, decide_eq_false (by rw [nI_m1e (by omega)]; exact id)]
  simp
theorem goG_m (cl : Nat → Bool) (a : Nat) : goG cl a m1 = aF cl 0 a := by
  unfold goG
  rw [decide_eq_true rfl, decide_eq_false (by rw [nI_m1e' (by omega)]; exact id)]
  simp
theorem go_move {cl : Nat → Bool} {a fl : Nat} {wy : Int32} (ha : a < fl) (hfl : fl ≤ 12) (hz : ∀ f, fl ≤ f → cl f = false) (hw : okw wy) : ∃ a' : Nat, nI a + wyG cl a wy = nI a' ∧ a' < fl ∧ okw (wyG cl a wy) := by
  have k0 : ∀ v : Int32, v = nI 0 → ∃ a' : Nat, nI a + v = nI a' ∧ a' < fl ∧ okw v := fun v h => ⟨a, by rw [h, nI_add]; rfl, ha, Or.inl h⟩
  have k1 : ∀ v : Int32, v = nI 1 → a + 1 < fl → ∃ a' : Nat, nI a + v = nI a' ∧ a' < fl ∧ okw v := fun v h h2 => ⟨a + 1, by rw [h, nI_add], h2, Or.inr (Or.inl h)⟩
  have k2 : ∀ v : Int32, v = m1 → 1 ≤ a → ∃ a' : Nat, nI a + v = nI a' ∧ a' < fl ∧ okw v := fun v h h2 => by
    obtain ⟨k, rfl⟩ : ∃ k, a = k + 1 := ⟨a - 1, by omega⟩
    exact ⟨k, by rw [h, nI_m1a], by omega, Or.inr (Or.inr h)⟩
  unfold wyG
  by_cases h : goG cl a wy = true
  · rw [if_pos h]
    rcases hw with h0 | h0 | h0
    · subst h0; rw [goG_0] at h; cases h
    · subst h0
      rw [goG_1, aF_iff] at h
      obtain ⟨j, h1, h2, h3⟩ := h
      refine k1 _ rfl ?_
      by_cases h4 : fl ≤ j
      · rw [hz j h4] at h3; cases h3
      · omega
    · subst h0
      rw [goG_m, aF_iff] at h
      obtain ⟨j, h1, h2, h3⟩ := h
      exact k2 _ rfl (by omega)
  · rw [if_neg h]
    rcases near_ok ha hz 11 1 (by omega) with h0 | ⟨h0, h1⟩ | ⟨h0, h1⟩
    · exact k0 _ h0
    · exact k1 _ h0 h1
    · exact k2 _ h0 h1
section
variable {hr aa wy st wr sp la : Int32} {cl : Nat → Bool} {q1 q2 q3 q4 q5 : Nat → Int32} {uH : tX1} {a : Nat}
theorem cC_has {f : Nat} (hf : f < 1000) (hz : ∀ f, 12 ≤ f → cl f = false) : p_X0_hasCall (hr, aa, wy, st, wr, sp, la, bF cl, q1, q2, q3, q4, q5) uH (nI f) = some (bI (cl f)) := by
  unfold p_X0_hasCall
  simp (disch := omega) only [↓Lm1, L0, L1, L2, L3, L4, L5, L7, L8, L9, L10, L12, L20, L21, L33, L40, L60, L80, L99, L108, nI_add, nI_mul, gd_nI, nI_cl, nI_lt', nI_le', nI_eq', bd_sm, nF_app, bF_app, bI_n0, nI_m1e, nI_m1e', nI_m1l, nI_m1l', nI_m1t, nI_m1t', if_true, if_false]
  rw [if_neg (by omega)]
  by_cases h : 12 ≤ f
  · rw [if_pos h, hz f h, bI_f0]
  · rw [if_neg h]
    cases hc : cl f <;> simp [bI_t1, bI_f0]
theorem cC_hasN {f d : Nat} (h : f < d) (hd : d < 1000) : p_X0_hasCall (hr, aa, wy, st, wr, sp, la, bF cl, q1, q2, q3, q4, q5) uH (nI f - nI d) = some (bI false) := by
  unfold p_X0_hasCall
  rw [L0, if_pos (of_eq_true (nI_neg0 h (by omega))), bI_f0]
theorem cC_above_L : ∀ n i fuel : Nat, i + n = 12 → n < fuel → p_X0_hasCallAbove_L7 fuel (hr, aa, wy, st, wr, sp, la, bF cl, q1, q2, q3, q4, q5) uH (nI i) = some (bI (aF cl i n)) := by
  intro n
  induction n with
  | zero =>
    intro i fuel h hf
    obtain ⟨f, rfl⟩ : ∃ f, fuel = f + 1 := ⟨fuel - 1, by omega⟩
    rw [p_X0_hasCallAbove_L7]
    simp (disch := omega) only [↓Lm1, L0, L1, L2, L3, L4, L5, L7, L8, L9, L10, L12, L20, L21, L33, L40, L60, L80, L99, L108, nI_add, nI_mul, gd_nI, nI_cl, nI_lt', nI_le', nI_eq', bd_sm, nF_app, bF_app, bI_n0, nI_m1e, nI_m1e', nI_m1l, nI_m1l', nI_m1t, nI_m1t', if_true, if_false]
    rw [if_pos (by omega)]
    rfl
  | succ n ih =>
    intro i fuel h hf
    obtain ⟨f, rfl⟩ : ∃ f, fuel = f + 1 := ⟨fuel - 1, by omega⟩
    rw [p_X0_hasCallAbove_L7]
    simp (disch := omega) only [↓Lm1, L0, L1, L2, L3, L4, L5, L7, L8, L9, L10, L12, L20, L21, L33, L40, L60, L80, L99, L108, nI_add, nI_mul, gd_nI, nI_cl, nI_lt', nI_le', nI_eq', bd_sm, nF_app, bF_app, bI_n0, nI_m1e, nI_m1e', nI_m1l, nI_m1l', nI_m1t, nI_m1t', if_true, if_false]
    rw [if_neg (by omega)]
    rw [ih (i + 1) f (by omega) (by omega), aF]
    cases hc : cl i <;> simp [bI_t1]
theorem cC_above (ha : a < 12) : p_X0_hasCallAbove (hr, nI a, wy, st, wr, sp, la, bF cl, q1, q2, q3, q4, q5) uH = some (bI (aF cl (a + 1) (11 - a))) := by
  unfold p_X0_hasCallAbove
  simp (disch := omega) only [↓Lm1, L0, L1, L2, L3, L4, L5, L7, L8, L9, L10, L12, L20, L21, L33, L40, L60, L80, L99, L108, nI_add, nI_mul, gd_nI, nI_cl, nI_lt', nI_le', nI_eq', bd_sm, nF_app, bF_app, bI_n0, nI_m1e, nI_m1e', nI_m1l, nI_m1l', nI_m1t, nI_m1t', if_true, if_false]
  exact cC_above_L (11 - a) (a + 1) 200 (by omega) (by omega)
theorem cC_below_L (ha : a ≤ 12) : ∀ n i fuel : Nat, i + n = a → n < fuel → p_X0_hasCallBelow_L2 fuel (hr, nI a, wy, st, wr, sp, la, bF cl, q1, q2, q3, q4, q5) uH (nI i) = some (bI (aF cl i n)) := by
  intro n
  induction n with
  | zero =>
    intro i fuel h hf
    obtain ⟨f, rfl⟩ : ∃ f, fuel = f + 1 := ⟨fuel - 1, by omega⟩
    rw [p_X0_hasCallBelow_L2]
    simp (disch := omega) only [↓Lm1, L0, L1, L2, L3, L4, L5, L7, L8, L9, L10, L12, L20, L21, L33, L40, L60, L80, L99, L108, nI_add, nI_mul, gd_nI, nI_cl, nI_lt', nI_le', nI_eq', bd_sm, nF_app, bF_app, bI_n0, nI_m1e, nI_m1e', nI_m1l, nI_m1l', nI_m1t, nI_m1t', if_true, if_false]
    rw [if_pos (by omega)]
    rfl
  | succ n ih =>
    intro i fuel h hf
    obtain ⟨f, rfl⟩ : ∃ f, fuel = f + 1 := ⟨fuel - 1, by omega⟩
    rw [p_X0_hasCallBelow_L2]
    simp (disch := omega) only [↓Lm1, L0, L1, L2, L3, L4, L5, L7, L8, L9, L10, L12, L20, L21, L33, L40, L60, L80, L99, L108, nI_add, nI_mul, gd_nI, nI_cl, nI_lt', nI_le', nI_eq', bd_sm, nF_app, bF_app, bI_n0, nI_m1e, nI_m1e', nI_m1l, nI_m1l', nI_m1t, nI_m1t', if_true, if_false]
    rw [if_neg (by omega)]
    rw [ih (i + 1) f (by omega) (by omega), aF]
    cases hc : cl i <;> simp [bI_t1]
theorem cC_below (ha : a < 12) : p_X0_hasCallBelow (hr, nI a, wy, st, wr, sp, la, bF cl, q1, q2, q3, q4, q5) uH = some (bI (aF cl 0 a)) := by
  unfold p_X0_hasCallBelow
  rw [L0]
  exact cC_below_L (by omega) a 0 200 (by omega) (by omega)
theorem cC_near_L (ha : a < 12) (hz : ∀ f, 12 ≤ f → cl f = false) : ∀ n d fuel : Nat, 1 ≤ d → d + n = 12 → n < fuel → p_X0_wayToNearestCall_L2 fuel (hr, nI a, wy, st, wr, sp, la, bF cl, q1, q2, q3, q4, q5) uH (nI d) = some (nearG cl a d n) := by
  intro n
  induction n with
  | zero =>
    intro d fuel h1 h hf
    obtain ⟨f, rfl⟩ : ∃ f, fuel = f + 1 := ⟨fuel - 1, by omega⟩
    rw [p_X0_wayToNearestCall_L2]
    simp (disch := omega) only [↓Lm1, L0, L1, L2, L3, L4, L5, L7, L8, L9, L10, L12, L20, L21, L33, L40, L60, L80, L99, L108, nI_add, nI_mul, gd_nI, nI_cl, nI_lt', nI_le', nI_eq', bd_sm, nF_app, bF_app, bI_n0, nI_m1e, nI_m1e', nI_m1l, nI_m1l', nI_m1t, nI_m1t', if_true, if_false]
    rw [if_pos (by omega)]
    rfl
  | succ n ih =>
    intro d fuel h1 h hf
    obtain ⟨f, rfl⟩ : ∃ f, fuel = f + 1 := ⟨fuel - 1, by omega⟩
    rw [p_X0_wayToNearestCall_L2]
    simp (disch := omega) only [↓Lm1, L0, L1, L2, L3, L4, L5, L7, L8, L9, L10, L12, L20, L21, L33, L40, L60, L80, L99, L108, nI_add, nI_mul, gd_nI, nI_cl, nI_lt', nI_le', nI_eq', bd_sm, nF_app, bF_app, bI_n0, nI_m1e, nI_m1e', nI_m1l, nI_m1l', nI_m1t, nI_m1t', if_true, if_false]
    rw [if_neg (by omega), cC_has (by omega) hz, bd_sm, ih (d + 1) f (by omega) (by omega) (by omega), nearG]
    cases hc : cl (a + d)
    · rw [if_pos (bI_eq0 rfl), if_neg (by simp)]
      by_cases hd : d ≤ a
      · rw [nI_sub hd, cC_has (by omega) hz, bd_sm]
        cases hc2 : cl (a - d)
        · rw [if_pos (bI_eq0 rfl), if_neg (by simp)]
        · rw [if_neg (bI_ne0 rfl), if_pos ⟨hd, rfl⟩]
      · rw [cC_hasN (by omega) (by omega), bd_sm, if_pos (bI_eq0 rfl), if_neg (by omega)]
    · rw [if_neg (bI_ne0 rfl), if_pos rfl]
theorem cC_near (ha : a < 12) (hz : ∀ f, 12 ≤ f → cl f = false) : p_X0_wayToNearestCall (hr, nI a, wy, st, wr, sp, la, bF cl, q1, q2, q3, q4, q5) uH = some (nearG cl a 1 11) := by
  unfold p_X0_wayToNearestCall
  rw [L1]
  exact cC_near_L ha hz 11 1 200 (by omega) (by omega) (by omega)
theorem cC_ride_at (ha : a < 12) (hz : ∀ f, 12 ≤ f → cl f = false) (hc : cl a = true) : p_X0_ride (hr, nI a, wy, st, wr, sp, la, bF cl, q1, q2, q3, q4, q5) uH = some (hr, nI a, wy, st, wr, sp, la, bF cl, q1, q2, q3, q4, q5) := by
  unfold p_X0_ride
  rw [cC_has (by omega) hz, bd_sm, if_neg (bI_ne hc)]
theorem cC_ride (ha : a < 12) (hz : ∀ f, 12 ≤ f → cl f = false) (hw : okw wy) (hc : cl a = false) : p_X0_ride (hr, nI a, wy, st, wr, sp, la, bF cl, q1, q2, q3, q4, q5) uH = some (hr, nI a + wyG cl a wy, wyG cl a wy, st, wr + nI 1, sp, la, bF cl, q1, q2, q3, q4, q5) := by
  unfold p_X0_ride
  rw [cC_has (by omega) hz, bd_sm, if_pos (bI_eq hc)]
  unfold wyG p_X0_ride_J26 p_X0_ride_J44 p_X0_ride_J40 p_X0_ride_J45
  rcases hw with h0 | h0 | h0
  · subst h0
    rw [goG_0]
    simp (disch := omega) only [↓Lm1, L0, L1, L2, L3, L4, L5, L7, L8, L9, L10, L12, L20, L21, L33, L40, L60, L80, L99, L108, nI_add, nI_mul, gd_nI, nI_cl, nI_lt', nI_le', nI_eq', bd_sm, nF_app, bF_app, bI_n0, nI_m1e, nI_m1e', nI_m1l, nI_m1l', nI_m1t, nI_m1t', if_true, if_false]
    rw [if_pos (by omega), if_pos (by omega), cC_near ha hz, bd_sm]
    simp (disch := omega) only [↓Lm1, L0, L1, L2, L3, L4, L5, L7, L8, L9, L10, L12, L20, L21, L33, L40, L60, L80, L99, L108, nI_add, nI_mul, gd_nI, nI_cl, nI_lt', nI_le', nI_eq', bd_sm, nF_app, bF_app, bI_n0, nI_m1e, nI_m1e', nI_m1l, nI_m1l', nI_m1t, nI_m1t', if_true, if_false, p_X0_ride_J58]
    simp
  · subst h0
    rw [goG_1]
    simp (disch := omega) only [↓Lm1, L0, L1, L2, L3, L4, L5, L7, L8, L9, L10, L12, L20, L21, L33, L40, L60, L80, L99, L108, nI_add, nI_mul, gd_nI, nI_cl, nI_lt', nI_le', nI_eq', bd_sm, nF_app, bF_app, bI_n0, nI_m1e, nI_m1e', nI_m1l, nI_m1l', nI_m1t, nI_m1t', if_true, if_false]
    rw [if_neg (by omega), cC_above ha, bd_sm]
    cases hb : aF cl (a + 1) (11 - a)
    · rw [if_pos (bI_eq0 rfl), if_pos (by omega), cC_near ha hz, bd_sm]
      simp (disch := omega) only [↓Lm1, L0, L1, L2, L3, L4, L5, L7, L8, L9, L10, L12, L20, L21, L33, L40, L60, L80, L99, L108, nI_add, nI_mul, gd_nI, nI_cl, nI_lt', nI_le', nI_eq', bd_sm, nF_app, bF_app, bI_n0, nI_m1e, nI_m1e', nI_m1l, nI_m1l', nI_m1t, nI_m1t', if_true, if_false, p_X0_ride_J58]
      simp
    · rw [if_neg (bI_ne0 rfl), if_neg (by omega)]
      simp (disch := omega) only [↓Lm1, L0, L1, L2, L3, L4, L5, L7, L8, L9, L10, L12, L20, L21, L33, L40, L60, L80, L99, L108, nI_add, nI_mul, gd_nI, nI_cl, nI_lt', nI_le', nI_eq', bd_sm, nF_app, bF_app, bI_n0, nI_m1e, nI_m1e', nI_m1l, nI_m1l', nI_m1t, nI_m1t', if_true, if_false, p_X0_ride_J58]
  · subst h0
    rw [goG_m]
    simp (disch := omega) only [↓Lm1, L0, L1, L2, L3, L4, L5, L7, L8, L9, L10, L12, L20, L21, L33, L40, L60, L80, L99, L108, nI_add, nI_mul, gd_nI, nI_cl, nI_lt', nI_le', nI_eq', bd_sm, nF_app, bF_app, bI_n0, nI_m1e, nI_m1e', nI_m1l, nI_m1l', nI_m1t, nI_m1t', if_true, if_false]
    rw [cC_below ha, bd_sm]
    cases hb : aF cl 0 a
    · rw [if_pos (bI_eq0 rfl), cC_near ha hz, bd_sm]
      simp (disch := omega) only [↓Lm1, L0, L1, L2, L3, L4, L5, L7, L8, L9, L10, L12, L20, L21, L33, L40, L60, L80, L99, L108, nI_add, nI_mul, gd_nI, nI_cl, nI_lt', nI_le', nI_eq', bd_sm, nF_app, bF_app, bI_n0, nI_m1e, nI_m1e', nI_m1l, nI_m1l', nI_m1t, nI_m1t', if_true, if_false, p_X0_ride_J58]
      simp
    · rw [if_neg (bI_ne0 rfl), if_neg (by omega)]
      simp (disch := omega) only [↓Lm1, L0, L1, L2, L3, L4, L5, L7, L8, L9, L10, L12, L20, L21, L33, L40, L60, L80, L99, L108, nI_add, nI_mul, gd_nI, nI_cl, nI_lt', nI_le', nI_eq', bd_sm, nF_app, bF_app, bI_n0, nI_m1e, nI_m1e', nI_m1l, nI_m1l', nI_m1t, nI_m1t', if_true, if_false, p_X0_ride_J58]
end
