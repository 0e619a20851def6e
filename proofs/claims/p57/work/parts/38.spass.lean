/-! THE PURE PART: the law's own ride -/
/-- a way to the nearest call: below before above -/
def sp2 (cl : Nat → Bool) (a : Nat) (W : Int32) : Prop := (W = nI 1 ∧ ∃ e, cl (a + e) = true ∧ ∀ e', e' < e → e' ≤ a → cl (a - e') = false) ∨ (W = m1 ∧ ∃ e, e ≤ a ∧ cl (a - e) = true ∧ ∀ e', e' ≤ e → cl (a + e') = false)
theorem sp2_u {cl : Nat → Bool} {a : Nat} {W W' : Int32} (h : sp2 cl a W) (h' : sp2 cl a W') : W = W' := by
  have key : ∀ e1 e2 : Nat, cl (a + e2) = true → (∀ e', e' < e2 → e' ≤ a → cl (a - e') = false) → e1 ≤ a → cl (a - e1) = true → (∀ e', e' ≤ e1 → cl (a + e') = false) → False := by
    intro e1 e2 q1 q2 q3 q4 q5
    by_cases h : e2 ≤ e1
    · have := q5 e2 h; rw [q1] at this; cases this
    · have := q2 e1 (by omega) q3; rw [q4] at this; cases this
  rcases h with ⟨h1, e2, h2, h3⟩ | ⟨h1, e1, h4, h5, h6⟩ <;> rcases h' with ⟨g1, d2, g2, g3⟩ | ⟨g1, d1, g4, g5, g6⟩
  · rw [h1, g1]
  · exact (key d1 e2 h2 h3 g4 g5 g6).elim
  · exact (key e1 d2 g2 g3 h4 h5 h6).elim
  · rw [h1, g1]
theorem near_sp {cl : Nat → Bool} {a : Nat} (hc : cl a = false) : ∀ n d : Nat, 1 ≤ d → (∀ e, e < d → cl (a + e) = false ∧ (e ≤ a → cl (a - e) = false)) → (∃ e, e < d + n ∧ (cl (a + e) = true ∨ (e ≤ a ∧ cl (a - e) = true))) → sp2 cl a (nearG cl a d n) := by
  intro n
  induction n with
  | zero =>
    intro d hd h1 h2
    obtain ⟨e, h3, h4⟩ := h2
    have h5 := h1 e (by omega)
    rcases h4 with h4 | ⟨h4, h6⟩
    · rw [h5.1] at h4; cases h4
    · rw [h5.2 h4] at h6; cases h6
  | succ n ih =>
    intro d hd h1 h2
    rw [nearG]
    by_cases q1 : cl (a + d) = true
    · rw [if_pos q1]
      exact Or.inl ⟨rfl, d, q1, fun e' he ha => (h1 e' he).2 ha⟩
    · rw [if_neg q1]
      have q1 : cl (a + d) = false := by cases hq : cl (a + d) <;> simp_all
      by_cases q2 : d ≤ a ∧ cl (a - d) = true
      · rw [if_pos q2]
        refine Or.inr ⟨rfl, d, q2.1, q2.2, fun e' he => ?_⟩
        by_cases q3 : e' = d
        · rw [q3]; exact q1
        · exact (h1 e' (by omega)).1
      · rw [if_neg q2]
        refine ih (d + 1) (by omega) (fun e he => ?_) ?_
        · by_cases q3 : e = d
          · subst q3
            refine ⟨q1, fun hle => ?_⟩
            cases hq : cl (a - e)
            · rfl
            · exact absurd ⟨hle, hq⟩ q2
          · exact h1 e (by omega)
        · obtain ⟨e, h3, h4⟩ := h2
          exact ⟨e, by omega, h4⟩
/-- the law's own: from the top down -/
def nrS (cl : Nat → Bool) (a : Nat) : Nat → Nat → Int32 → Int32
  | 0, _, w => w
  | k + 1, near, w => if cl k = true then (if (if k ≤ a then a - k else k - a) < near then nrS cl a k (if k ≤ a then a - k else k - a) (if k ≤ a then m1 else nI 1) else nrS cl a k near w) else nrS cl a k near w
theorem nrS_A {cl : Nat → Bool} {a : Nat} : ∀ (k near : Nat) (w : Int32), k ≤ a + 1 → (nrS cl a k near w = m1 ∧ ∃ j, j < k ∧ cl j = true ∧ a - j < near) ∨ (nrS cl a k near w = w ∧ ∀ j, j < k → cl j = true → ¬ a - j < near) := by
  intro k
  induction k with
  | zero => intro near w h; exact Or.inr ⟨rfl, fun j hj => by omega⟩
  | succ k ih =>
    intro near w h
    rw [nrS]
    by_cases q1 : cl k = true
    · rw [if_pos q1, if_pos (show k ≤ a by omega), if_pos (show k ≤ a by omega)]
      by_cases q2 : a - k < near
      · rw [if_pos q2]
        left
        refine ⟨?_, k, by omega, q1, q2⟩
        rcases ih (a - k) m1 (by omega) with h1 | h1
        · exact h1.1
        · exact h1.1
      · rw [if_neg q2]
        rcases ih near w (by omega) with ⟨h1, j, h2, h3, h4⟩ | ⟨h1, h2⟩
        · exact Or.inl ⟨h1, j, by omega, h3, h4⟩
        · refine Or.inr ⟨h1, fun j hj hc => ?_⟩
          by_cases q3 : j = k
          · rw [q3]; exact q2
          · exact h2 j (by omega) hc
    · rw [if_neg q1]
      rcases ih near w (by omega) with ⟨h1, j, h2, h3, h4⟩ | ⟨h1, h2⟩
      · exact Or.inl ⟨h1, j, by omega, h3, h4⟩
      · refine Or.inr ⟨h1, fun j hj hc => ?_⟩
        by_cases q3 : j = k
        · rw [q3] at hc; exact absurd hc q1
        · exact h2 j (by omega) hc
theorem nrS_B {cl : Nat → Bool} {a : Nat} : ∀ (m near : Nat) (w : Int32), m < near → (∃ e, e < m ∧ cl (a + 1 + e) = true ∧ (∀ e', e' < e → cl (a + 1 + e') = false) ∧ nrS cl a (a + 1 + m) near w = nrS cl a (a + 1) (e + 1) (nI 1)) ∨ ((∀ e, e < m → cl (a + 1 + e) = false) ∧ nrS cl a (a + 1 + m) near w = nrS cl a (a + 1) near w) := by
  intro m
  induction m with
  | zero => intro near w h; exact Or.inr ⟨fun e he => by omega, rfl⟩
  | succ m ih =>
    intro near w h
    rw [show a + 1 + (m + 1) = (a + 1 + m) + 1 by omega, nrS]
    by_cases q1 : cl (a + 1 + m) = true
    · rw [if_pos q1, if_neg (show ¬ a + 1 + m ≤ a by omega), if_neg (show ¬ a + 1 + m ≤ a by omega), show a + 1 + m - a = m + 1 by omega, if_pos h]
      rcases ih (m + 1) (nI 1) (by omega) with ⟨e, h1, h2, h3, h4⟩ | ⟨h1, h2⟩
      · exact Or.inl ⟨e, by omega, h2, h3, h4⟩
      · exact Or.inl ⟨m, by omega, q1, h1, h2⟩
    · rw [if_neg q1]
      have q1 : cl (a + 1 + m) = false := by cases hq : cl (a + 1 + m) <;> simp_all
      rcases ih near w (by omega) with ⟨e, h1, h2, h3, h4⟩ | ⟨h1, h2⟩
      · exact Or.inl ⟨e, by omega, h2, h3, h4⟩
      · refine Or.inr ⟨fun e he => ?_, h2⟩
        by_cases q3 : e = m
        · rw [q3]; exact q1
        · exact h1 e (by omega)
theorem nrS_sp {cl : Nat → Bool} {a fl : Nat} {w : Int32} (ha : a < fl) (hfl : fl ≤ 12) (hz : ∀ f, fl ≤ f → cl f = false) (hc : cl a = false) (hx : ∃ j, cl j = true) : sp2 cl a (nrS cl a fl 99 w) := by
  obtain ⟨m, rfl⟩ : ∃ m, fl = a + 1 + m := ⟨fl - (a + 1), by omega⟩
  rcases nrS_B (cl := cl) (a := a) m 99 w (by omega) with ⟨e, h1, h2, h3, h4⟩ | ⟨h1, h2⟩
  · rw [h4]
    rcases nrS_A (cl := cl) (a := a) (a + 1) (e + 1) (nI 1) (by omega) with ⟨g1, j, g2, g3, g4⟩ | ⟨g1, g2⟩
    · refine Or.inr ⟨g1, a - j, by omega, by rw [show a - (a - j) = j by omega]; exact g3, fun e' he => ?_⟩
      by_cases q : e' = 0
      · rw [q]; exact hc
      · rw [show a + e' = a + 1 + (e' - 1) by omega]; exact h3 _ (by omega)
    · refine Or.inl ⟨g1, e + 1, by rw [show a + (e + 1) = a + 1 + e by omega]; exact h2, fun e' he hle => ?_⟩
      cases hq : cl (a - e')
      · rfl
      · exact absurd (show a - (a - e') < e + 1 by omega) (g2 (a - e') (by omega) hq)
  · rw [h2]
    rcases nrS_A (cl := cl) (a := a) (a + 1) 99 w (by omega) with ⟨g1, j, g2, g3, g4⟩ | ⟨g1, g2⟩
    · refine Or.inr ⟨g1, a - j, by omega, by rw [show a - (a - j) = j by omega]; exact g3, fun e' he => ?_⟩
      by_cases q : e' = 0
      · rw [q]; exact hc
      · rw [show a + e' = a + 1 + (e' - 1) by omega]
        by_cases q2 : e' - 1 < m
        · exact h1 _ q2
        · exact hz _ (by omega)
    · obtain ⟨j, hj⟩ := hx
      exfalso
      by_cases q : j < a + 1
      · exact g2 j q hj (by omega)
      · by_cases q2 : j < a + 1 + m
        · have := h1 (j - (a + 1)) (by omega)
          rw [show a + 1 + (j - (a + 1)) = j by omega, hj] at this; cases this
        · rw [hz j (by omega)] at hj; cases hj
theorem nrS_near {cl : Nat → Bool} {a fl : Nat} {w : Int32} (ha : a < fl) (hfl : fl ≤ 12) (hz : ∀ f, fl ≤ f → cl f = false) (hc : cl a = false) (hx : ∃ j, cl j = true) : nrS cl a fl 99 w = nearG cl a 1 11 := by
  refine sp2_u (nrS_sp ha hfl hz hc hx) (near_sp hc 11 1 (by omega) (fun e he => ?_) ?_)
  · have : e = 0 := by omega
    subst this
    exact ⟨hc, fun _ => hc⟩
  · obtain ⟨j, hj⟩ := hx
    have hj2 : j < fl := by
      by_cases q : j < fl
      · exact q
      · rw [hz j (by omega)] at hj; cases hj
    by_cases q : j ≤ a
    · exact ⟨a - j, by omega, Or.inr ⟨by omega, by rw [show a - (a - j) = j by omega]; exact hj⟩⟩
    · exact ⟨j - a, by omega, Or.inl (by rw [show a + (j - a) = j by omega]; exact hj)⟩
theorem cnt_ex {g : Nat → Bool} {n : Nat} (h : ¬ cnt g n = 0) : ∃ j, j < n ∧ g j = true := by
  refine Classical.byContradiction fun h2 => h (cnt_0 fun i hi => ?_)
  cases hq : g i
  · rfl
  · exact absurd ⟨i, hi, hq⟩ h2
theorem cnt_ne {g : Nat → Bool} {i n : Nat} (h : i < n) (hg : g i = true) : ¬ cnt g n = 0 := fun e => by
  have := cnt_pos h hg
  omega
/-- the law's own flag -/
def onG (cl : Nat → Bool) (a : Nat) (wy : Int32) : Nat → Bool := fun f => cl f && ((decide (wy = nI 1) && decide (a < f)) || (decide (wy = m1) && decide (f < a)))
theorem on_go {cl : Nat → Bool} {a fl : Nat} {wy : Int32} (ha : a < fl) (hfl : fl ≤ 12) (hz : ∀ f, fl ≤ f → cl f = false) (hw : okw wy) : aF (onG cl a wy) 0 fl = goG cl a wy := by
  have hlt : ∀ j, cl j = true → j < fl := fun j hj => by
    by_cases q : j < fl
    · exact q
    · rw [hz j (by omega)] at hj; cases hj
  apply b_ext
  rw [aF_iff]
  unfold onG
  rcases hw with h0 | h0 | h0
  · subst h0
    rw [goG_0]
    simp only [show ¬ (nI 0 = nI 1) from of_eq_false nI_01, show ¬ (nI 0 = m1) from of_eq_false (nI_m1e (by omega)), decide_false, Bool.false_and, Bool.or_false, Bool.and_false]
    simp
  · subst h0
    rw [goG_1, aF_iff]
    simp only [show ¬ (nI 1 = m1) from of_eq_false (nI_m1e (by omega)), decide_false, Bool.false_and, Bool.or_false, decide_true, Bool.true_and, Bool.and_eq_true, decide_eq_true_eq]
    constructor
    · rintro ⟨j, h1, h2, h3, h4⟩; exact ⟨j, by omega, by omega, h3⟩
    · rintro ⟨j, h1, h2, h3⟩; have := hlt j h3; exact ⟨j, by omega, by omega, h3, by omega⟩
  · subst h0
    rw [goG_m, aF_iff]
    simp only [show ¬ (m1 = nI 1) from of_eq_false (nI_m1e' (by omega)), decide_false, Bool.false_and, Bool.false_or, decide_true, Bool.true_and, Bool.and_eq_true, decide_eq_true_eq]
    constructor
    · rintro ⟨j, h1, h2, h3, h4⟩; exact ⟨j, by omega, by omega, h3⟩
    · rintro ⟨j, h1, h2, h3⟩; exact ⟨j, by omega, by omega, h3, by omega⟩
theorem m1_0 : (m1 ≤ nI 0) = True := by decide +kernel
theorem m1_0' : (nI 0 ≤ m1) = False := by decide +kernel
theorem m1_l0 : (m1 < nI 0) = True := by decide +kernel
theorem nI_l0 {n : Nat} (h : n < 2147483648) : (nI n < nI 0) = False := by rw [nI_lt' h (by omega)]; exact eq_false (by omega)
section
variable {hr a st wr sp la : Nat} {wy : Int32} {cl fb rd : Nat → Bool} {nx ct wm : Nat → Nat} {fl lim nr : Nat} {len tp th ta : Nat → Nat} {sd : Int32} {nm mn : Nat} {lk dl tl Ts Hs : Nat → Nat}
theorem sS_L87 (hfl : fl ≤ 12) (ha : a < 12) (hw : okw wy) : ∀ n i fuel b, i + n = fl → n < fuel → p_X5_pass_L87 fuel (nI hr, nI a, wy, nI st, nI wr, nI lim, nI sp, (fl, bF cl), bF fb, (fl, sCh len nx ct tp th), (nr, sRd nr ta wm rd), (nm, sMi nm lk dl), (mn, sPr mn tl Ts Hs tp th), sd) (nI mn) (bI b) (nI i) = if (b || aF (onG cl a wy) i n) = true then p_X5_pass_J241 (nI hr, nI a, wy, nI st, nI wr, nI lim, nI sp, (fl, bF cl), bF fb, (fl, sCh len nx ct tp th), (nr, sRd nr ta wm rd), (nm, sMi nm lk dl), (mn, sPr mn tl Ts Hs tp th), sd) (nI mn) else p_X5_pass_L159 200 (nI hr, nI a, wy, nI st, nI wr, nI lim, nI sp, (fl, bF cl), bF fb, (fl, sCh len nx ct tp th), (nr, sRd nr ta wm rd), (nm, sMi nm lk dl), (mn, sPr mn tl Ts Hs tp th), sd) (nI mn) (nI 99) (nI fl - nI 1) := by
  intro n
  induction n with
  | zero =>
    intro i fuel b h hf
    obtain ⟨f, rfl⟩ : ∃ f, fuel = f + 1 := ⟨fuel - 1, by omega⟩
    rw [p_X5_pass_L87]
    simp (disch := omega) only [↓Lm1, L0, L1, L2, L3, L4, L5, L7, L8, L9, L10, L12, L20, L21, L33, L40, L60, L80, L99, L108, nI_add, nI_mul, gd_nI, nI_cl, nI_lt', nI_le', nI_eq', bd_sm, nF_app, bF_app, bI_n0, nI_m1e, nI_m1e', nI_m1l, nI_m1l', nI_m1t, nI_m1t', if_true, if_false]
    rw [if_pos (by omega)]
    cases b <;> simp [aF]
  | succ n ih =>
    intro i fuel b h hf
    obtain ⟨f, rfl⟩ : ∃ f, fuel = f + 1 := ⟨fuel - 1, by omega⟩
    have t1 : (nI 1 : Int32) = bI true := L1.symm
    rw [p_X5_pass_L87]
    simp (disch := omega) only [↓Lm1, L0, L1, L2, L3, L4, L5, L7, L8, L9, L10, L12, L20, L21, L33, L40, L60, L80, L99, L108, nI_add, nI_mul, gd_nI, nI_cl, nI_lt', nI_le', nI_eq', bd_sm, nF_app, bF_app, bI_n0, nI_m1e, nI_m1e', nI_m1l, nI_m1l', nI_m1t, nI_m1t', if_true, if_false, p_X5_pass_J120, p_X5_pass_J135]
    rw [if_neg (by omega), ih (i + 1) f b (by omega) (by omega), show ∀ z, p_X5_pass_L87 f z (nI mn) (nI 1) (nI (i + 1)) = p_X5_pass_L87 f z (nI mn) (bI true) (nI (i + 1)) from fun _ => rfl, ih (i + 1) f true (by omega) (by omega)]
    rw [aF]
    unfold onG
    cases hc : cl i
    · simp
    · rw [if_neg (by simp)]
      rcases hw with h0 | h0 | h0
      · subst h0
        simp (disch := omega) only [↓Lm1, L0, L1, L2, L3, L4, L5, L7, L8, L9, L10, L12, L20, L21, L33, L40, L60, L80, L99, L108, nI_add, nI_mul, gd_nI, nI_cl, nI_lt', nI_le', nI_eq', bd_sm, nF_app, bF_app, bI_n0, nI_m1e, nI_m1e', nI_m1l, nI_m1l', nI_m1t, nI_m1t', if_true, if_false]
        simp [nI_01, nI_m1e (show 0 < 2147483648 by omega)]
      · subst h0
        simp (disch := omega) only [↓Lm1, L0, L1, L2, L3, L4, L5, L7, L8, L9, L10, L12, L20, L21, L33, L40, L60, L80, L99, L108, nI_add, nI_mul, gd_nI, nI_cl, nI_lt', nI_le', nI_eq', bd_sm, nF_app, bF_app, bI_n0, nI_m1e, nI_m1e', nI_m1l, nI_m1l', nI_m1t, nI_m1t', if_true, if_false]
        by_cases q : a < i <;> simp [q, nI_m1e (show 1 < 2147483648 by omega)]
      · subst h0
        simp (disch := omega) only [↓Lm1, L0, L1, L2, L3, L4, L5, L7, L8, L9, L10, L12, L20, L21, L33, L40, L60, L80, L99, L108, nI_add, nI_mul, gd_nI, nI_cl, nI_lt', nI_le', nI_eq', bd_sm, nF_app, bF_app, bI_n0, nI_m1e, nI_m1e', nI_m1l, nI_m1l', nI_m1t, nI_m1t', if_true, if_false, m1_0, m1_0']
        by_cases q : a ≤ i
        · have q2 : ¬ i < a := by omega
          simp [q, q2, nI_m1e' (show 1 < 2147483648 by omega)]
        · have q2 : i < a := by omega
          simp [q, q2, nI_m1e' (show 1 < 2147483648 by omega)]
theorem sS_L159 (hfl : fl ≤ 12) (ha : a < 12) : ∀ k fuel near wy, k < fuel → k ≤ fl → near ≤ 99 → p_X5_pass_L159 fuel (nI hr, nI a, wy, nI st, nI wr, nI lim, nI sp, (fl, bF cl), bF fb, (fl, sCh len nx ct tp th), (nr, sRd nr ta wm rd), (nm, sMi nm lk dl), (mn, sPr mn tl Ts Hs tp th), sd) (nI mn) (nI near) (pm k) = p_X5_pass_J241 (nI hr, nI a, nrS cl a k near wy, nI st, nI wr, nI lim, nI sp, (fl, bF cl), bF fb, (fl, sCh len nx ct tp th), (nr, sRd nr ta wm rd), (nm, sMi nm lk dl), (mn, sPr mn tl Ts Hs tp th), sd) (nI mn) := by
  intro k
  induction k with
  | zero =>
    intro fuel near wy hf hk hn
    obtain ⟨f, rfl⟩ : ∃ f, fuel = f + 1 := ⟨fuel - 1, by omega⟩
    rw [p_X5_pass_L159, pm]
    simp (disch := omega) only [↓Lm1, L0, L1, L2, L3, L4, L5, L7, L8, L9, L10, L12, L20, L21, L33, L40, L60, L80, L99, L108, nI_add, nI_mul, gd_nI, nI_cl, nI_lt', nI_le', nI_eq', bd_sm, nF_app, bF_app, bI_n0, nI_m1e, nI_m1e', nI_m1l, nI_m1l', nI_m1t, nI_m1t', if_true, if_false, m1_l0]
    rfl
  | succ k ih =>
    intro fuel near wy hf hk hn
    obtain ⟨f, rfl⟩ : ∃ f, fuel = f + 1 := ⟨fuel - 1, by omega⟩
    rw [p_X5_pass_L159, pm]
    simp (disch := omega) only [↓Lm1, L0, L1, L2, L3, L4, L5, L7, L8, L9, L10, L12, L20, L21, L33, L40, L60, L80, L99, L108, nI_add, nI_mul, gd_nI, nI_cl, nI_lt', nI_le', nI_eq', bd_sm, nF_app, bF_app, bI_n0, nI_m1e, nI_m1e', nI_m1l, nI_m1l', nI_m1t, nI_m1t', if_true, if_false, Nat.not_lt_zero, p_X5_pass_J203, pm_a]
    rw [nrS]
    cases hc : cl k
    · rw [if_pos rfl, if_neg (show ¬ (false = true) by simp), ih f near wy (by omega) (by omega) hn]
    · rw [if_neg (show ¬ (true = false) by simp), if_pos rfl]
      by_cases q : k ≤ a
      · rw [if_pos q, if_pos q, if_pos q, nI_sub q]
        simp (disch := omega) only [↓Lm1, L0, L1, L2, L3, L4, L5, L7, L8, L9, L10, L12, L20, L21, L33, L40, L60, L80, L99, L108, nI_add, nI_mul, gd_nI, nI_cl, nI_lt', nI_le', nI_eq', bd_sm, nF_app, bF_app, bI_n0, nI_m1e, nI_m1e', nI_m1l, nI_m1l', nI_m1t, nI_m1t', if_true, if_false]
        by_cases q2 : a - k < near
        · rw [if_pos q2, if_pos q2, if_pos q, ih f (a - k) m1 (by omega) (by omega) (by omega)]
        · rw [if_neg q2, if_neg q2, ih f near wy (by omega) (by omega) hn]
      · rw [if_neg q, if_neg q, if_neg q, nI_sub (by omega)]
        simp (disch := omega) only [↓Lm1, L0, L1, L2, L3, L4, L5, L7, L8, L9, L10, L12, L20, L21, L33, L40, L60, L80, L99, L108, nI_add, nI_mul, gd_nI, nI_cl, nI_lt', nI_le', nI_eq', bd_sm, nF_app, bF_app, bI_n0, nI_m1e, nI_m1e', nI_m1l, nI_m1l', nI_m1t, nI_m1t', if_true, if_false]
        by_cases q2 : k - a < near
        · rw [if_pos q2, if_pos q2, if_neg q, ih f (k - a) (nI 1) (by omega) (by omega) (by omega)]
        · rw [if_neg q2, if_neg q2, ih f near wy (by omega) (by omega) hn]
/-- the way, and then the ride -/
theorem sS_way (hfl : fl ≤ 12) (ha : a < fl) (hz : ∀ f, fl ≤ f → cl f = false) (hw : okw wy) (hc : cl a = false) (hx : ¬ cnt cl 12 = 0) : p_X5_pass_L87 200 (nI hr, nI a, wy, nI st, nI wr, nI lim, nI sp, (fl, bF cl), bF fb, (fl, sCh len nx ct tp th), (nr, sRd nr ta wm rd), (nm, sMi nm lk dl), (mn, sPr mn tl Ts Hs tp th), sd) (nI mn) (0 : Int32) (0 : Int32) = p_X5_pass_J264 (nI hr, nI a + wyG cl a wy, wyG cl a wy, nI st, nI (wr + 1), nI lim, nI sp, (fl, bF cl), bF fb, (fl, sCh len nx ct tp th), (nr, sRd nr ta wm rd), (nm, sMi nm lk dl), (mn, sPr mn tl Ts Hs tp th), sd) (nI mn) := by
  obtain ⟨j, hj, hj2⟩ := cnt_ex hx
  show p_X5_pass_L87 200 _ (nI mn) (bI false) (nI 0) = _
  rw [sS_L87 hfl (by omega) hw fl 0 200 false (by omega) (by omega), on_go ha hfl hz hw]
  unfold wyG
  cases hg : goG cl a wy
  · rw [if_neg (by simp), if_neg (by simp), nI_sub (by omega), show nI (fl - 1) = pm fl by obtain ⟨k, rfl⟩ : ∃ k, fl = k + 1 := ⟨fl - 1, by omega⟩
                                                                                           rfl, sS_L159 hfl (by omega) fl 200 99 wy (by omega) (by omega) (by omega), nrS_near ha hfl hz hc ⟨j, hj2⟩]
    unfold p_X5_pass_J241
    simp (disch := omega) only [↓Lm1, L0, L1, L2, L3, L4, L5, L7, L8, L9, L10, L12, L20, L21, L33, L40, L60, L80, L99, L108, nI_add, nI_mul, gd_nI, nI_cl, nI_lt', nI_le', nI_eq', bd_sm, nF_app, bF_app, bI_n0, nI_m1e, nI_m1e', nI_m1l, nI_m1l', nI_m1t, nI_m1t', if_true, if_false]
  · rw [if_pos (by simp), if_pos rfl]
    unfold p_X5_pass_J241
    simp (disch := omega) only [↓Lm1, L0, L1, L2, L3, L4, L5, L7, L8, L9, L10, L12, L20, L21, L33, L40, L60, L80, L99, L108, nI_add, nI_mul, gd_nI, nI_cl, nI_lt', nI_le', nI_eq', bd_sm, nF_app, bF_app, bI_n0, nI_m1e, nI_m1e', nI_m1l, nI_m1l', nI_m1t, nI_m1t', if_true, if_false]
end
