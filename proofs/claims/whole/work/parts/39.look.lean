/-! THE PURE PART: looking ahead -/
/-- rows that are kept -/
def kR (B B' : tB) : Prop := B.1 ≤ B'.1 ∧ ∀ i : Nat, i < B.1 → B'.2.1 i = B.2.1 i ∧ B'.2.2.1 i = B.2.2.1 i ∧ B'.2.2.2 i = B.2.2.2 i
theorem kR_rf (B : tB) : kR B B := ⟨Nat.le_refl _, fun _ _ => ⟨rfl, rfl, rfl⟩⟩
theorem kR_tr {B B' B'' : tB} (h : kR B B') (h' : kR B' B'') : kR B B'' := ⟨Nat.le_trans h.1 h'.1, fun i hi => by
  obtain ⟨a1, a2, a3⟩ := h.2 i hi
  obtain ⟨b1, b2, b3⟩ := h'.2 i (Nat.lt_of_lt_of_le hi h.1)
  exact ⟨b1.trans a1, b2.trans a2, b3.trans a3⟩⟩
theorem kR_p {r : Int32} {hr a' : Nat} {nx' : Nat → Nat} {B B' : tB} (h : pR r hr a' nx' B B') : kR B B' := by
  rcases h with ⟨-, rfl⟩ | ⟨x, p, -, -, -, -, -, -, rfl⟩
  · exact kR_rf _
  · exact ⟨Nat.le_succ _, fun i hi => ⟨ud_ne _ _ (Nat.ne_of_lt hi), upd_ne _ _ (Nat.ne_of_lt hi), upd_ne _ _ (Nat.ne_of_lt hi)⟩⟩
def bk (B B' : tB) : tB := (B.1, B'.2.1, B'.2.2.1, B'.2.2.2)
theorem kR_bk {B B' : tB} (h : kR B B') : kR B (bk B B') := ⟨Nat.le_refl _, h.2⟩
theorem R_bk {g : tG} {fb : Nat → Bool} {A : tA} {B B' : tB} (hR : iR g fb A B) (hk : kR B B') : iR g fb A (bk B B') := by
  obtain ⟨⟨h1, h1b⟩, ⟨h2, h2b⟩, h3, h4, h5, h6, h7, h8, h9, h10, h11, h12, h13, h14, h15, h16, h17, h18, h19, h20, h21, h22, h23⟩ := hR
  refine ⟨⟨h1, h1b⟩, ⟨h2, h2b⟩, h3, h4, h5, h6, h7, h8, h9, h10, h11, h12, h13, h14, ?_, h16, h17, h18, h19, h20, h21, h22, fun i hi => ?_⟩
  · rw [h15]
    show _ = if B.1 = 0 then 0 else g.2.2.2.2.2.1 (B'.2.1 (B.1 - 1))
    by_cases h0 : B.1 = 0
    · rw [if_pos h0, if_pos h0]
    · rw [if_neg h0, if_neg h0, (hk.2 (B.1 - 1) (by omega)).1]
  · show B'.2.1 i < 108 ∧ B'.2.1 i % 9 < g.2.2.2.1 (B'.2.1 i / 9)
    rw [(hk.2 i hi).1]
    exact h23 i hi
theorem iN_out (A : tA) (m i : Nat) (h : 41 ≤ i) : iN A m i = 0 := by
  unfold iN mkN
  rw [if_neg (by omega), if_neg (by omega), if_neg (by omega), if_neg (by omega), if_neg (by omega), if_neg (by omega), if_neg (by omega), if_neg (by omega), if_neg (by omega), if_neg (by omega), if_neg (by omega), if_neg (by omega)]
theorem L_keep (g : tG) (fb : Nat → Bool) (A : tA) (B : tB) (kp : Nat → Int32) (sd tw : Int32) (M : tM) : p_X5_keep (iL g fb A B kp sd tw M) = some (iL g fb A B (va_cpy (iN A B.1) kp 0 0 41) sd tw M) := rfl
theorem L_back (g : tG) (fb : Nat → Bool) (A A' : tA) (B B' : tB) (kp : Nat → Int32) (sd tw : Int32) (M : tM) : p_X5_bringBack (iL g fb A' B' (va_cpy (iN A B.1) kp 0 0 41) sd tw M) = some (iL g fb A (bk B B') (va_cpy (iN A B.1) kp 0 0 41) sd tw M) := by
  unfold p_X5_bringBack
  have e : va_cpy (va_cpy (iN A B.1) kp 0 0 41) (iN A' B'.1) 0 0 41 = iN A B.1 := by
    funext i
    unfold va_cpy
    by_cases h : 0 ≤ i ∧ i < 0 + 41
    · rw [if_pos h, if_pos (by omega), show 0 + (0 + (i - 0) - 0) = i by omega]
    · rw [if_neg h, iN_out _ _ _ (by omega), iN_out _ _ _ (by omega)]
  show some (va_cpy (va_cpy (iN A B.1) kp 0 0 41) (iN A' B'.1) 0 0 41, _) = _
  rw [e]
  rfl
/-- n hours -/
theorem j_hours {g : tG} {fb : Nat → Bool} {N : Nat} (hN : N ≤ 60) : ∀ (n : Nat) (A : tA) (B : tB) (i c fuel fuel2 : Nat), iR g fb A B → A.1 + n < 1000000 → i + n = N → n < fuel → n < fuel2 → ∃ (A' : tA) (B' : tB), p_X0_passAndCountPrinted_L4 fuel (iC fb A) (iH g) (nI N) (nI c) (nI i) = some (nI (c + (B'.1 - B.1)), iC fb A') ∧ (∀ (kp : Nat → Int32) (sd tw : Int32) (M : tM), ∃ sd' : Int32, p_X5_hoursOn_L2 fuel2 (iL g fb A B kp sd tw M) (nI N) (nI i) = some (iL g fb A' B' kp sd' tw M)) ∧ iR g fb A' B' ∧ A'.1 = A.1 + n ∧ kR B B' := by
  intro n
  induction n with
  | zero =>
    intro A B i c fuel fuel2 hR hh hi hf hf2
    obtain ⟨f, rfl⟩ : ∃ f, fuel = f + 1 := ⟨fuel - 1, by omega⟩
    obtain ⟨f2, rfl⟩ : ∃ f2, fuel2 = f2 + 1 := ⟨fuel2 - 1, by omega⟩
    refine ⟨A, B, ?_, fun kp sd tw M => ⟨sd, ?_⟩, hR, rfl, kR_rf _⟩
    · rw [p_X0_passAndCountPrinted_L4, if_pos ((nI_leI (by omega) (by omega)).mpr (by omega)), Nat.sub_self, Nat.add_zero]
    · rw [p_X5_hoursOn_L2, if_pos ((nI_leI (by omega) (by omega)).mpr (by omega))]
  | succ n ih =>
    intro A B i c fuel fuel2 hR hh hi hf hf2
    obtain ⟨f, rfl⟩ : ∃ f, fuel = f + 1 := ⟨fuel - 1, by omega⟩
    obtain ⟨f2, rfl⟩ : ∃ f2, fuel2 = f2 + 1 := ⟨fuel2 - 1, by omega⟩
    obtain ⟨r, A1, B1, sd1, e1, e2, e3, e4, e5, e6⟩ := j_hour hR (by omega)
    obtain ⟨A', B', k1, k2, k3, k4, k5⟩ := ih A1 B1 (i + 1) (c + (B1.1 - B.1)) f f2 e3 (by omega) (by omega) (by omega) (by omega)
    have hk := kR_p e5
    refine ⟨A', B', ?_, fun kp sd tw M => ?_, k3, by omega, kR_tr hk k5⟩
    · rw [p_X0_passAndCountPrinted_L4, if_neg (mt (nI_leI (by omega) (by omega)).mp (by omega)), e1, bd_sm, Lm1, L1, nI_add]
      have q1 := hk.1
      have q2 := k5.1
      rw [show c + (B'.1 - B.1) = c + (B1.1 - B.1) + (B'.1 - B1.1) by omega]
      rcases e5 with ⟨hr1, hB⟩ | ⟨x, p, hr1, hx, -, -, -, -, hB⟩
      · rw [if_pos hr1]
        rw [hB, Nat.sub_self, Nat.add_zero] at k1
        rw [hB, Nat.sub_self, Nat.add_zero]
        exact k1
      · rw [if_neg (by show ¬ r = m1; rw [hr1]; exact of_eq_false (nI_m1e hx)), nI_add]
        have h1 : B1.1 - B.1 = 1 := by
          have h2 : B1.1 = B.1 + 1 := by rw [hB]
          omega
        rw [h1] at k1
        rw [h1]
        exact k1
    · obtain ⟨sd', k⟩ := k2 kp sd1 tw M
      refine ⟨sd', ?_⟩
      rw [p_X5_hoursOn_L2, if_neg (mt (nI_leI (by omega) (by omega)).mp (by omega)), e2 kp sd tw M, bd_sm, L1, nI_add]
      exact k
theorem R_mnB {g : tG} {fb : Nat → Bool} {A : tA} {B : tB} (hR : iR g fb A B) : B.1 ≤ 108 := R_mn2 hR
theorem c_subs {g : tG} {fb : Nat → Bool} {A : tA} {B : tB} (hR : iR g fb A B) : p_X0_countSubscribers (iC fb A) (iH g) = some (nI (cnt A.2.2.2.2.2.2.2.2.2.2.2 8)) := by
  obtain ⟨⟨h1, h1b⟩, ⟨h2, h2b⟩, h3, h4, h5, h6, h7, h8, h9, h10, h11, h12, h13, h14, h15, h16, h17, h18, h19, h20, h21, h22, h23⟩ := hR
  unfold iC iH
  rw [cC_subs h3]
  unfold cnt
  rw [sm_cut h3 (fun j hj => by rw [h22 j hj]; rfl)]
theorem c_warms {g : tG} {fb : Nat → Bool} {A : tA} {B : tB} (hR : iR g fb A B) : p_X0_sumOfWarmths (iC fb A) (iH g) = some (nI (sm (fun r => if A.2.2.2.2.2.2.2.2.2.2.2 r = true then A.2.2.2.2.2.2.2.2.2.2.1 r else 0) g.2.2.1)) := by
  obtain ⟨⟨h1, h1b⟩, ⟨h2, h2b⟩, h3, h4⟩ := hR
  unfold iC iH
  exact cC_warms h3
theorem c_cut {g : tG} {fb : Nat → Bool} {A : tA} {B : tB} (hR : iR g fb A B) : p_X0_countCut (iC fb A) (iH g) = some (nI (sm A.2.2.2.2.2.2.2.2.2.1 12)) := cC_cut
theorem l_cut {g : tG} {fb : Nat → Bool} {A : tA} {B : tB} (hR : iR g fb A B) (kp : Nat → Int32) (sd tw : Int32) (M : tM) : p_X5_cut (iL g fb A B kp sd tw M) = some (nI (sm A.2.2.2.2.2.2.2.2.2.1 12)) := by
  obtain ⟨⟨h1, h1b⟩, ⟨h2, h2b⟩, h3, h4, h5, h6, h7, h8, h9, h10, h11, h12, h13, h14, h15, h16, h17, h18, h19, h20, h21, h22, h23⟩ := hR
  unfold iL iN
  rw [cL_cut h1b, sm_cut h1b (fun j hj => by have := h18 j; have := h17 j; have := h5 j hj; omega)]
theorem l_subs (g : tG) (fb : Nat → Bool) (A : tA) (B : tB) (kp : Nat → Int32) (sd tw : Int32) (M : tM) : p_X5_ones ((iL g fb A B kp sd tw M).1 7) = some (nI (cnt A.2.2.2.2.2.2.2.2.2.2.2 8)) := c_ones (by omega)
theorem l_warms {g : tG} {fb : Nat → Bool} {A : tA} {B : tB} (hR : iR g fb A B) (kp : Nat → Int32) (sd tw : Int32) (M : tM) : p_X5_warmth (iL g fb A B kp sd tw M) = some (nI (sm (fun r => if A.2.2.2.2.2.2.2.2.2.2.2 r = true then A.2.2.2.2.2.2.2.2.2.2.1 r else 0) g.2.2.1)) := by
  obtain ⟨⟨h1, h1b⟩, ⟨h2, h2b⟩, h3, h4⟩ := hR
  unfold iL iN
  exact cL_warmth h3
/-- what would be in N hours -/
theorem j_then {g : tG} {fb : Nat → Bool} {A : tA} {B : tB} {N : Nat} (hR : iR g fb A B) (hh : A.1 < 900000) (hN : N ≤ 60) : ∃ (A' : tA) (B' : tB), p_X0_passAndCountPrinted (iC fb A) (iH g) (nI N) = some (nI (B'.1 - B.1), iC fb A') ∧ iR g fb A' B' ∧ kR B B' ∧ (∀ (kp : Nat → Int32) (sd tw : Int32) (M : tM), ∃ (kp' : Nat → Int32) (sd' : Int32), p_X5_then (iL g fb A B kp sd tw M) (nI N) (nI 8) = some (nI B'.1, iL g fb A (bk B B') kp' sd' tw M) ∧ p_X5_then (iL g fb A B kp sd tw M) (nI N) (nI 7) = some (nI (cnt A'.2.2.2.2.2.2.2.2.2.2.2 8), iL g fb A (bk B B') kp' sd' tw M) ∧ p_X5_then (iL g fb A B kp sd tw M) (nI N) (nI 33) = some (nI (sm (fun r => if A'.2.2.2.2.2.2.2.2.2.2.2 r = true then A'.2.2.2.2.2.2.2.2.2.2.1 r else 0) g.2.2.1), iL g fb A (bk B B') kp' sd' tw M) ∧ p_X5_then (iL g fb A B kp sd tw M) (nI N) (nI 21) = some (nI (sm A'.2.2.2.2.2.2.2.2.2.1 12), iL g fb A (bk B B') kp' sd' tw M)) := by
  obtain ⟨A', B', e1, e2, e3, e4, e5⟩ := j_hours hN N A B 0 0 200 200 hR (by omega) (by omega) (by omega) (by omega)
  rw [Nat.zero_add] at e1
  refine ⟨A', B', ?_, e3, e5, fun kp sd tw M => ?_⟩
  · unfold p_X0_passAndCountPrinted
    rw [L0]
    exact e1
  · obtain ⟨sd', k⟩ := e2 (va_cpy (iN A B.1) kp 0 0 41) sd tw M
    refine ⟨va_cpy (iN A B.1) kp 0 0 41, sd', ?_, ?_, ?_, ?_⟩
    · unfold p_X5_then p_X5_hoursOn p_X5_then_J61
      rw [L_keep, bd_sm, L0, k, bd_sm, L8, if_pos rfl, L_back, bd_sm]
      rfl
    · unfold p_X5_then p_X5_hoursOn p_X5_then_J61
      rw [L_keep, bd_sm, L0, k, bd_sm, L8, L7, if_neg (mt (nI_eq (by omega) (by omega)).mp (by omega)), if_pos rfl, l_subs, bd_sm, L_back, bd_sm]
    · unfold p_X5_then p_X5_hoursOn p_X5_then_J61
      rw [L_keep, bd_sm, L0, k, bd_sm, L8, L7, L33, if_neg (mt (nI_eq (by omega) (by omega)).mp (by omega)), if_neg (mt (nI_eq (by omega) (by omega)).mp (by omega)), if_pos rfl, l_warms e3, bd_sm, L_back, bd_sm]
    · unfold p_X5_then p_X5_hoursOn p_X5_then_J61
      rw [L_keep, bd_sm, L0, k, bd_sm, L8, L7, L33, if_neg (mt (nI_eq (by omega) (by omega)).mp (by omega)), if_neg (mt (nI_eq (by omega) (by omega)).mp (by omega)), if_neg (mt (nI_eq (by omega) (by omega)).mp (by omega)), l_cut e3, bd_sm, L_back, bd_sm]
/-- the trial's rows hold nothing behind their ends -/
def zT (u : tX0) : Prop := (∀ i : Nat, 12 ≤ i → u.2.2.2.2.2.2.2.1 i = 0 ∧ u.2.2.2.2.2.2.2.2.1 i = 0 ∧ u.2.2.2.2.2.2.2.2.2.1 i = 0) ∧ (∀ i : Nat, 8 ≤ i → u.2.2.2.2.2.2.2.2.2.2.1 i = 0 ∧ u.2.2.2.2.2.2.2.2.2.2.2.1 i = 0 ∧ u.2.2.2.2.2.2.2.2.2.2.2.2 i = 0)
theorem zT_of {g : tG} {fb : Nat → Bool} {A : tA} {B : tB} (hR : iR g fb A B) : zT (iC fb A) := by
  obtain ⟨⟨h1, h1b⟩, ⟨h2, h2b⟩, h3, h4, h5, h6, h7, h8, h9, h10, h11, h12, h13, h14, h15, h16, h17, h18, h19, h20, h21, h22, h23⟩ := hR
  refine ⟨fun i hi => ⟨?_, ?_, ?_⟩, fun i hi => ⟨?_, ?_, ?_⟩⟩
  · show bI (A.2.2.2.2.2.2.2.1 i) = 0
    rw [h16 i (by omega)]; rfl
  · show nI (A.2.2.2.2.2.2.2.2.1 i) = 0
    rw [show A.2.2.2.2.2.2.2.2.1 i = 0 by have := h17 i; have := h5 i (by omega); omega]; rfl
  · show nI (A.2.2.2.2.2.2.2.2.2.1 i) = 0
    rw [show A.2.2.2.2.2.2.2.2.2.1 i = 0 by have := h18 i; have := h17 i; have := h5 i (by omega); omega]; rfl
  · show bI (fb i) = 0
    rw [h9 i (by omega)]; rfl
  · show nI (A.2.2.2.2.2.2.2.2.2.2.1 i) = 0
    rw [h21 i (h22 i (by omega))]; rfl
  · show bI (A.2.2.2.2.2.2.2.2.2.2.2 i) = 0
    rw [h22 i (by omega)]; rfl
def mixF (f g : Nat → Int32) (i : Nat) : Nat → Int32 := fun j => if j < i then f j else g j
theorem mixF_0 (f g : Nat → Int32) : mixF f g 0 = g := by funext j; unfold mixF; rw [if_neg (by omega)]
theorem mixF_s (f g : Nat → Int32) (i : Nat) : upd (mixF f g i) i (f i) = mixF f g (i + 1) := by
  funext j
  show (if j = i then f i else if j < i then f j else g j) = if j < i + 1 then f j else g j
  by_cases h : j = i
  · subst h; rw [if_pos rfl, if_pos (by omega)]
  · rw [if_neg h]
    by_cases h2 : j < i
    · rw [if_pos h2, if_pos (by omega)]
    · rw [if_neg h2, if_neg (by omega)]
theorem mixF_e {f g : Nat → Int32} {n : Nat} (h : ∀ j, n ≤ j → g j = 0) (h' : ∀ j, n ≤ j → f j = 0) : mixF f g n = f := by
  funext j; unfold mixF
  by_cases h2 : j < n
  · rw [if_pos h2]
  · rw [if_neg h2, h j (by omega), h' j (by omega)]
section
variable {hr aa wy st wr sp la : Int32} {cl fb rd : Nat → Bool} {nx ct wm : Nat → Int32} {k1 k2 k3 k4 k5 k6 x1 x2 x3 : Nat → Int32} {y1 y2 y3 y4 y5 y6 y7 : Int32}
theorem cp_L134 : ∀ n i fuel : Nat, i + n = 8 → n < fuel → p_X0_copy_L134 fuel (hr, aa, wy, st, wr, sp, la, k1, k2, k3, k4, mixF wm k5 i, mixF (bF rd) k6 i) (y1, y2, y3, y4, y5, y6, y7, x1, x2, x3, bF fb, wm, bF rd) (nI i) = some (hr, aa, wy, st, wr, sp, la, k1, k2, k3, k4, mixF wm k5 8, mixF (bF rd) k6 8) := by
  intro n
  induction n with
  | zero =>
    intro i fuel hi hf
    obtain ⟨f, rfl⟩ : ∃ f, fuel = f + 1 := ⟨fuel - 1, by omega⟩
    rw [p_X0_copy_L134, show i = 8 by omega, if_pos (by decide +kernel)]
  | succ n ih =>
    intro i fuel hi hf
    obtain ⟨f, rfl⟩ : ∃ f, fuel = f + 1 := ⟨fuel - 1, by omega⟩
    rw [p_X0_copy_L134]
    simp (disch := omega) only [↓Lm1, L0, L1, L2, L3, L4, L5, L7, L8, L9, L10, L12, L20, L21, L33, L40, L60, L80, L99, L108, nI_add, nI_mul, gd_nI, nI_cl, nI_lt', nI_le', nI_eq', bd_sm, nF_app, bF_app, bI_n0, nI_m1e, nI_m1e', nI_m1l, nI_m1l', nI_m1t, nI_m1t', if_true, if_false, nar_bI]
    rw [if_neg (by omega), ← bF_app, mixF_s, mixF_s, ih (i + 1) f (by omega) (by omega)]
theorem cp_L108 : ∀ n i fuel : Nat, i + n = 8 → n < fuel → p_X0_copy_L108 fuel (hr, aa, wy, st, wr, sp, la, k1, k2, k3, mixF (bF fb) k4 i, k5, k6) (y1, y2, y3, y4, y5, y6, y7, x1, x2, x3, bF fb, wm, bF rd) (nI i) = some (hr, aa, wy, st, wr, sp, la, k1, k2, k3, mixF (bF fb) k4 8, mixF wm k5 8, mixF (bF rd) k6 8) := by
  intro n
  induction n with
  | zero =>
    intro i fuel hi hf
    obtain ⟨f, rfl⟩ : ∃ f, fuel = f + 1 := ⟨fuel - 1, by omega⟩
    have h := cp_L134 (hr := hr) (aa := aa) (wy := wy) (st := st) (wr := wr) (sp := sp) (la := la) (rd := rd) (wm := wm) (fb := fb) (k1 := k1) (k2 := k2) (k3 := k3) (k4 := mixF (bF fb) k4 8) (k5 := k5) (k6 := k6) (x1 := x1) (x2 := x2) (x3 := x3) (y1 := y1) (y2 := y2) (y3 := y3) (y4 := y4) (y5 := y5) (y6 := y6) (y7 := y7) 8 0 200 (by omega) (by omega)
    rw [mixF_0, mixF_0] at h
    rw [p_X0_copy_L108, show i = 8 by omega, if_pos (by decide +kernel), L0]
    exact h
  | succ n ih =>
    intro i fuel hi hf
    obtain ⟨f, rfl⟩ : ∃ f, fuel = f + 1 := ⟨fuel - 1, by omega⟩
    rw [p_X0_copy_L108]
    simp (disch := omega) only [↓Lm1, L0, L1, L2, L3, L4, L5, L7, L8, L9, L10, L12, L20, L21, L33, L40, L60, L80, L99, L108, nI_add, nI_mul, gd_nI, nI_cl, nI_lt', nI_le', nI_eq', bd_sm, nF_app, bF_app, bI_n0, nI_m1e, nI_m1e', nI_m1l, nI_m1l', nI_m1t, nI_m1t', if_true, if_false, nar_bI]
    rw [if_neg (by omega), ← bF_app, mixF_s, ih (i + 1) f (by omega) (by omega)]
theorem cp_L58 : ∀ n i fuel : Nat, i + n = 12 → n < fuel → p_X0_copy_L58 fuel (hr, aa, wy, st, wr, sp, la, mixF (bF cl) k1 i, mixF nx k2 i, mixF ct k3 i, k4, k5, k6) (y1, y2, y3, y4, y5, y6, y7, bF cl, nx, ct, bF fb, wm, bF rd) (nI i) = some (hr, aa, wy, st, wr, sp, la, mixF (bF cl) k1 12, mixF nx k2 12, mixF ct k3 12, mixF (bF fb) k4 8, mixF wm k5 8, mixF (bF rd) k6 8) := by
  intro n
  induction n with
  | zero =>
    intro i fuel hi hf
    obtain ⟨f, rfl⟩ : ∃ f, fuel = f + 1 := ⟨fuel - 1, by omega⟩
    have h := cp_L108 (hr := hr) (aa := aa) (wy := wy) (st := st) (wr := wr) (sp := sp) (la := la) (rd := rd) (wm := wm) (fb := fb) (k1 := mixF (bF cl) k1 12) (k2 := mixF nx k2 12) (k3 := mixF ct k3 12) (k4 := k4) (k5 := k5) (k6 := k6) (x1 := bF cl) (x2 := nx) (x3 := ct) (y1 := y1) (y2 := y2) (y3 := y3) (y4 := y4) (y5 := y5) (y6 := y6) (y7 := y7) 8 0 200 (by omega) (by omega)
    rw [mixF_0] at h
    rw [p_X0_copy_L58, show i = 12 by omega, if_pos (by decide +kernel), L0]
    exact h
  | succ n ih =>
    intro i fuel hi hf
    obtain ⟨f, rfl⟩ : ∃ f, fuel = f + 1 := ⟨fuel - 1, by omega⟩
    rw [p_X0_copy_L58]
    simp (disch := omega) only [↓Lm1, L0, L1, L2, L3, L4, L5, L7, L8, L9, L10, L12, L20, L21, L33, L40, L60, L80, L99, L108, nI_add, nI_mul, gd_nI, nI_cl, nI_lt', nI_le', nI_eq', bd_sm, nF_app, bF_app, bI_n0, nI_m1e, nI_m1e', nI_m1l, nI_m1l', nI_m1t, nI_m1t', if_true, if_false, nar_bI]
    rw [if_neg (by omega), ← bF_app, mixF_s, mixF_s, mixF_s, ih (i + 1) f (by omega) (by omega)]
end
theorem c_copy {g : tG} {fb : Nat → Bool} {A : tA} {B : tB} {uT : tX0} (hR : iR g fb A B) (hz : zT uT) : p_X0_copy uT (iC fb A) = some (iC fb A) := by
  obtain ⟨t1, t2, t3, t4, t5, t6, t7, k1, k2, k3, k4, k5, k6⟩ := uT
  obtain ⟨hr, a, wy, st, wr, sp, la, cl, nx, ct, wm, rd⟩ := A
  obtain ⟨z1, z2⟩ := zT_of hR
  obtain ⟨w1, w2⟩ := hz
  have h := cp_L58 (hr := nI hr) (aa := nI a) (wy := wy) (st := nI st) (wr := nI wr) (sp := nI sp) (la := nI la) (cl := cl) (nx := nF nx) (ct := nF ct) (rd := rd) (wm := nF wm) (fb := fb) (k1 := k1) (k2 := k2) (k3 := k3) (k4 := k4) (k5 := k5) (k6 := k6) (y1 := nI hr) (y2 := nI a) (y3 := wy) (y4 := nI st) (y5 := nI wr) (y6 := nI sp) (y7 := nI la) 12 0 200 (by omega) (by omega)
  have n1 : mixF (bF cl) k1 12 = bF cl := mixF_e (fun j hj => (w1 j hj).1) (fun j hj => (z1 j hj).1)
  have n2 : mixF (nF nx) k2 12 = nF nx := mixF_e (fun j hj => (w1 j hj).2.1) (fun j hj => (z1 j hj).2.1)
  have n3 : mixF (nF ct) k3 12 = nF ct := mixF_e (fun j hj => (w1 j hj).2.2) (fun j hj => (z1 j hj).2.2)
  have n4 : mixF (bF fb) k4 8 = bF fb := mixF_e (fun j hj => (w2 j hj).1) (fun j hj => (z2 j hj).1)
  have n5 : mixF (nF wm) k5 8 = nF wm := mixF_e (fun j hj => (w2 j hj).2.1) (fun j hj => (z2 j hj).2.1)
  have n6 : mixF (bF rd) k6 8 = bF rd := mixF_e (fun j hj => (w2 j hj).2.2) (fun j hj => (z2 j hj).2.2)
  rw [mixF_0, mixF_0, mixF_0, n1, n2, n3, n4, n5, n6] at h
  unfold p_X0_copy
  rw [L0]
  exact h
