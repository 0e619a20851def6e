theorem bI_n0 (b : Bool) : (bI b = nI 0) = (b = false) := bI_0 b
theorem bI_n1 (b : Bool) : (bI b = nI 1) = (b = true) := bI_1 b
theorem nI_n1 {a : Nat} (h : a < 2147483648) : (nI a = -nI 1) = False := nI_m1 h
theorem nI_n1' {a : Nat} (h : a < 2147483648) : (-nI 1 = nI a) = False := eq_false fun e => of_eq_false (nI_m1 (a := a) h) e.symm
/-! THE PURE PART: counted loops of class and model -/
def m1 : Int32 := -1
theorem Lm1 : (-1 : Int32) = m1 := rfl
theorem nI_m1e {n : Nat} (h : n < 2147483648) : (nI n = m1) = False := nI_m1 h
theorem nI_m1e' {n : Nat} (h : n < 2147483648) : (m1 = nI n) = False := eq_false fun e => of_eq_false (nI_m1 h) e.symm
theorem nI_m1l {n : Nat} (h : n < 2147483648) : (nI n < m1) = False := by
  apply eq_false
  rw [Int32.lt_iff_toInt_lt, nI_toInt (by omega)]
  have h2 : m1.toInt = -1 := by decide +kernel
  omega
theorem nI_m1l' {n : Nat} (h : n < 2147483648) : (m1 < nI n) = True := by
  apply eq_true
  rw [Int32.lt_iff_toInt_lt, nI_toInt (by omega)]
  have h2 : m1.toInt = -1 := by decide +kernel
  omega
theorem nI_m1t {n : Nat} (h : n < 2147483648) : (nI n ≤ m1) = False := by
  apply eq_false
  rw [Int32.le_iff_toInt_le, nI_toInt (by omega)]
  have h2 : m1.toInt = -1 := by decide +kernel
  omega
theorem nI_m1t' {n : Nat} (h : n < 2147483648) : (m1 ≤ nI n) = True := by
  apply eq_true
  rw [Int32.le_iff_toInt_le, nI_toInt (by omega)]
  have h2 : m1.toInt = -1 := by decide +kernel
  omega
theorem nar_n0 : vp_nar .boolean (nI 0) = bI false := by rw [← L0]; exact nar_0
theorem nar_n1 : vp_nar .boolean (nI 1) = bI true := by rw [← L1]; exact nar_1
theorem bI_t1 : bI true = nI 1 := L1
theorem bI_f0 : bI false = nI 0 := L0
theorem bI_ne {b : Bool} (h : b = true) : ¬ bI b = 0 := by subst h; decide +kernel
theorem bI_eq {b : Bool} (h : b = false) : bI b = 0 := by subst h; rfl
theorem bI_ne0 {b : Bool} (h : b = true) : ¬ bI b = nI 0 := by subst h; decide +kernel
theorem bI_eq0 {b : Bool} (h : b = false) : bI b = nI 0 := by subst h; exact L0
/-- a sum of n terms, from the i-th on -/
def sF (w : Nat → Nat) : Nat → Nat → Nat
  | _, 0 => 0
  | i, n + 1 => w i + sF w (i + 1) n
theorem sF_sm (w : Nat → Nat) : ∀ (n i : Nat), sF w i n = sm (fun j => w (i + j)) n := by
  intro n
  induction n with
  | zero => intro i; rfl
  | succ n ih =>
    intro i
    rw [sF, ih, sm]
    have e : (fun j => w (i + 1 + j)) = (fun j => w (i + (j + 1))) := by funext j; congr 1; omega
    rw [e]
    rfl
theorem sF_0 (w : Nat → Nat) (n : Nat) : sF w 0 n = sm w n := by
  rw [sF_sm]
  congr 1
  funext j
  rw [Nat.zero_add]
theorem sF_z {w : Nat → Nat} : ∀ (n i : Nat), (∀ j, i ≤ j → w j = 0) → sF w i n = 0 := by
  intro n
  induction n with
  | zero => intro i _; rfl
  | succ n ih => intro i h; rw [sF, h i (Nat.le_refl i), ih (i + 1) (fun j hj => h j (by omega))]
theorem sF_add (w : Nat → Nat) : ∀ (n i k : Nat), sF w i (n + k) = sF w i n + sF w (i + n) k := by
  intro n
  induction n with
  | zero => intro i k; simp [sF]
  | succ n ih =>
    intro i k
    rw [show n + 1 + k = (n + k) + 1 by omega, sF, sF, ih, show i + 1 + n = i + (n + 1) by omega]
    omega
theorem sm_cut {w : Nat → Nat} {n N : Nat} (h : n ≤ N) (hz : ∀ j, n ≤ j → w j = 0) : sm w n = sm w N := by
  rw [← sF_0, ← sF_0]
  obtain ⟨k, rfl⟩ := Nat.exists_eq_add_of_le h
  rw [sF_add, sF_z k (0 + n) (fun j hj => hz j (by omega))]
  rfl
theorem sm_ext {w w' : Nat → Nat} (n : Nat) (h : ∀ j, j < n → w j = w' j) : sm w n = sm w' n := by
  have key : ∀ (n i : Nat), (∀ j, i ≤ j → j < i + n → w j = w' j) → sF w i n = sF w' i n := by
    intro n
    induction n with
    | zero => intro i _; rfl
    | succ n ih => intro i h; rw [sF, sF, h i (by omega) (by omega), ih (i + 1) (fun j h1 h2 => h j (by omega) (by omega))]
  rw [← sF_0, ← sF_0]
  exact key n 0 (fun j _ h2 => h j (by omega))
theorem sF_le {w w' : Nat → Nat} (n : Nat) : ∀ i : Nat, (∀ j, i ≤ j → j < i + n → w j ≤ w' j) → sF w i n ≤ sF w' i n := by
  induction n with
  | zero => intro i _; exact Nat.le_refl 0
  | succ n ih =>
    intro i h
    have h1 := h i (by omega) (by omega)
    have h2 := ih (i + 1) (fun j h1 h2 => h j (by omega) (by omega))
    rw [sF, sF]
    omega
theorem sm_le {w w' : Nat → Nat} (n : Nat) (h : ∀ j, j < n → w j ≤ w' j) : sm w n ≤ sm w' n := by
  rw [← sF_0, ← sF_0]
  exact sF_le n 0 (fun j _ h2 => h j (by omega))
theorem sm_c (c n : Nat) : sm (fun _ => c) n = n * c := by
  induction n with
  | zero => simp [sm]
  | succ n ih => rw [sm, ih, Nat.succ_mul]; omega
/-- one term changed -/
theorem sm_ud {w : Nat → Nat} {n k v : Nat} (hk : k < n) : sm (ud w k v) n + w k = sm w n + v := by
  have key : ∀ (n i : Nat), (i ≤ k → k < i + n → sF (ud w k v) i n + w k = sF w i n + v) ∧ (k < i → sF (ud w k v) i n = sF w i n) := by
    intro n
    induction n with
    | zero => intro i; exact ⟨fun _ _ => by omega, fun _ => rfl⟩
    | succ n ih =>
      intro i
      refine ⟨fun h1 h2 => ?_, fun h1 => ?_⟩
      · rw [sF, sF]
        by_cases h : i = k
        · subst h
          rw [ud_at, (ih (i + 1)).2 (by omega)]
          omega
        · rw [ud_ne _ _ h]
          have := (ih (i + 1)).1 (by omega) (by omega)
          omega
      · rw [sF, sF, ud_ne _ _ (by omega), (ih (i + 1)).2 (by omega)]
  rw [← sF_0, ← sF_0]
  exact (key n 0).1 (by omega) (by omega)
/-- a counted loop that adds -/
theorem fl_sum {L : Nat → Int32 → Int32 → Option Int32} {N : Nat} {w : Nat → Nat} (hs : ∀ f acc i : Nat, i ≤ N → L (f + 1) (nI acc) (nI i) = if N ≤ i then some (nI acc) else L f (nI (acc + w i)) (nI (i + 1))) : ∀ n i acc fuel : Nat, i + n = N → n < fuel → L fuel (nI acc) (nI i) = some (nI (acc + sF w i n)) := by
  intro n
  induction n with
  | zero =>
    intro i acc fuel h hf
    obtain ⟨f, rfl⟩ : ∃ f, fuel = f + 1 := ⟨fuel - 1, by omega⟩
    rw [hs f acc i (by omega), if_pos (by omega)]
    rfl
  | succ n ih =>
    intro i acc fuel h hf
    obtain ⟨f, rfl⟩ : ∃ f, fuel = f + 1 := ⟨fuel - 1, by omega⟩
    rw [hs f acc i (by omega), if_neg (by omega), ih (i + 1) (acc + w i) f (by omega) (by omega), sF, Nat.add_assoc]
theorem fl_sum0 {L : Nat → Int32 → Int32 → Option Int32} {N : Nat} {w : Nat → Nat} (fuel : Nat) (hN : N < fuel) (hs : ∀ f acc i : Nat, i ≤ N → L (f + 1) (nI acc) (nI i) = if N ≤ i then some (nI acc) else L f (nI (acc + w i)) (nI (i + 1))) : L fuel (nI 0) (nI 0) = some (nI (sm w N)) := by
  rw [fl_sum hs N 0 0 fuel (by omega) hN, Nat.zero_add, sF_0]
section
variable {hr aa wy st wr sp la : Int32} {cl rd : Nat → Bool} {nx ct wm : Nat → Nat} {q0 q1 q2 q3 q4 q5 : Nat → Int32} {uH : tX1} {fl lim nr : Int32}
theorem cC_called : p_X0_countCalled (hr, aa, wy, st, wr, sp, la, bF cl, q1, q2, q3, q4, q5) uH = some (nI (cnt cl 12)) := by
  unfold p_X0_countCalled
  rw [L0]
  refine fl_sum0 (L := fun f x i => p_X0_countCalled_L4 f (hr, aa, wy, st, wr, sp, la, bF cl, q1, q2, q3, q4, q5) uH x i) 200 (by omega) (fun f acc i hi => ?_)
  show p_X0_countCalled_L4 (f + 1) _ _ _ _ = _
  rw [p_X0_countCalled_L4]
  by_cases h : 12 ≤ i
  · simp (disch := omega) only [↓Lm1, L0, L1, L2, L3, L4, L5, L7, L8, L9, L10, L12, L20, L21, L33, L40, L60, L80, L99, L108, nI_add, nI_mul, gd_nI, nI_cl, nI_lt', nI_le', nI_eq', bd_sm, nF_app, bF_app, bI_n0, nI_m1e, nI_m1e', nI_m1l, nI_m1l', nI_m1t, nI_m1t', if_true, if_false, h]
  · simp (disch := omega) only [↓Lm1, L0, L1, L2, L3, L4, L5, L7, L8, L9, L10, L12, L20, L21, L33, L40, L60, L80, L99, L108, nI_add, nI_mul, gd_nI, nI_cl, nI_lt', nI_le', nI_eq', bd_sm, nF_app, bF_app, bI_n0, nI_m1e, nI_m1e', nI_m1l, nI_m1l', nI_m1t, nI_m1t', if_true, if_false, h]
    cases hc : cl i <;> simp [b1]
theorem cC_cut : p_X0_countCut (hr, aa, wy, st, wr, sp, la, q0, q1, nF ct, q3, q4, q5) uH = some (nI (sm ct 12)) := by
  unfold p_X0_countCut
  rw [L0]
  refine fl_sum0 (L := fun f x i => p_X0_countCut_L4 f (hr, aa, wy, st, wr, sp, la, q0, q1, nF ct, q3, q4, q5) uH x i) 200 (by omega) (fun f acc i hi => ?_)
  show p_X0_countCut_L4 (f + 1) _ _ _ _ = _
  rw [p_X0_countCut_L4]
  by_cases h : 12 ≤ i
  · simp (disch := omega) only [↓Lm1, L0, L1, L2, L3, L4, L5, L7, L8, L9, L10, L12, L20, L21, L33, L40, L60, L80, L99, L108, nI_add, nI_mul, gd_nI, nI_cl, nI_lt', nI_le', nI_eq', bd_sm, nF_app, bF_app, bI_n0, nI_m1e, nI_m1e', nI_m1l, nI_m1l', nI_m1t, nI_m1t', if_true, if_false, h]
  · simp (disch := omega) only [↓Lm1, L0, L1, L2, L3, L4, L5, L7, L8, L9, L10, L12, L20, L21, L33, L40, L60, L80, L99, L108, nI_add, nI_mul, gd_nI, nI_cl, nI_lt', nI_le', nI_eq', bd_sm, nF_app, bF_app, bI_n0, nI_m1e, nI_m1e', nI_m1l, nI_m1l', nI_m1t, nI_m1t', if_true, if_false, h]
theorem cC_subs {n : Nat} {h3 h4 h5 h6 : Nat → Int32} (hn : n ≤ 8) : p_X0_countSubscribers (hr, aa, wy, st, wr, sp, la, q0, q1, q2, q3, q4, bF rd) (fl, lim, nI n, h3, h4, h5, h6) = some (nI (cnt rd n)) := by
  unfold p_X0_countSubscribers
  rw [L0]
  refine fl_sum0 (L := fun f x i => p_X0_countSubscribers_L4 f (hr, aa, wy, st, wr, sp, la, q0, q1, q2, q3, q4, bF rd) (fl, lim, nI n, h3, h4, h5, h6) x i) 200 (by omega) (fun f acc i hi => ?_)
  show p_X0_countSubscribers_L4 (f + 1) _ _ _ _ = _
  rw [p_X0_countSubscribers_L4]
  by_cases h : n ≤ i
  · simp (disch := omega) only [↓Lm1, L0, L1, L2, L3, L4, L5, L7, L8, L9, L10, L12, L20, L21, L33, L40, L60, L80, L99, L108, nI_add, nI_mul, gd_nI, nI_cl, nI_lt', nI_le', nI_eq', bd_sm, nF_app, bF_app, bI_n0, nI_m1e, nI_m1e', nI_m1l, nI_m1l', nI_m1t, nI_m1t', if_true, if_false, h]
  · simp (disch := omega) only [↓Lm1, L0, L1, L2, L3, L4, L5, L7, L8, L9, L10, L12, L20, L21, L33, L40, L60, L80, L99, L108, nI_add, nI_mul, gd_nI, nI_cl, nI_lt', nI_le', nI_eq', bd_sm, nF_app, bF_app, bI_n0, nI_m1e, nI_m1e', nI_m1l, nI_m1l', nI_m1t, nI_m1t', if_true, if_false, h]
    cases hc : rd i <;> simp [b1]
theorem cC_warms {n : Nat} {h3 h4 h5 h6 : Nat → Int32} (hn : n ≤ 8) : p_X0_sumOfWarmths (hr, aa, wy, st, wr, sp, la, q0, q1, q2, q3, nF wm, bF rd) (fl, lim, nI n, h3, h4, h5, h6) = some (nI (sm (fun r => if rd r = true then wm r else 0) n)) := by
  unfold p_X0_sumOfWarmths
  rw [L0]
  refine fl_sum0 (L := fun f x i => p_X0_sumOfWarmths_L4 f (hr, aa, wy, st, wr, sp, la, q0, q1, q2, q3, nF wm, bF rd) (fl, lim, nI n, h3, h4, h5, h6) x i) 200 (by omega) (fun f acc i hi => ?_)
  show p_X0_sumOfWarmths_L4 (f + 1) _ _ _ _ = _
  rw [p_X0_sumOfWarmths_L4]
  by_cases h : n ≤ i
  · simp (disch := omega) only [↓Lm1, L0, L1, L2, L3, L4, L5, L7, L8, L9, L10, L12, L20, L21, L33, L40, L60, L80, L99, L108, nI_add, nI_mul, gd_nI, nI_cl, nI_lt', nI_le', nI_eq', bd_sm, nF_app, bF_app, bI_n0, nI_m1e, nI_m1e', nI_m1l, nI_m1l', nI_m1t, nI_m1t', if_true, if_false, h]
  · simp (disch := omega) only [↓Lm1, L0, L1, L2, L3, L4, L5, L7, L8, L9, L10, L12, L20, L21, L33, L40, L60, L80, L99, L108, nI_add, nI_mul, gd_nI, nI_cl, nI_lt', nI_le', nI_eq', bd_sm, nF_app, bF_app, bI_n0, nI_m1e, nI_m1e', nI_m1l, nI_m1l', nI_m1t, nI_m1t', if_true, if_false, h]
    cases hc : rd i <;> simp
end
