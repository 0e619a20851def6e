/-! THE PURE PART: instalments, grades, the warmest, what is to come -/
theorem L_if {α : Type} {a b : Nat} {x y : α} (h : a ≤ b) (hb : b < 2147483648) : (if nI a ≤ nI b then x else y) = x := if_pos ((nI_leI (by omega) (by omega)).mpr h)
theorem L_ifn {α : Type} {a b : Nat} {x y : α} (h : ¬ a ≤ b) (ha : a < 2147483648) : (if nI a ≤ nI b then x else y) = y := if_neg (mt (nI_leI (by omega) (by omega)).mp h)
section
variable {g : tG} {fb : Nat → Bool} {A : tA} {B : tB} {uI : tX2} {kp : Nat → Int32} {sd tw : Int32} {M : tM}
theorem j_mostL (hU : uR B uI) (hB : B.1 ≤ 108) : ∀ (n i : Nat) (b : Int32) (fuel fuel2 : Nat), B.1 ≤ i + n ∧ i + n ≤ 300 → n < fuel → n < fuel2 → (b = m1 ∨ ∃ b' : Nat, b = nI b' ∧ b' < B.1) → ∃ v : Int32, p_X2_findMostThrilling_L4 fuel uI b (nI i) = some v ∧ p_X5_thrilling_L4 fuel2 (iL g fb A B kp sd tw M) b (nI i) = some v := by
  have q1 : (iL g fb A B kp sd tw M).1 8 = nI B.1 := rfl
  have q2 : (iL g fb A B kp sd tw M).2.2.2.2.2.2.2.2.2.2.2.2.2.2.2.2.1 = B.2.2.1 := rfl
  intro n
  induction n with
  | zero =>
    intro i b fuel fuel2 hi h1 h2 hb
    obtain ⟨f, rfl⟩ : ∃ f, fuel = f + 1 := ⟨fuel - 1, by omega⟩
    obtain ⟨f2, rfl⟩ : ∃ f2, fuel2 = f2 + 1 := ⟨fuel2 - 1, by omega⟩
    refine ⟨b, ?_, ?_⟩
    · rw [p_X2_findMostThrilling_L4, hU.1, L_if (by omega) (by omega)]
    · rw [p_X5_thrilling_L4, q1, L_if (by omega) (by omega)]
  | succ n ih =>
    intro i b fuel fuel2 hi h1 h2 hb
    obtain ⟨f, rfl⟩ : ∃ f, fuel = f + 1 := ⟨fuel - 1, by omega⟩
    obtain ⟨f2, rfl⟩ : ∃ f2, fuel2 = f2 + 1 := ⟨fuel2 - 1, by omega⟩
    rw [p_X2_findMostThrilling_L4, p_X5_thrilling_L4]
    unfold p_X2_findMostThrilling_J32 p_X5_thrilling_J35
    rw [hU.1, q1, q2, Lm1, L1, nI_add]
    by_cases hc : B.1 ≤ i
    · rw [L_if hc (by omega), L_if hc (by omega)]
      exact ⟨b, rfl, rfl⟩
    · rw [L_ifn hc (by omega), L_ifn hc (by omega)]
      have r1 := ih (i + 1) (nI i) f f2 (by omega) (by omega) (by omega) (Or.inr ⟨i, rfl, by omega⟩)
      rcases hb with hb | ⟨b', hb, hb2⟩
      · rw [if_pos hb, if_pos hb]
        exact r1
      · have hne : ¬ b = m1 := by rw [hb]; exact of_eq_false (nI_m1e (by omega))
        have r2 := ih (i + 1) b f f2 (by omega) (by omega) (by omega) (Or.inr ⟨b', hb, hb2⟩)
        rw [if_neg hne, if_neg hne]
        rw [hb] at r2 ⊢
        rw [gd_nI _ (by omega) (by omega), gd_nI _ (by omega) (by omega), gd_nI _ (by omega) (by omega), gd_nI _ (by omega) (by omega), nI_cl (by omega), nI_cl (by omega), (hU.2 i (by omega)).2.2.1, (hU.2 b' (by omega)).2.2.1]
        by_cases hx : B.2.2.1 i ≤ B.2.2.1 b'
        · rw [if_pos hx, if_pos hx]; exact r2
        · rw [if_neg hx, if_neg hx]; exact r1
theorem j_waitL (hU : uR B uI) (hB : B.1 ≤ 108) : ∀ (n i : Nat) (b : Int32) (fuel fuel2 : Nat), 1 ≤ i → B.1 ≤ i + n ∧ i + n ≤ 300 → n < fuel → n < fuel2 → ∃ v : Int32, p_X2_findLongestWait_L4 fuel uI b (nI i) = some v ∧ p_X5_waits_L4 fuel2 (iL g fb A B kp sd tw M) b (nI i) = some v := by
  have q1 : (iL g fb A B kp sd tw M).1 8 = nI B.1 := rfl
  have q2 : (iL g fb A B kp sd tw M).2.2.2.2.2.2.2.2.2.2.2.2.2.2.2.2.2 = B.2.2.2 := rfl
  intro n
  induction n with
  | zero =>
    intro i b fuel fuel2 h0 hi h1 h2
    obtain ⟨f, rfl⟩ : ∃ f, fuel = f + 1 := ⟨fuel - 1, by omega⟩
    obtain ⟨f2, rfl⟩ : ∃ f2, fuel2 = f2 + 1 := ⟨fuel2 - 1, by omega⟩
    refine ⟨b, ?_, ?_⟩
    · rw [p_X2_findLongestWait_L4, hU.1, L_if (by omega) (by omega)]
    · rw [p_X5_waits_L4, q1, L_if (by omega) (by omega)]
  | succ n ih =>
    intro i b fuel fuel2 h0 hi h1 h2
    obtain ⟨f, rfl⟩ : ∃ f, fuel = f + 1 := ⟨fuel - 1, by omega⟩
    obtain ⟨f2, rfl⟩ : ∃ f2, fuel2 = f2 + 1 := ⟨fuel2 - 1, by omega⟩
    rw [p_X2_findLongestWait_L4, p_X5_waits_L4, hU.1, q1, q2, L1, nI_add]
    by_cases hc : B.1 ≤ i
    · rw [L_if hc (by omega), L_if hc (by omega)]
      exact ⟨b, rfl, rfl⟩
    · rw [L_ifn hc (by omega), L_ifn hc (by omega), nI_sub h0, gd_nI _ (by omega) (by omega), gd_nI _ (by omega) (by omega), gd_nI _ (by omega) (by omega), gd_nI _ (by omega) (by omega), nI_cl (by omega), nI_cl (by omega), (hU.2 i (by omega)).2.2.2, (hU.2 (i - 1) (by omega)).2.2.2]
      exact ih (i + 1) _ f f2 (by omega) (by omega) (by omega) (by omega)
theorem j_climbL (hU : uR B uI) (hB : B.1 ≤ 108) (ht : ∀ i, i < B.1 → B.2.1 i < 108) : ∀ (n i c fuel fuel2 : Nat), 1 ≤ i → B.1 ≤ i + n ∧ i + n ≤ 300 → n < fuel → n < fuel2 → ∃ v : Int32, p_X2_countClimbs_L4 fuel uI (nI c) (nI i) = some v ∧ p_X5_rises_L4 fuel2 (iL g fb A B kp sd tw M) (nI c) (nI i) = some v := by
  have q1 : (iL g fb A B kp sd tw M).1 8 = nI B.1 := rfl
  have q2 : (iL g fb A B kp sd tw M).2.2.2.2.2.2.2.2.2.2.2.2.2.2.2.1 = nF B.2.1 := rfl
  intro n
  induction n with
  | zero =>
    intro i c fuel fuel2 h0 hi h1 h2
    obtain ⟨f, rfl⟩ : ∃ f, fuel = f + 1 := ⟨fuel - 1, by omega⟩
    obtain ⟨f2, rfl⟩ : ∃ f2, fuel2 = f2 + 1 := ⟨fuel2 - 1, by omega⟩
    refine ⟨nI c, ?_, ?_⟩
    · rw [p_X2_countClimbs_L4, hU.1, L_if (by omega) (by omega)]
    · rw [p_X5_rises_L4, q1, L_if (by omega) (by omega)]
  | succ n ih =>
    intro i c fuel fuel2 h0 hi h1 h2
    obtain ⟨f, rfl⟩ : ∃ f, fuel = f + 1 := ⟨fuel - 1, by omega⟩
    obtain ⟨f2, rfl⟩ : ∃ f2, fuel2 = f2 + 1 := ⟨fuel2 - 1, by omega⟩
    rw [p_X2_countClimbs_L4, p_X5_rises_L4]
    unfold p_X5_rises_J44
    rw [hU.1, q1, q2, L0, L1, L9, nI_add, nI_add, nI_add, Nat.add_zero]
    by_cases hc : B.1 ≤ i
    · rw [L_if hc (by omega), L_if hc (by omega)]
      exact ⟨nI c, rfl, rfl⟩
    · have t1 := ht i (by omega)
      have t2 := ht (i - 1) (by omega)
      rw [L_ifn hc (by omega), L_ifn hc (by omega), nI_sub h0, gd_nI _ (by omega) (by omega), gd_nI _ (by omega) (by omega), gd_nI _ (by omega) (by omega), gd_nI _ (by omega) (by omega), nI_cl (by omega), nI_cl (by omega), (hU.2 i (by omega)).1, (hU.2 (i - 1) (by omega)).1, nF_app, nF_app, nI_div (by omega) (by omega), nI_div (by omega) (by omega)]
      by_cases hx : nI (B.2.1 i / 9) ≤ nI (B.2.1 (i - 1) / 9)
      · rw [if_pos hx, if_pos hx]; exact ih (i + 1) c f f2 (by omega) (by omega) (by omega) (by omega)
      · rw [if_neg hx, if_neg hx]; exact ih (i + 1) (c + 1) f f2 (by omega) (by omega) (by omega) (by omega)
theorem j_most (hU : uR B uI) (hB : B.1 ≤ 108) : ∃ v : Int32, p_X2_findMostThrilling uI = some v ∧ p_X5_thrilling (iL g fb A B kp sd tw M) = some v := by
  unfold p_X2_findMostThrilling p_X5_thrilling
  rw [L0]
  exact j_mostL hU hB 108 0 m1 200 200 (by omega) (by omega) (by omega) (Or.inl rfl)
theorem j_wait (hU : uR B uI) (hB : B.1 ≤ 108) : ∃ v : Int32, p_X2_findLongestWait uI = some v ∧ p_X5_waits (iL g fb A B kp sd tw M) = some v := by
  unfold p_X2_findLongestWait p_X5_waits
  rw [L1]
  exact j_waitL hU hB 108 1 _ 200 200 (by omega) (by omega) (by omega) (by omega)
theorem j_climb (hU : uR B uI) (hB : B.1 ≤ 108) (ht : ∀ i, i < B.1 → B.2.1 i < 108) : ∃ v : Int32, p_X2_countClimbs uI = some v ∧ p_X5_rises (iL g fb A B kp sd tw M) = some v := by
  unfold p_X2_countClimbs p_X5_rises
  rw [L0, L1]
  exact j_climbL hU hB ht 108 1 0 200 200 (by omega) (by omega) (by omega) (by omega)
end
/-! mirrors -/
def iM (M : tM) : tX3 := (nI M.1, nF M.2.1, nF M.2.2)
def oM4 (M : tM) : Prop := M.1 ≤ 4 ∧ (∀ m, M.2.1 m < 8 ∧ M.2.2 m < 8) ∧ (∀ m, m < M.1 → M.2.1 m ≠ M.2.2 m)
theorem gr_in (x : Int32) : ∃ gr : Nat, gr ≤ 10 ∧ (if (0 : Int32) < (if x < (10 : Int32) then x else (10 : Int32)) then (if x < (10 : Int32) then x else (10 : Int32)) else (0 : Int32)) = nI gr := by
  by_cases h1 : x < 10
  · rw [if_pos h1]
    by_cases h2 : (0 : Int32) < x
    · rw [if_pos h2]
      obtain ⟨j, hj, e⟩ := nI_of2 (x := x) (M := 10) (n := 10) rfl (Int32.not_lt.mpr (Int32.le_of_lt h2)) (Int32.le_of_lt h1)
      exact ⟨j, hj, e⟩
    · rw [if_neg h2]; exact ⟨0, by omega, L0⟩
  · rw [if_neg h1]
    exact ⟨10, by omega, by rw [if_pos (by decide +kernel)]; exact L10⟩
section
variable {g : tG} {fb : Nat → Bool} {A : tA} {B : tB} {uI : tX2} {kp : Nat → Int32} {sd tw : Int32} {M : tM} {uC uT : tX0}
theorem j_grade {m i : Nat} (hR : iR g fb A B) (hU : uR B uI) (hM : oM4 M) (hm : m < M.1) (hi : i < B.1) : ∃ gr : Nat, gr ≤ 10 ∧ p_X4_judge (iH g) uC uT uI (iM M) (nI m) (nI i) = some (nI gr) ∧ p_X5_graded (iL g fb A B kp sd tw M) (nI m) (nI i) = some (nI gr) := by
  have hB := R_mnB hR
  have ht := (hR.2.2.2.2.2.2.2.2.2.2.2.2.2.2.2.2.2.2.2.2.2.2 i hi).1
  have h6 := hR.2.2.2.2.2.1 (B.2.1 i)
  obtain ⟨hm4, hmt, hmn⟩ := hM
  obtain ⟨hk1, hk2⟩ := hmt m
  have hne := hmn m hm
  have q3 : (iL g fb A B kp sd tw M).2.2.2.2.2.2.2.2.2.2.2.2.2.2.2.1 = nF B.2.1 := rfl
  have q4 : (iL g fb A B kp sd tw M).2.2.2.2.2.2.2.2.1 = nF g.2.2.2.2.1 := rfl
  have q5 : (iL g fb A B kp sd tw M).2.2.2.2.2.2.2.2.2.2.2.2.2.1 = nF M.2.1 := rfl
  have q6 : (iL g fb A B kp sd tw M).2.2.2.2.2.2.2.2.2.2.2.2.2.2.1 = nF M.2.2 := rfl
  have q7 : (iL g fb A B kp sd tw M).2.2.2.2.2.2.2.2.2.2.2.2.2.2.2.2.1 = B.2.2.1 := rfl
  have q8 : (iH g).2.2.2.2.1 = nF g.2.2.2.2.1 := rfl
  have q9 : (iM M).2.1 = nF M.2.1 := rfl
  have qA : (iM M).2.2 = nF M.2.2 := rfl
  obtain ⟨u1, u2, u3, -⟩ := hU.2 i hi
  have hd : B.2.1 i / 9 * 9 + B.2.1 i % 9 = B.2.1 i := Nat.div_add_mod' _ _
  unfold p_X4_judge p_X1_topicAt p_X3_judge p_X3_judge_J20 p_X3_judge_J33 p_X5_graded p_X5_graded_J57
  rw [q3, q4, q5, q6, q7, q8, q9, qA, gd_nI _ (show i < 108 by omega) (by omega), gd_nI _ (show i < 108 by omega) (by omega), nI_cl (show i < 2147483648 by omega), u1, u2, u3, nF_app B.2.1, nI_cl (show B.2.1 i < 2147483648 by omega), L9, nI_mul, nI_add, hd, gd_nI _ ht (by omega), bd_sm, gd_nI _ ht (by omega), nI_cl (show B.2.1 i < 2147483648 by omega), gd_nI _ (show m < 4 by omega) (by omega), gd_nI _ (show m < 4 by omega) (by omega), nI_cl (show m < 2147483648 by omega), nF_app, nF_app, nF_app]
  by_cases h1 : g.2.2.2.2.1 (B.2.1 i) = M.2.1 m
  · have h2 : ¬ nI (M.2.2 m) = nI (M.2.1 m) := mt (nI_eq (by omega) (by omega)).mp (fun e => hne e.symm)
    obtain ⟨gr, e1, e2⟩ := gr_in ((4 : Int32) + B.2.2.1 i / (3 : Int32) + 2)
    refine ⟨gr, e1, ?_, ?_⟩
    · rw [h1, if_pos rfl, if_neg h2, e2, bd_sm]
    · rw [h1, if_pos rfl, e2, gd_nI _ (show m < 4 by omega) (by omega)]
  · have h3 : ¬ nI (M.2.1 m) = nI (g.2.2.2.2.1 (B.2.1 i)) := mt (nI_eq (by omega) (by omega)).mp (fun e => h1 e.symm)
    have h4 : ¬ nI (g.2.2.2.2.1 (B.2.1 i)) = nI (M.2.1 m) := mt (nI_eq (by omega) (by omega)).mp h1
    by_cases h2 : g.2.2.2.2.1 (B.2.1 i) = M.2.2 m
    · have h5 : nI (M.2.2 m) = nI (g.2.2.2.2.1 (B.2.1 i)) := by rw [h2]
      obtain ⟨gr, e1, e2⟩ := gr_in ((4 : Int32) + B.2.2.1 i / (3 : Int32) + (-3 : Int32))
      refine ⟨gr, e1, ?_, ?_⟩
      · rw [if_neg h3, if_pos h5, e2, gd_nI _ (show m < 4 by omega) (by omega), bd_sm]
      · rw [if_neg h4, if_pos h5.symm, e2, gd_nI _ (show m < 4 by omega) (by omega)]
    · have h5 : ¬ nI (M.2.2 m) = nI (g.2.2.2.2.1 (B.2.1 i)) := mt (nI_eq (by omega) (by omega)).mp (fun e => h2 e.symm)
      obtain ⟨gr, e1, e2⟩ := gr_in ((4 : Int32) + B.2.2.1 i / (3 : Int32))
      refine ⟨gr, e1, ?_, ?_⟩
      · rw [if_neg h3, if_neg h5, e2, gd_nI _ (show m < 4 by omega) (by omega), bd_sm]
      · rw [if_neg h4, if_neg (fun e => h5 e.symm), Int32.add_zero, e2, gd_nI _ (show m < 4 by omega) (by omega)]
theorem j_sumL {m : Nat} (hR : iR g fb A B) (hU : uR B uI) (hM : oM4 M) (hm : m < M.1) : ∀ (n i c fuel fuel2 : Nat), B.1 ≤ i + n ∧ i + n ≤ 300 → n < fuel → n < fuel2 → ∃ s : Nat, s ≤ c + 10 * n ∧ p_X4_sumOfGrades_L4 fuel (iH g) uC uT uI (iM M) (nI m) (nI c) (nI i) = some (nI s) ∧ p_X5_sumBy_L4 fuel2 (iL g fb A B kp sd tw M) (nI m) (nI c) (nI i) = some (nI s) := by
  have hB := R_mnB hR
  have q1 : (iL g fb A B kp sd tw M).1 8 = nI B.1 := rfl
  intro n
  induction n with
  | zero =>
    intro i c fuel fuel2 hi h1 h2
    obtain ⟨f, rfl⟩ : ∃ f, fuel = f + 1 := ⟨fuel - 1, by omega⟩
    obtain ⟨f2, rfl⟩ : ∃ f2, fuel2 = f2 + 1 := ⟨fuel2 - 1, by omega⟩
    refine ⟨c, by omega, ?_, ?_⟩
    · rw [p_X4_sumOfGrades_L4, hU.1, L_if (by omega) (by omega)]
    · rw [p_X5_sumBy_L4, q1, L_if (by omega) (by omega)]
  | succ n ih =>
    intro i c fuel fuel2 hi h1 h2
    obtain ⟨f, rfl⟩ : ∃ f, fuel = f + 1 := ⟨fuel - 1, by omega⟩
    obtain ⟨f2, rfl⟩ : ∃ f2, fuel2 = f2 + 1 := ⟨fuel2 - 1, by omega⟩
    rw [p_X4_sumOfGrades_L4, p_X5_sumBy_L4, hU.1, q1]
    by_cases hc : B.1 ≤ i
    · rw [L_if hc (by omega), L_if hc (by omega)]
      exact ⟨c, by omega, rfl, rfl⟩
    · obtain ⟨gr, e1, e2, e3⟩ := j_grade (uC := uC) (uT := uT) (kp := kp) (sd := sd) (tw := tw) hR hU hM hm (show i < B.1 by omega)
      rw [L_ifn hc (by omega), L_ifn hc (by omega), e2, e3, bd_sm, bd_sm, nI_add, L1, nI_add]
      obtain ⟨s, s1, s2, s3⟩ := ih (i + 1) (c + gr) f f2 (by omega) (by omega) (by omega)
      exact ⟨s, by omega, s2, s3⟩
theorem j_sum {m : Nat} (hR : iR g fb A B) (hU : uR B uI) (hM : oM4 M) (hm : m < M.1) : ∃ s : Nat, s ≤ 1080 ∧ p_X4_sumOfGrades (iH g) uC uT uI (iM M) (nI m) = some (nI s) ∧ p_X5_sumBy (iL g fb A B kp sd tw M) (nI m) = some (nI s) := by
  have hB := R_mnB hR
  obtain ⟨s, s1, s2, s3⟩ := j_sumL (uC := uC) (uT := uT) (kp := kp) (sd := sd) (tw := tw) hR hU hM hm 108 0 0 200 200 (by omega) (by omega) (by omega)
  refine ⟨s, by omega, ?_, ?_⟩
  · unfold p_X4_sumOfGrades; rw [L0]; exact s2
  · unfold p_X5_sumBy; rw [L0]; exact s3
theorem j_favL {m : Nat} (hR : iR g fb A B) (hU : uR B uI) (hM : oM4 M) (hm : m < M.1) : ∀ (n i : Nat) (b w : Int32) (fuel fuel2 : Nat), B.1 ≤ i + n ∧ i + n ≤ 300 → n < fuel → n < fuel2 → ((b = m1 ∧ w = m1) ∨ ∃ b' gb : Nat, b = nI b' ∧ w = nI gb ∧ b' < B.1 ∧ gb ≤ 10 ∧ p_X5_graded (iL g fb A B kp sd tw M) (nI m) (nI b') = some (nI gb)) → ∃ v : Int32, p_X4_favouriteOf_L12 fuel (iH g) uC uT uI (iM M) (nI m) b w (nI i) = some (.inr v) ∧ p_X5_liked_L4 fuel2 (iL g fb A B kp sd tw M) (nI m) b (nI i) = some v := by
  have hB := R_mnB hR
  have q1 : (iL g fb A B kp sd tw M).1 8 = nI B.1 := rfl
  intro n
  induction n with
  | zero =>
    intro i b w fuel fuel2 hi h1 h2 hb
    obtain ⟨f, rfl⟩ : ∃ f, fuel = f + 1 := ⟨fuel - 1, by omega⟩
    obtain ⟨f2, rfl⟩ : ∃ f2, fuel2 = f2 + 1 := ⟨fuel2 - 1, by omega⟩
    refine ⟨b, ?_, ?_⟩
    · rw [p_X4_favouriteOf_L12, hU.1, L_if (by omega) (by omega)]
    · rw [p_X5_liked_L4, q1, L_if (by omega) (by omega)]
  | succ n ih =>
    intro i b w fuel fuel2 hi h1 h2 hb
    obtain ⟨f, rfl⟩ : ∃ f, fuel = f + 1 := ⟨fuel - 1, by omega⟩
    obtain ⟨f2, rfl⟩ : ∃ f2, fuel2 = f2 + 1 := ⟨fuel2 - 1, by omega⟩
    rw [p_X4_favouriteOf_L12, p_X5_liked_L4]
    unfold p_X5_liked_J35
    rw [hU.1, q1, Lm1, L1, nI_add]
    by_cases hc : B.1 ≤ i
    · rw [L_if hc (by omega), L_if hc (by omega)]
      exact ⟨b, rfl, rfl⟩
    · obtain ⟨gr, e1, e2, e3⟩ := j_grade (uC := uC) (uT := uT) (kp := kp) (sd := sd) (tw := tw) hR hU hM hm (show i < B.1 by omega)
      have r1 := ih (i + 1) (nI i) (nI gr) f f2 (by omega) (by omega) (by omega) (Or.inr ⟨i, gr, rfl, rfl, by omega, e1, e3⟩)
      have r2 := ih (i + 1) b w f f2 (by omega) (by omega) (by omega) hb
      rw [L_ifn hc (by omega), L_ifn hc (by omega), e2, e3, bd_sm, bd_sm]
      rcases hb with ⟨hb, hw⟩ | ⟨b', gb, hb, hw, hb2, hg2, hg3⟩
      · rw [if_pos hb, hw, if_neg (of_eq_false (nI_m1t (show gr < 2147483648 by omega)))]
        exact r1
      · have hne : ¬ b = m1 := by rw [hb]; exact of_eq_false (nI_m1e (by omega))
        rw [if_neg hne]
        rw [hb, hw] at r2 ⊢
        rw [hg3, bd_sm]
        by_cases hx : nI gr ≤ nI gb
        · rw [if_pos hx, if_pos hx]; exact r2
        · rw [if_neg hx, if_neg hx]; exact r1
theorem j_fav {m : Nat} (hR : iR g fb A B) (hU : uR B uI) (hM : oM4 M) (hm : m < M.1) : ∃ v : Int32, p_X4_favouriteOf (iH g) uC uT uI (iM M) (nI m) = some (.inr v) ∧ p_X5_liked (iL g fb A B kp sd tw M) (nI m) = some v := by
  have hB := R_mnB hR
  have hn : p_X4_needMirror (iH g) uC uT uI (iM M) (nI m) = some (.inr ()) := by
    have h4 := hM.1
    unfold p_X4_needMirror iM
    simp (disch := omega) only [↓Lm1, L0, L1, L2, L3, L4, L5, L7, L8, L9, L10, L12, L20, L21, L33, L40, L60, L80, L99, L108, nI_add, nI_mul, gd_nI, nI_cl, nI_lt', nI_le', nI_eq', bd_sm, nF_app, bF_app, bI_n0, nI_m1e, nI_m1e', nI_m1l, nI_m1l', nI_m1t, nI_m1t', if_true, if_false]
    rw [if_neg (by omega), if_pos hm]
  obtain ⟨v, s2, s3⟩ := j_favL (uC := uC) (uT := uT) (kp := kp) (sd := sd) (tw := tw) hR hU hM hm 108 0 m1 m1 200 200 (by omega) (by omega) (by omega) (Or.inl ⟨rfl, rfl⟩)
  refine ⟨v, ?_, ?_⟩
  · unfold p_X4_favouriteOf; rw [bT_r hn, L0, Lm1]; exact s2
  · unfold p_X5_liked; rw [L0, Lm1]; exact s3
theorem j_kindL (hR : iR g fb A B) (hU : uR B uI) (hM : oM4 M) : ∀ (n i : Nat) (b w : Int32) (fuel fuel2 : Nat), M.1 ≤ i + n ∧ i + n ≤ 300 → n < fuel → n < fuel2 → ((b = m1 ∧ w = m1) ∨ ∃ b' gb : Nat, b = nI b' ∧ w = nI gb ∧ b' < M.1 ∧ gb ≤ 1080 ∧ p_X5_sumBy (iL g fb A B kp sd tw M) (nI b') = some (nI gb)) → ∃ v : Int32, p_X4_kindest_L6 fuel (iH g) uC uT uI (iM M) b w (nI i) = some v ∧ p_X5_kind_L4 fuel2 (iL g fb A B kp sd tw M) b (nI i) = some v := by
  have hB := R_mnB hR
  have hm4 := hM.1
  have q1 : (iL g fb A B kp sd tw M).2.2.2.2.2.2.2.2.2.2.2.2.1 = nI M.1 := rfl
  have q2 : (iM M).1 = nI M.1 := rfl
  intro n
  induction n with
  | zero =>
    intro i b w fuel fuel2 hi h1 h2 hb
    obtain ⟨f, rfl⟩ : ∃ f, fuel = f + 1 := ⟨fuel - 1, by omega⟩
    obtain ⟨f2, rfl⟩ : ∃ f2, fuel2 = f2 + 1 := ⟨fuel2 - 1, by omega⟩
    refine ⟨b, ?_, ?_⟩
    · rw [p_X4_kindest_L6, q2, L_if (by omega) (by omega)]
    · rw [p_X5_kind_L4, q1, L_if (by omega) (by omega)]
  | succ n ih =>
    intro i b w fuel fuel2 hi h1 h2 hb
    obtain ⟨f, rfl⟩ : ∃ f, fuel = f + 1 := ⟨fuel - 1, by omega⟩
    obtain ⟨f2, rfl⟩ : ∃ f2, fuel2 = f2 + 1 := ⟨fuel2 - 1, by omega⟩
    rw [p_X4_kindest_L6, p_X5_kind_L4]
    unfold p_X5_kind_J30
    rw [q2, q1, Lm1, L1, nI_add]
    by_cases hc : M.1 ≤ i
    · rw [L_if hc (by omega), L_if hc (by omega)]
      exact ⟨b, rfl, rfl⟩
    · obtain ⟨gr, e1, e2, e3⟩ := j_sum (uC := uC) (uT := uT) (kp := kp) (sd := sd) (tw := tw) hR hU hM (show i < M.1 by omega)
      have r1 := ih (i + 1) (nI i) (nI gr) f f2 (by omega) (by omega) (by omega) (Or.inr ⟨i, gr, rfl, rfl, by omega, e1, e3⟩)
      have r2 := ih (i + 1) b w f f2 (by omega) (by omega) (by omega) hb
      rw [L_ifn hc (by omega), L_ifn hc (by omega), e2, e3, bd_sm, bd_sm]
      rcases hb with ⟨hb, hw⟩ | ⟨b', gb, hb, hw, hb2, hg2, hg3⟩
      · rw [if_pos hb, hw, if_neg (of_eq_false (nI_m1t (show gr < 2147483648 by omega)))]
        exact r1
      · have hne : ¬ b = m1 := by rw [hb]; exact of_eq_false (nI_m1e (by omega))
        rw [if_neg hne]
        rw [hb, hw] at r2 ⊢
        rw [hg3, bd_sm]
        by_cases hx : nI gr ≤ nI gb
        · rw [if_pos hx, if_pos hx]; exact r2
        · rw [if_neg hx, if_neg hx]; exact r1
theorem j_kind (hR : iR g fb A B) (hU : uR B uI) (hM : oM4 M) : ∃ v : Int32, p_X4_kindest (iH g) uC uT uI (iM M) = some v ∧ p_X5_kind (iL g fb A B kp sd tw M) = some v := by
  have hm4 := hM.1
  obtain ⟨v, s2, s3⟩ := j_kindL (uC := uC) (uT := uT) (kp := kp) (sd := sd) (tw := tw) hR hU hM 4 0 m1 m1 200 200 (by omega) (by omega) (by omega) (Or.inl ⟨rfl, rfl⟩)
  refine ⟨v, ?_, ?_⟩
  · unfold p_X4_kindest; rw [L0, Lm1]; exact s2
  · unfold p_X5_kind; rw [L0, Lm1]; exact s3
theorem j_warmL (hR : iR g fb A B) : ∀ (n i : Nat) (b : Int32) (fuel fuel2 : Nat), g.2.2.1 ≤ i + n ∧ i + n ≤ 300 → n < fuel → n < fuel2 → (b = m1 ∨ ∃ b' : Nat, b = nI b' ∧ b' < g.2.2.1) → ∃ v : Int32, p_X0_findWarmest_L4 fuel (iC fb A) (iH g) b (nI i) = some v ∧ p_X5_hottest_L4 fuel2 (iL g fb A B kp sd tw M) b (nI i) = some v := by
  have h8 := hR.2.2.1
  have h20 := hR.2.2.2.2.2.2.2.2.2.2.2.2.2.2.2.2.2.2.2.1
  have q1 : (iL g fb A B kp sd tw M).2.2.2.2.2.2.2.2.2.2.1 = nI g.2.2.1 := rfl
  have q2 : (iH g).2.2.1 = nI g.2.2.1 := rfl
  have q3 : (iC fb A).2.2.2.2.2.2.2.2.2.2.2.2 = bF A.2.2.2.2.2.2.2.2.2.2.2 := rfl
  have q4 : (iC fb A).2.2.2.2.2.2.2.2.2.2.2.1 = nF A.2.2.2.2.2.2.2.2.2.2.1 := rfl
  have q5 : ∀ k : Nat, k < 8 → (iL g fb A B kp sd tw M).1 ((nI 33 + nI k).toNatClampNeg) = nI (A.2.2.2.2.2.2.2.2.2.2.1 k) := fun k hk => by
    rw [nI_add, nI_cl (by omega)]
    exact mkN_w hk
  intro n
  induction n with
  | zero =>
    intro i b fuel fuel2 hi h1 h2 hb
    obtain ⟨f, rfl⟩ : ∃ f, fuel = f + 1 := ⟨fuel - 1, by omega⟩
    obtain ⟨f2, rfl⟩ : ∃ f2, fuel2 = f2 + 1 := ⟨fuel2 - 1, by omega⟩
    refine ⟨b, ?_, ?_⟩
    · rw [p_X0_findWarmest_L4, q2, L_if (by omega) (by omega)]
    · rw [p_X5_hottest_L4, q1, L_if (by omega) (by omega)]
  | succ n ih =>
    intro i b fuel fuel2 hi h1 h2 hb
    obtain ⟨f, rfl⟩ : ∃ f, fuel = f + 1 := ⟨fuel - 1, by omega⟩
    obtain ⟨f2, rfl⟩ : ∃ f2, fuel2 = f2 + 1 := ⟨fuel2 - 1, by omega⟩
    rw [p_X0_findWarmest_L4, p_X5_hottest_L4]
    unfold p_X0_findWarmest_J44 p_X5_hottest_J46
    rw [q2, q1, q3, q4, Lm1, L1, L33, nI_add]
    by_cases hc : g.2.2.1 ≤ i
    · rw [L_if hc (by omega), L_if hc (by omega)]
      exact ⟨b, rfl, rfl⟩
    · have r1 := ih (i + 1) (nI i) f f2 (by omega) (by omega) (by omega) (Or.inr ⟨i, rfl, by omega⟩)
      have r2 := ih (i + 1) b f f2 (by omega) (by omega) (by omega) hb
      rw [L_ifn hc (by omega), L_ifn hc (by omega), gd_nI _ (by omega) (by omega), nI_cl (show i < 2147483648 by omega), bF_app, c_reads (g := A.2.2.2.2.2.2.2.2.2.2.2) (by rfl) (show i < 8 by omega), bd_sm]
      cases hd : A.2.2.2.2.2.2.2.2.2.2.2 i
      · rw [if_pos (bI_eq rfl), if_pos (bI_eq rfl)]; exact r2
      · rw [if_neg (bI_ne rfl), if_neg (bI_ne rfl)]
        rcases hb with hb | ⟨b', hb, hb2⟩
        · rw [if_pos hb, if_pos hb]; exact r1
        · have hne : ¬ b = m1 := by rw [hb]; exact of_eq_false (nI_m1e (by omega))
          rw [if_neg hne, if_neg hne]
          rw [hb] at r2 ⊢
          rw [q5 i (by omega), q5 b' (by omega), nI_add, nI_add, gd_nI _ (show 33 + i < 41 by omega) (by omega), gd_nI _ (show 33 + b' < 41 by omega) (by omega), gd_nI _ (show b' < 8 by omega) (by omega), nI_cl (show b' < 2147483648 by omega), nF_app, nF_app]
          by_cases hx : nI (A.2.2.2.2.2.2.2.2.2.2.1 i) ≤ nI (A.2.2.2.2.2.2.2.2.2.2.1 b')
          · rw [if_pos hx, if_pos hx]; exact r2
          · rw [if_neg hx, if_neg hx]; exact r1
theorem j_warm (hR : iR g fb A B) : ∃ v : Int32, p_X0_findWarmest (iC fb A) (iH g) = some v ∧ p_X5_hottest (iL g fb A B kp sd tw M) = some v := by
  have h8 := hR.2.2.1
  obtain ⟨v, s2, s3⟩ := j_warmL (kp := kp) (sd := sd) (tw := tw) (M := M) hR 8 0 m1 200 200 (by omega) (by omega) (by omega) (Or.inl rfl)
  refine ⟨v, ?_, ?_⟩
  · unfold p_X0_findWarmest; rw [L0, Lm1]; exact s2
  · unfold p_X5_hottest; rw [L0, Lm1]; exact s3
end
