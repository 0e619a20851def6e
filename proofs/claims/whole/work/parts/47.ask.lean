/-! THE PURE PART: what would be, as it is asked; the mean -/
def okQ (s c : Nat) : Bool := decide ((FP.ddiv (FP.i2d (nI s)) (FP.i2d (nI c))) &&& 0x7fffffffffffffff ≤ 0x7ff0000000000000) && decide (Op.cmpValue (FP.dcmp (FP.ddiv (FP.i2d (nI s)) (FP.i2d (nI c))) (FP.ddiv (FP.i2d (nI s)) (FP.i2d (nI c)))) CmpOp.l = 0)
theorem okQ_all : ∀ c : Nat, c < 8 → ∀ a : Nat, a < 28 → ∀ b : Nat, b < 30 → okQ (30 * a + b) (c + 1) = true := by decide +kernel
theorem okQ_of {s c : Nat} (hs : s < 800) (h1 : 1 ≤ c) (h8 : c ≤ 8) : okQ s c = true := by
  have h := okQ_all (c - 1) (by omega) (s / 30) (by omega) (s % 30) (by omega)
  rw [show 30 * (s / 30) + s % 30 = s by omega, show c - 1 + 1 = c by omega] at h
  exact h
theorem cmp0 : Op.cmpValue (FP.dcmp FP.dconst0 FP.dconst0) CmpOp.l = 0 := by decide +kernel
section
variable {g : tG} {fb : Nat → Bool} {A : tA} {B : tB} {uI : tX2} {kp : Nat → Int32} {sd tw : Int32} {M : tM} {uT : tX0}
/-- answers that agree, the trial used -/
def agL (g : tG) (fb : Nat → Bool) (A : tA) (B : tB) (M : tM) (X : Option (String ⊕ (Int32 × tX0))) (Y : Option (Int32 × tX5)) (E : String) (z1 : tX5) : Prop := (∃ (v : Int32) (uT' : tX0) (B' : tB) (kp' : Nat → Int32) (sd' : Int32), X = some (.inr (v, uT')) ∧ Y = some (v, iL g fb A B' kp' sd' 0 M) ∧ zT uT' ∧ eR B B') ∨ (X = some (.inl E) ∧ ∃ v : Int32, Y = some (v, z1))
theorem e_il0 : ((iL g fb A B kp sd tw M).1, (iL g fb A B kp sd tw M).2.1, (iL g fb A B kp sd tw M).2.2.1, (0 : Int32), (iL g fb A B kp sd tw M).2.2.2.2) = iL g fb A B kp sd 0 M := rfl
theorem q_hoursUntilStop (hR : iR g fb A B) (hh : A.1 < 900000) (hT : zT uT) (x : Int32) : agL g fb A B M (p_X4_hoursUntilStop (iH g) (iC fb A) uT uI (iM M) x) (p_X5_hoursUntilStop (iL g fb A B kp sd tw M) x) xIOB (iL g fb A B kp sd 1 M) := by
  have hg := hR.1.2
  rcases f_arg g hg x with ⟨k, hk, rfl, n2⟩ | ⟨n1, n2⟩
  · obtain ⟨v, uT', B', e1, e2, e3, e4⟩ := q_stop uI (iM M) hR hh hk hT
    obtain ⟨kp', sd', e5⟩ := e4 kp sd 0 M
    refine Or.inl ⟨v, uT', B', kp', sd', e1, ?_, e2, e3⟩
    unfold p_X5_hoursUntilStop
    rw [n2 _ (by rfl), bd_sm, if_neg (bI_ne rfl), e_il0, e5, bd_sm]
  · refine Or.inr ⟨?_, 0, ?_⟩
    · unfold p_X4_hoursUntilStop
      rw [bT_l (n1 _ _ _ _)]
    · unfold p_X5_hoursUntilStop
      rw [n2 _ (by rfl), bd_sm, if_pos (bI_eq rfl)]
      rfl
theorem h_arg (x : Int32) : (∃ k : Nat, 1 ≤ k ∧ k ≤ 40 ∧ x = nI k ∧ p_X5_isIn x 1 40 = some (bI true)) ∨ (p_X4_needForeseeable x = some (.inl xIAE) ∧ p_X5_isIn x 1 40 = some (bI false)) := by
  have e40 : p_X5_isIn x 1 40 = p_X5_isIn x (nI 1) (nI 40) := by rw [← L1, ← L40]
  rw [e40]
  rcases b_arg 1 40 (by omega) (by omega) x with ⟨k, k1, k2, k3, k4⟩ | ⟨n0, n1⟩
  · exact Or.inl ⟨k, k1, k2, k3, k4⟩
  · refine Or.inr ⟨?_, n1⟩
    unfold p_X4_needForeseeable
    rw [L1, L40]
    rcases n0 with n0 | ⟨n0, n3⟩
    · rw [if_pos n0]
    · rw [if_neg n0, if_neg n3]
theorem q_printedIn (hR : iR g fb A B) (hh : A.1 < 900000) (hT : zT uT) (x : Int32) : agL g fb A B M (p_X4_printedIn (iH g) (iC fb A) uT uI (iM M) x) (p_X5_printedIn (iL g fb A B kp sd tw M) x) xIAE (iL g fb A B kp sd 1 M) := by
  rcases h_arg x with ⟨k, k1, k2, rfl, n2⟩ | ⟨n1, n2⟩
  · obtain ⟨v, uT', B', e1, e2, e3, e4⟩ := q_printed uI (iM M) hR hh k1 k2 hT
    obtain ⟨kp', sd', e5⟩ := e4 kp sd 0 M
    refine Or.inl ⟨nI v, uT', B', kp', sd', e1, ?_, e2, e3⟩
    unfold p_X5_printedIn
    rw [n2, bd_sm, if_neg (bI_ne rfl), e_il0, L8, e5, bd_sm]
    show some (nI (B.1 + v) - nI B'.1, _) = _
    rw [e3.1, nI_sub (by omega), Nat.add_sub_cancel_left]
  · refine Or.inr ⟨?_, 0, ?_⟩
    · unfold p_X4_printedIn
      rw [bT_l n1]
    · unfold p_X5_printedIn
      rw [n2, bd_sm, if_pos (bI_eq rfl)]
      rfl
theorem q_subscribersIn (hR : iR g fb A B) (hh : A.1 < 900000) (hT : zT uT) (x : Int32) : agL g fb A B M (p_X4_subscribersIn (iH g) (iC fb A) uT uI (iM M) x) (p_X5_subscribersIn (iL g fb A B kp sd tw M) x) xIAE (iL g fb A B kp sd 1 M) := by
  rcases h_arg x with ⟨k, k1, k2, rfl, n2⟩ | ⟨n1, n2⟩
  · obtain ⟨v, uT', B', e1, e2, e3, e4⟩ := q_subs uI (iM M) hR hh k1 k2 hT
    obtain ⟨kp', sd', e5⟩ := e4 kp sd 0 M
    refine Or.inl ⟨v, uT', B', kp', sd', e1, ?_, e2, e3⟩
    unfold p_X5_subscribersIn
    rw [n2, bd_sm, if_neg (bI_ne rfl), e_il0, L7, e5, bd_sm]
  · refine Or.inr ⟨?_, 0, ?_⟩
    · unfold p_X4_subscribersIn
      rw [bT_l n1]
    · unfold p_X5_subscribersIn
      rw [n2, bd_sm, if_pos (bI_eq rfl)]
      rfl
theorem q_bestToCall (hR : iR g fb A B) (hh : A.1 < 900000) (hT : zT uT) (x : Int32) : agL g fb A B M (p_X4_bestToCall (iH g) (iC fb A) uT uI (iM M) x) (p_X5_bestToCall (iL g fb A B kp sd tw M) x) xIAE (iL g fb A B kp sd 1 M) := by
  rcases h_arg x with ⟨k, k1, k2, rfl, n2⟩ | ⟨n1, n2⟩
  · obtain ⟨v, uT', B', e1, e2, e3, e4⟩ := q_call uI (iM M) hR hh k1 k2 hT
    obtain ⟨kp', sd', e5⟩ := e4 kp sd 0 M
    refine Or.inl ⟨v, uT', B', kp', sd', e1, ?_, e2, e3⟩
    unfold p_X5_bestToCall
    rw [n2, bd_sm, if_neg (bI_ne rfl), e_il0, e5, bd_sm]
  · refine Or.inr ⟨?_, 0, ?_⟩
    · unfold p_X4_bestToCall
      rw [bT_l n1]
    · unfold p_X5_bestToCall
      rw [n2, bd_sm, if_pos (bI_eq rfl)]
      rfl
theorem q_bestToAllow (hR : iR g fb A B) (hh : A.1 < 900000) (hT : zT uT) (x : Int32) : agL g fb A B M (p_X4_bestToAllow (iH g) (iC fb A) uT uI (iM M) x) (p_X5_bestToAllow (iL g fb A B kp sd tw M) x) xIAE (iL g fb A B kp sd 1 M) := by
  rcases h_arg x with ⟨k, k1, k2, rfl, n2⟩ | ⟨n1, n2⟩
  · obtain ⟨v, uT', B', e1, e2, e3, e4⟩ := q_allow uI (iM M) hR hh k1 k2 hT
    obtain ⟨kp', sd', e5⟩ := e4 kp sd 0 M
    refine Or.inl ⟨v, uT', B', kp', sd', e1, ?_, e2, e3⟩
    unfold p_X5_bestToAllow
    rw [n2, bd_sm, if_neg (bI_ne rfl), e_il0, e5, bd_sm]
  · refine Or.inr ⟨?_, 0, ?_⟩
    · unfold p_X4_bestToAllow
      rw [bT_l n1]
    · unfold p_X5_bestToAllow
      rw [n2, bd_sm, if_pos (bI_eq rfl)]
      rfl
theorem q_hoursUntilStuck (hR : iR g fb A B) (hh : A.1 < 900000) (hT : zT uT) : ∃ (v : Int32) (uT' : tX0) (B' : tB) (kp' : Nat → Int32) (sd' : Int32), p_X4_hoursUntilStuck (iH g) (iC fb A) uT uI (iM M) = some (v, uT') ∧ p_X5_hoursUntilStuck (iL g fb A B kp sd tw M) = some (v, iL g fb A B' kp' sd' 0 M) ∧ zT uT' ∧ eR B B' := by
  obtain ⟨v, uT', B', e1, e2, e3, e4⟩ := q_stuck uI (iM M) hR hh hT
  obtain ⟨kp', sd', e5⟩ := e4 kp sd tw M
  refine ⟨v, uT', B', kp', sd', e1, ?_, e2, e3⟩
  unfold p_X5_hoursUntilStuck
  rw [e5, bd_sm]
  rfl
theorem q_mean (hR : iR g fb A B) : ∃ v : UInt64, p_X4_meanWarmth (iH g) (iC fb A) uT uI (iM M) = some v ∧ p_X5_meanWarmth (iL g fb A B kp sd tw M) = some (v, (iL g fb A B kp sd 0 M)) ∧ Op.cmpValue (FP.dcmp v v) CmpOp.l = 0 := by
  have h3 := hR.2.2.1
  have h20 := hR.2.2.2.2.2.2.2.2.2.2.2.2.2.2.2.2.2.2.2.1
  have hc := cnt_le 8 A.2.2.2.2.2.2.2.2.2.2.2
  have hs : sm (fun r => if A.2.2.2.2.2.2.2.2.2.2.2 r = true then A.2.2.2.2.2.2.2.2.2.2.1 r else 0) g.2.2.1 ≤ sm (fun _ => 99) g.2.2.1 := sm_le _ (fun j _ => by
    show (if A.2.2.2.2.2.2.2.2.2.2.2 j = true then A.2.2.2.2.2.2.2.2.2.2.1 j else 0) ≤ 99
    have := h20 j
    split <;> omega)
  rw [sm_c] at hs
  have q1 := l_warms (kp := kp) (sd := sd) (tw := 0) (M := M) hR
  generalize hS : sm (fun r => if A.2.2.2.2.2.2.2.2.2.2.2 r = true then A.2.2.2.2.2.2.2.2.2.2.1 r else 0) g.2.2.1 = S at hs q1
  by_cases h0 : cnt A.2.2.2.2.2.2.2.2.2.2.2 8 = 0
  · refine ⟨FP.dconst0, ?_, ?_, cmp0⟩
    · unfold p_X4_meanWarmth
      rw [c_subs hR, bd_sm, h0, if_pos L0.symm]
    · unfold p_X5_meanWarmth
      rw [l_subs, bd_sm, h0, if_pos L0.symm]
      rfl
  · have hne : ¬ nI (cnt A.2.2.2.2.2.2.2.2.2.2.2 8) = 0 := by rw [L0]; exact mt (nI_eq (by omega) (by omega)).mp h0
    have hok := okQ_of (s := S) (c := cnt A.2.2.2.2.2.2.2.2.2.2.2 8) (by omega) (by omega) hc
    unfold okQ at hok
    rw [Bool.and_eq_true, decide_eq_true_iff, decide_eq_true_iff] at hok
    refine ⟨_, ?_, ?_, hok.2⟩
    · unfold p_X4_meanWarmth
      rw [c_subs hR, bd_sm, if_neg hne, c_warms hR, bd_sm, hS, gq_in hok.1]
    · unfold p_X5_meanWarmth
      rw [l_subs, bd_sm, if_neg hne, e_il0, q1, bd_sm, gq_in hok.1]
end
