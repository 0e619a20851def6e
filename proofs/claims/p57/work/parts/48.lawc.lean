/-! THE PURE PART: the law, what is asked of an hour -/
section
variable {hr a st wr sp la : Nat} {wy : Int32} {cl fb rd : Nat → Bool} {nx ct wm : Nat → Nat} {fl lim nr : Nat} {len tp th ta : Nat → Nat} {sd : Int32} {nm mn : Nat} {lk dl tl Ts Hs : Nat → Nat} {hrq aq stq wrq spq laq mnq : Nat} {wyq : Int32} {clq rdq : Nat → Bool} {nxq ctq wmq tlq Tsq Hsq : Nat → Nat} {uT : tX0} {uG : tX5} {xv : Nat → Int32} {Lc : Nat} {rec22 : tX1 → tX0 → tX0 → tX2 → tX3 → tX5 → Int32 → Option Unit} {l3 : Int32}
theorem w_J1286 {rec1262 : tX1 → tX0 → tX0 → tX2 → tX3 → tX5 → (Nat → Int32) → Nat → (Nat → Int32) → Nat → Int32 → Int32 → Int32 → Int32 → Option Unit} {f2 f3 : Nat → Int32} {P i : Nat} {l13 : Int32} (hn : nr ≤ 8) (hP : P ≤ 1) (hi : i < nr) (hw : ∀ r, wm r ≤ 99) (hwq : ∀ r, wmq r ≤ 99) (hB : rd i = true → rdq i = false → wm i = 0 ∧ P = 0) (hC : rd i = true → rdq i = true → (P = 0 ∧ wmq i + 1 = wm i) ∨ (P = 1 ∧ wm i ≤ wmq i)) (hf2 : f2 i = nI (wm1 wm rd i)) (hf3 : f3 i = bI (rd i)) : p_L_law_J1286 xv Lc rec22 rec1262 (nI fl, nI lim, nI nr, nF len, nF tp, nF th, nF ta) (nI hrq, nI aq, wyq, nI stq, nI wrq, nI spq, nI laq, bF clq, nF nxq, nF ctq, bF fb, nF wmq, bF rdq) uT (nI mnq, (fun i => nI (tlq i / 9)), (fun i => nI (tlq i % 9)), nF Tsq, nF Hsq) (nI nm, nF lk, nF dl) uG f2 nr f3 nr l3 l13 (nI P) (nI i) = rec1262 (nI fl, nI lim, nI nr, nF len, nF tp, nF th, nF ta) (nI hrq, nI aq, wyq, nI stq, nI wrq, nI spq, nI laq, bF clq, nF nxq, nF ctq, bF fb, nF wmq, bF rdq) uT (nI mnq, (fun i => nI (tlq i / 9)), (fun i => nI (tlq i % 9)), nF Tsq, nF Hsq) (nI nm, nF lk, nF dl) uG f2 nr f3 nr l3 l13 (nI P) (nI (i + 1)) := by
  have e0 : ∀ X : Option Unit, gd (nI i) nr X = X := fun X => gd_nI X hi (by omega)
  have w1 := hw i
  have w2 := hwq i
  unfold p_L_law_J1286 p_L_law_J1316
  rw [e0, nI_cl (by omega), hf3, e0, X_isSub hn hi, bd_sm, bd_sm, hf2, L1, nI_add]
  cases hc : rd i
  · rw [if_pos (show bI false = 0 from rfl), if_pos (show bI false = 0 from rfl)]
  · have e : wm1 wm rd i = wm i := by unfold wm1; rw [hc]; rfl
    rw [if_neg (show ¬ bI true = 0 by decide +kernel), if_neg (show ¬ bI true = 0 by decide +kernel), e]
    cases hq : rdq i
    · obtain ⟨z1, z2⟩ := hB hc hq
      rw [if_pos (show bI false = 0 from rfl), if_pos (show bI false = 0 from rfl), e0, z1, z2, if_neg (show ¬ (0 : Int32) < nI 0 by decide +kernel), if_neg (show ¬ (0 : Int32) < nI 0 by decide +kernel)]
    · have eq : wm1 wmq rdq i = wmq i := by unfold wm1; rw [hq]; rfl
      rw [if_neg (show ¬ bI true = 0 by decide +kernel), if_neg (show ¬ bI true = 0 by decide +kernel), X_warmth hn hi, bd_sm, e0, bd_sm, e0, eq]
      rcases hC hc hq with ⟨z1, z2⟩ | ⟨z1, z2⟩
      · rw [z1, if_pos (show nI 0 ≤ 0 by decide +kernel), ← z2, ← nI_add, show nI (wmq i) + nI 1 - nI 1 = nI (wmq i) by rw [nI_add, nI_sub (by omega), Nat.add_sub_cancel], if_pos rfl]
      · rw [z1, if_neg (show ¬ nI 1 ≤ 0 by decide +kernel), if_pos (nI_leI (by omega) (by omega) |>.mpr z2)]
theorem w_L1262 {f2 f3 : Nat → Int32} {P : Nat} (hn : nr ≤ 8) (hP : P ≤ 1) (hw : ∀ r, wm r ≤ 99) (hwq : ∀ r, wmq r ≤ 99) (hA : ∀ i, i < nr → rdq i = true → rd i = true) (hB : ∀ i, i < nr → rd i = true → rdq i = false → wm i = 0 ∧ P = 0) (hC : ∀ i, i < nr → rd i = true → rdq i = true → (P = 0 ∧ wmq i + 1 = wm i) ∨ (P = 1 ∧ wm i ≤ wmq i)) (hf2 : ∀ i, i < nr → f2 i = nI (wm1 wm rd i)) (hf3 : ∀ i, i < nr → f3 i = bI (rd i)) (hE : cnt clq 12 = 0 → wyq = nI 0) : ∀ n i fuel, i + n = nr → n < fuel → p_L_law_L1262 xv Lc rec22 fuel (nI fl, nI lim, nI nr, nF len, nF tp, nF th, nF ta) (nI hrq, nI aq, wyq, nI stq, nI wrq, nI spq, nI laq, bF clq, nF nxq, nF ctq, bF fb, nF wmq, bF rdq) uT (nI mnq, (fun i => nI (tlq i / 9)), (fun i => nI (tlq i % 9)), nF Tsq, nF Hsq) (nI nm, nF lk, nF dl) uG f2 nr f3 nr l3 (nI nr) (nI P) (nI i) = rec22 (nI fl, nI lim, nI nr, nF len, nF tp, nF th, nF ta) (nI hrq, nI aq, wyq, nI stq, nI wrq, nI spq, nI laq, bF clq, nF nxq, nF ctq, bF fb, nF wmq, bF rdq) uT (nI mnq, (fun i => nI (tlq i / 9)), (fun i => nI (tlq i % 9)), nF Tsq, nF Hsq) (nI nm, nF lk, nF dl) uG (l3 + 1) := by
  have hcn := cnt_le 12 clq
  intro n
  induction n with
  | zero =>
    intro i fuel hi hf
    obtain ⟨f, rfl⟩ : ∃ f, fuel = f + 1 := ⟨fuel - 1, by omega⟩
    rw [p_L_law_L1262, if_pos (nI_leI (by omega) (by omega) |>.mpr (by omega)), X_calls, bd_sm]
    by_cases h0 : cnt clq 12 = 0
    · unfold p_X4_goes
      rw [h0, if_pos (show nI 0 = 0 by decide +kernel), bd_sm, hE h0, if_pos (show nI 0 = 0 by decide +kernel)]
    · rw [if_neg (by rw [nI_eq0 (by omega)]; exact h0)]
  | succ n ih =>
    intro i fuel hi hf
    obtain ⟨f, rfl⟩ : ∃ f, fuel = f + 1 := ⟨fuel - 1, by omega⟩
    have hi2 : i < nr := by omega
    have e0 : ∀ X : Option Unit, gd (nI i) nr X = X := fun X => gd_nI X hi2 (by omega)
    have st : p_L_law_J1286 xv Lc rec22 (p_L_law_L1262 xv Lc rec22 f) (nI fl, nI lim, nI nr, nF len, nF tp, nF th, nF ta) (nI hrq, nI aq, wyq, nI stq, nI wrq, nI spq, nI laq, bF clq, nF nxq, nF ctq, bF fb, nF wmq, bF rdq) uT (nI mnq, (fun i => nI (tlq i / 9)), (fun i => nI (tlq i % 9)), nF Tsq, nF Hsq) (nI nm, nF lk, nF dl) uG f2 nr f3 nr l3 (nI nr) (nI P) (nI i) = rec22 (nI fl, nI lim, nI nr, nF len, nF tp, nF th, nF ta) (nI hrq, nI aq, wyq, nI stq, nI wrq, nI spq, nI laq, bF clq, nF nxq, nF ctq, bF fb, nF wmq, bF rdq) uT (nI mnq, (fun i => nI (tlq i / 9)), (fun i => nI (tlq i % 9)), nF Tsq, nF Hsq) (nI nm, nF lk, nF dl) uG (l3 + 1) := by
      rw [w_J1286 (wm := wm) (rd := rd) hn hP hi2 hw hwq (hB i hi2) (hC i hi2) (hf2 i hi2) (hf3 i hi2)]
      exact ih (i + 1) f (by omega) (by omega)
    rw [p_L_law_L1262, if_neg (mt (nI_leI (by omega) (by omega)).mp (by omega)), X_isSub hn hi2, bd_sm, e0, nI_cl (by omega), hf3 i hi2]
    cases hq : rdq i
    · rw [if_pos (show bI false = 0 from rfl)]; exact st
    · rw [if_neg (show ¬ bI true = 0 by decide +kernel), hA i hi2 hq, if_neg (show ¬ bI true = 0 by decide +kernel)]; exact st
/-- what an hour may change -/
theorem w_J1186 {f2 f3 : Nat → Int32} {P : Nat} {l13 : Int32} (hP : P ≤ 1) (hl : ∀ f, len f ≤ 9) (hfl : fl ≤ 12) (htp : ∀ i, tp i < 8) (hmnq : mnq ≤ 108) (hpr : P = 1 → mn < mnq ∧ tlq mn / 9 < fl ∧ tlq mn % 9 < len (tlq mn / 9) ∧ Tsq mn = th (tlq mn) + sp ∧ fb (tp (tlq mn)) = false ∧ Hsq mn + 1 = hrq) : p_L_law_J1186 xv Lc rec22 (nI fl, nI lim, nI nr, nF len, nF tp, nF th, nF ta) (nI hrq, nI aq, wyq, nI stq, nI wrq, nI spq, nI laq, bF clq, nF nxq, nF ctq, bF fb, nF wmq, bF rdq) uT (nI mnq, (fun i => nI (tlq i / 9)), (fun i => nI (tlq i % 9)), nF Tsq, nF Hsq) (nI nm, nF lk, nF dl) uG f2 nr f3 nr l3 (nI mn) l13 (nI sp) (nI P) = p_L_law_L1262 xv Lc rec22 200 (nI fl, nI lim, nI nr, nF len, nF tp, nF th, nF ta) (nI hrq, nI aq, wyq, nI stq, nI wrq, nI spq, nI laq, bF clq, nF nxq, nF ctq, bF fb, nF wmq, bF rdq) uT (nI mnq, (fun i => nI (tlq i / 9)), (fun i => nI (tlq i % 9)), nF Tsq, nF Hsq) (nI nm, nF lk, nF dl) uG f2 nr f3 nr l3 l13 (nI P) (0 : Int32) := by
  unfold p_L_law_J1186
  by_cases h0 : P = 0
  · rw [h0, if_pos (show nI 0 ≤ 0 by decide +kernel)]
  · have h1 : P = 1 := by omega
    obtain ⟨q1, q2, q3, q4, q5, q6⟩ := hpr h1
    have q7 := hl (tlq mn / 9)
    rw [h1, if_neg (show ¬ nI 1 ≤ 0 by decide +kernel), X_thrillIn hmnq q1, bd_sm, X_floorIn hmnq q1, bd_sm, X_paraIn hmnq q1, bd_sm, X_thrillOf hl q2 hfl q3, bd_sm, show 9 * (tlq mn / 9) + tlq mn % 9 = tlq mn by omega, nI_add, if_pos (by rw [q4]), bd_sm, bd_sm, X_topicOf hl q2 hfl q3, bd_sm, show 9 * (tlq mn / 9) + tlq mn % 9 = tlq mn by omega, X_forb (htp _), bd_sm, q5, if_pos (show bI false = 0 from rfl), X_hourIn hmnq q1, bd_sm]
    unfold p_X4_hours
    rw [bd_sm, L1, ← q6, nI_sub (by omega), Nat.add_sub_cancel, if_pos rfl]
theorem w_J1102 {f2 f3 : Nat → Int32} {P D : Nat} {l13 : Int32} (hP : P ≤ 1) (hD : P ≤ D ∧ D ≤ 12) (hct : sm ct 12 ≤ sm ctq 12 ∧ sm ctq 12 ≤ 108 ∧ P + (sm ctq 12 - sm ct 12) ≤ D) (hmn : mnq = mn + P ∧ mnq ≤ 108) (hsp : sp < 100000000 ∧ spq < 100000000) (hs0 : P = 0 → st = 0 → spq = sp) (hs1 : P = 0 → 0 < st → sp < spq) (hs2 : P = 1 → spq = 0) (hst : st ≤ 25) : p_L_law_J1102 xv Lc rec22 (nI fl, nI lim, nI nr, nF len, nF tp, nF th, nF ta) (nI hrq, nI aq, wyq, nI stq, nI wrq, nI spq, nI laq, bF clq, nF nxq, nF ctq, bF fb, nF wmq, bF rdq) uT (nI mnq, (fun i => nI (tlq i / 9)), (fun i => nI (tlq i % 9)), nF Tsq, nF Hsq) (nI nm, nF lk, nF dl) uG f2 nr f3 nr l3 (nI mn) l13 (nI st) (nI sp) (nI (sm ct 12)) (nI P) (nI D) = p_L_law_J1186 xv Lc rec22 (nI fl, nI lim, nI nr, nF len, nF tp, nF th, nF ta) (nI hrq, nI aq, wyq, nI stq, nI wrq, nI spq, nI laq, bF clq, nF nxq, nF ctq, bF fb, nF wmq, bF rdq) uT (nI mnq, (fun i => nI (tlq i / 9)), (fun i => nI (tlq i % 9)), nF Tsq, nF Hsq) (nI nm, nF lk, nF dl) uG f2 nr f3 nr l3 (nI mn) l13 (nI sp) (nI P) := by
  unfold p_L_law_J1102
  rw [if_neg (of_eq_false (nI_neg00 (by omega))), if_neg (mt (nI_ltI (by omega) (by omega)).mp (by omega)), X_cuts, bd_sm, nI_add, nI_sub (by omega), if_neg (mt (nI_ltI (by omega) (by omega)).mp (by omega))]
  unfold p_X4_instalments p_X4_suspense
  rw [bd_sm, nI_add, if_pos (by rw [hmn.1])]
  by_cases h0 : P = 0
  · rw [if_pos (by rw [h0]; decide +kernel)]
    by_cases h1 : st = 0
    · rw [if_pos (by rw [h1]; decide +kernel), bd_sm, if_pos (by rw [hs0 h0 h1])]
    · rw [if_neg (by rw [nI_le0 (by omega)]; exact h1), bd_sm, if_pos (nI_ltI (by omega) (by omega) |>.mpr (hs1 h0 (by omega)))]
  · rw [if_neg (by rw [nI_le0 (by omega)]; exact h0), bd_sm, if_pos (show nI spq = 0 by rw [hs2 (by omega)]; decide +kernel)]
theorem w_J1086 {f2 f3 : Nat → Int32} {P D : Nat} {l13 l20 l21 l22 : Int32} (hD : D ≤ 1) (hD0 : 0 < st → D = 0) (hst : st ≤ 25) : p_L_law_J1086 xv Lc rec22 (nI fl, nI lim, nI nr, nF len, nF tp, nF th, nF ta) (nI hrq, nI aq, wyq, nI stq, nI wrq, nI spq, nI laq, bF clq, nF nxq, nF ctq, bF fb, nF wmq, bF rdq) uT (nI mnq, (fun i => nI (tlq i / 9)), (fun i => nI (tlq i % 9)), nF Tsq, nF Hsq) (nI nm, nF lk, nF dl) uG f2 nr f3 nr l3 (nI mn) l13 (nI st) l20 l21 l22 (nI D) = p_L_law_J1102 xv Lc rec22 (nI fl, nI lim, nI nr, nF len, nF tp, nF th, nF ta) (nI hrq, nI aq, wyq, nI stq, nI wrq, nI spq, nI laq, bF clq, nF nxq, nF ctq, bF fb, nF wmq, bF rdq) uT (nI mnq, (fun i => nI (tlq i / 9)), (fun i => nI (tlq i % 9)), nF Tsq, nF Hsq) (nI nm, nF lk, nF dl) uG f2 nr f3 nr l3 (nI mn) l13 (nI st) l20 l21 l22 (nI D) := by
  unfold p_L_law_J1086
  rw [L1, if_neg (mt (nI_ltI (by omega) (by omega)).mp (by omega))]
  by_cases h1 : st = 0
  · rw [if_pos (by rw [h1]; decide +kernel)]
  · rw [if_neg (by rw [nI_le0 (by omega)]; exact h1), if_neg (by rw [hD0 (by omega)]; decide +kernel)]
/-- the move -/
def mvD (a aq : Nat) : Int32 := nI aq - nI a
theorem w_J1063 {f1 f2 f3 : Nat → Int32} {d l13 l20 l21 l22 l24 : Int32} {c : Nat} (hc : c ≤ 12) (hst : st ≤ 25) (ha : a < fl) (hfl : fl ≤ 12) (hf1 : ∀ i, i < fl → f1 i = bI (cl i)) (hz : d = 0 → st = 0 → ¬ c = 0 → cl a = true) : p_L_law_J1063 xv Lc rec22 (nI fl, nI lim, nI nr, nF len, nF tp, nF th, nF ta) (nI hrq, nI aq, wyq, nI stq, nI wrq, nI spq, nI laq, bF clq, nF nxq, nF ctq, bF fb, nF wmq, bF rdq) uT (nI mnq, (fun i => nI (tlq i / 9)), (fun i => nI (tlq i % 9)), nF Tsq, nF Hsq) (nI nm, nF lk, nF dl) uG f1 fl f2 nr f3 nr l3 (nI mn) (nI c) l13 (nI a) (nI st) l20 l21 l22 d l24 = p_L_law_J1086 xv Lc rec22 (nI fl, nI lim, nI nr, nF len, nF tp, nF th, nF ta) (nI hrq, nI aq, wyq, nI stq, nI wrq, nI spq, nI laq, bF clq, nF nxq, nF ctq, bF fb, nF wmq, bF rdq) uT (nI mnq, (fun i => nI (tlq i / 9)), (fun i => nI (tlq i % 9)), nF Tsq, nF Hsq) (nI nm, nF lk, nF dl) uG f2 nr f3 nr l3 (nI mn) l13 (nI st) l20 l21 l22 l24 := by
  unfold p_L_law_J1063
  by_cases h1 : st = 0
  · rw [if_pos (by rw [h1]; decide +kernel)]
    by_cases h2 : c = 0
    · rw [if_pos (by rw [h2]; decide +kernel)]
    · rw [if_neg (by rw [nI_le0 (by omega)]; exact h2)]
      by_cases h3 : d = 0
      · rw [if_pos h3, gd_nI _ ha (by omega), nI_cl (by omega), hf1 a ha, hz h3 h1 h2, if_neg (show ¬ bI true = 0 by decide +kernel)]
      · rw [if_neg h3]
  · rw [if_neg (by rw [nI_eq0 (by omega)]; exact h1)]
/-- towards a call -/
def twG (cl : Nat → Bool) (a : Nat) (d : Int32) : Nat → Bool := fun k => cl k && (if d ≤ 0 then decide (k < a) else decide (a < k))
theorem w_L973 {f1 f2 f3 : Nat → Int32} {d l13 l20 l21 l22 l24 : Int32} {c : Nat} (hc : c ≤ 12) (hst : st ≤ 25) (ha : a < fl) (hfl : fl ≤ 12) (hf1 : ∀ i, i < fl → f1 i = bI (cl i)) (hz : d = 0 → st = 0 → ¬ c = 0 → cl a = true) (hd : d = 0 ∨ ((d = 1 ∨ d = -1) ∧ st = 0 ∧ cl a = false ∧ ∃ k, k < fl ∧ twG cl a d k = true)) : ∀ n i fuel b, i + n = fl → n < fuel → (∀ k, k < i → twG cl a d k = true → b = true) → p_L_law_L973 xv Lc rec22 fuel (nI fl, nI lim, nI nr, nF len, nF tp, nF th, nF ta) (nI hrq, nI aq, wyq, nI stq, nI wrq, nI spq, nI laq, bF clq, nF nxq, nF ctq, bF fb, nF wmq, bF rdq) uT (nI mnq, (fun i => nI (tlq i / 9)), (fun i => nI (tlq i % 9)), nF Tsq, nF Hsq) (nI nm, nF lk, nF dl) uG f1 fl f2 nr f3 nr l3 (nI fl) (nI mn) (nI c) l13 (nI a) (nI st) l20 l21 l22 d l24 (bI b) (nI i) = p_L_law_J1086 xv Lc rec22 (nI fl, nI lim, nI nr, nF len, nF tp, nF th, nF ta) (nI hrq, nI aq, wyq, nI stq, nI wrq, nI spq, nI laq, bF clq, nF nxq, nF ctq, bF fb, nF wmq, bF rdq) uT (nI mnq, (fun i => nI (tlq i / 9)), (fun i => nI (tlq i % 9)), nF Tsq, nF Hsq) (nI nm, nF lk, nF dl) uG f2 nr f3 nr l3 (nI mn) l13 (nI st) l20 l21 l22 l24 := by
  intro n
  induction n with
  | zero =>
    intro i fuel b hi hf hb
    obtain ⟨f, rfl⟩ : ∃ f, fuel = f + 1 := ⟨fuel - 1, by omega⟩
    have k0 : p_L_law_J1063 xv Lc rec22 (nI fl, nI lim, nI nr, nF len, nF tp, nF th, nF ta) (nI hrq, nI aq, wyq, nI stq, nI wrq, nI spq, nI laq, bF clq, nF nxq, nF ctq, bF fb, nF wmq, bF rdq) uT (nI mnq, (fun i => nI (tlq i / 9)), (fun i => nI (tlq i % 9)), nF Tsq, nF Hsq) (nI nm, nF lk, nF dl) uG f1 fl f2 nr f3 nr l3 (nI mn) (nI c) l13 (nI a) (nI st) l20 l21 l22 d l24 = p_L_law_J1086 xv Lc rec22 (nI fl, nI lim, nI nr, nF len, nF tp, nF th, nF ta) (nI hrq, nI aq, wyq, nI stq, nI wrq, nI spq, nI laq, bF clq, nF nxq, nF ctq, bF fb, nF wmq, bF rdq) uT (nI mnq, (fun i => nI (tlq i / 9)), (fun i => nI (tlq i % 9)), nF Tsq, nF Hsq) (nI nm, nF lk, nF dl) uG f2 nr f3 nr l3 (nI mn) l13 (nI st) l20 l21 l22 l24 := w_J1063 hc hst ha hfl hf1 hz
    have k1 : ¬ d < -1 ∧ ¬ (1 : Int32) < d := by
      rcases hd with hd | ⟨hd | hd, -⟩ <;> rw [hd] <;> decide +kernel
    rw [p_L_law_L973, if_pos (nI_leI (by omega) (by omega) |>.mpr (by omega)), if_neg k1.1, if_neg k1.2]
    by_cases h0 : d = 0
    · rw [if_pos h0]; exact k0
    · rw [if_neg h0]
      rcases hd with hd | ⟨-, h1, h2, k, h3, h4⟩
      · exact absurd hd h0
      · have hbt : b = true := hb k (by omega) h4
        rw [if_neg (by rw [h1]; decide +kernel), hbt, if_neg (show ¬ bI true = 0 by decide +kernel), gd_nI _ ha (by omega), nI_cl (by omega), hf1 a ha, h2, if_pos (show bI false = 0 from rfl)]
        exact k0
  | succ n ih =>
    intro i fuel b hi hf hb
    obtain ⟨f, rfl⟩ : ∃ f, fuel = f + 1 := ⟨fuel - 1, by omega⟩
    have hi2 : i < fl := by omega
    have ihT : p_L_law_L973 xv Lc rec22 f (nI fl, nI lim, nI nr, nF len, nF tp, nF th, nF ta) (nI hrq, nI aq, wyq, nI stq, nI wrq, nI spq, nI laq, bF clq, nF nxq, nF ctq, bF fb, nF wmq, bF rdq) uT (nI mnq, (fun i => nI (tlq i / 9)), (fun i => nI (tlq i % 9)), nF Tsq, nF Hsq) (nI nm, nF lk, nF dl) uG f1 fl f2 nr f3 nr l3 (nI fl) (nI mn) (nI c) l13 (nI a) (nI st) l20 l21 l22 d l24 (1 : Int32) (nI i + 1) = p_L_law_J1086 xv Lc rec22 (nI fl, nI lim, nI nr, nF len, nF tp, nF th, nF ta) (nI hrq, nI aq, wyq, nI stq, nI wrq, nI spq, nI laq, bF clq, nF nxq, nF ctq, bF fb, nF wmq, bF rdq) uT (nI mnq, (fun i => nI (tlq i / 9)), (fun i => nI (tlq i % 9)), nF Tsq, nF Hsq) (nI nm, nF lk, nF dl) uG f2 nr f3 nr l3 (nI mn) l13 (nI st) l20 l21 l22 l24 := by
      rw [L1, nI_add, ← L1]
      exact ih (i + 1) f true (by omega) (by omega) (fun _ _ _ => rfl)
    have ihF : (twG cl a d i = true → b = true) → b = false → p_L_law_L973 xv Lc rec22 f (nI fl, nI lim, nI nr, nF len, nF tp, nF th, nF ta) (nI hrq, nI aq, wyq, nI stq, nI wrq, nI spq, nI laq, bF clq, nF nxq, nF ctq, bF fb, nF wmq, bF rdq) uT (nI mnq, (fun i => nI (tlq i / 9)), (fun i => nI (tlq i % 9)), nF Tsq, nF Hsq) (nI nm, nF lk, nF dl) uG f1 fl f2 nr f3 nr l3 (nI fl) (nI mn) (nI c) l13 (nI a) (nI st) l20 l21 l22 d l24 (0 : Int32) (nI i + 1) = p_L_law_J1086 xv Lc rec22 (nI fl, nI lim, nI nr, nF len, nF tp, nF th, nF ta) (nI hrq, nI aq, wyq, nI stq, nI wrq, nI spq, nI laq, bF clq, nF nxq, nF ctq, bF fb, nF wmq, bF rdq) uT (nI mnq, (fun i => nI (tlq i / 9)), (fun i => nI (tlq i % 9)), nF Tsq, nF Hsq) (nI nm, nF lk, nF dl) uG f2 nr f3 nr l3 (nI mn) l13 (nI st) l20 l21 l22 l24 := by
      intro g1 g2
      subst g2
      rw [L1, nI_add]
      refine ih (i + 1) f false (by omega) (by omega) (fun k hk hk2 => ?_)
      by_cases e : k = i
      · subst e; exact g1 hk2
      · exact hb k (by omega) hk2
    rw [p_L_law_L973, if_neg (mt (nI_leI (by omega) (by omega)).mp (by omega))]
    unfold p_L_law_J1019 p_L_law_J1015
    cases hbv : b
    · rw [if_pos (show bI false = 0 from rfl), gd_nI _ hi2 (by omega), nI_cl (by omega), hf1 i hi2]
      cases hcl : cl i
      · rw [if_pos (show bI false = 0 from rfl)]
        exact ihF (fun q => by unfold twG at q; rw [hcl] at q; cases q) hbv
      · rw [if_neg (show ¬ bI true = 0 by decide +kernel)]
        by_cases h0 : d ≤ 0
        · rw [if_pos h0]
          by_cases h1 : a ≤ i
          · rw [if_pos (nI_leI (by omega) (by omega) |>.mpr h1)]
            exact ihF (fun q => by unfold twG at q; rw [hcl, if_pos h0] at q; simp at q; omega) hbv
          · rw [if_neg (mt (nI_leI (by omega) (by omega)).mp h1)]
            exact ihT
        · rw [if_neg h0]
          by_cases h1 : i ≤ a
          · rw [if_pos (nI_leI (by omega) (by omega) |>.mpr h1)]
            exact ihF (fun q => by unfold twG at q; rw [hcl, if_neg h0] at q; simp at q; omega) hbv
          · rw [if_neg (mt (nI_leI (by omega) (by omega)).mp h1)]
            exact ihT
    · rw [if_neg (show ¬ bI true = 0 by decide +kernel)]
      exact ihT
/-- how many calls an hour ended -/
def dfG (cl clq : Nat → Bool) : Nat → Bool := fun k => cl k && !(clq k)
theorem w_L881 {f0 f1 f2 f3 : Nat → Int32} {d l7 l13 l18 l19 l20 l21 l22 : Int32} (hl : ∀ f, len f ≤ 9) (hxq : ∀ f, nxq f ≤ len f) (hfl : fl ≤ 12) (hf0 : ∀ i, i < fl → f0 i = nx1 len nx i) (hf1 : ∀ i, i < fl → f1 i = bI (cl i)) (ha : aq < fl) (hcl : ∀ k, clq k = cl k ∨ (k = aq ∧ cl k = true ∧ clq k = false)) (hnx : ∀ k, k ≠ aq → nxq k = nx k) : ∀ n i fuel, i + n = fl → n < fuel → p_L_law_L881 xv Lc rec22 fuel (nI fl, nI lim, nI nr, nF len, nF tp, nF th, nF ta) (nI hrq, nI aq, wyq, nI stq, nI wrq, nI spq, nI laq, bF clq, nF nxq, nF ctq, bF fb, nF wmq, bF rdq) uT (nI mnq, (fun i => nI (tlq i / 9)), (fun i => nI (tlq i % 9)), nF Tsq, nF Hsq) (nI nm, nF lk, nF dl) uG f0 fl f1 fl f2 nr f3 nr l3 (nI fl) (nI mn) l7 l13 l18 l19 l20 l21 l22 d (nI (cnt (dfG cl clq) i)) (nI i) = p_L_law_L973 xv Lc rec22 200 (nI fl, nI lim, nI nr, nF len, nF tp, nF th, nF ta) (nI hrq, nI aq, wyq, nI stq, nI wrq, nI spq, nI laq, bF clq, nF nxq, nF ctq, bF fb, nF wmq, bF rdq) uT (nI mnq, (fun i => nI (tlq i / 9)), (fun i => nI (tlq i % 9)), nF Tsq, nF Hsq) (nI nm, nF lk, nF dl) uG f1 fl f2 nr f3 nr l3 (nI fl) (nI mn) l7 l13 l18 l19 l20 l21 l22 d (nI (cnt (dfG cl clq) fl)) (bI false) (nI 0) := by
  intro n
  induction n with
  | zero =>
    intro i fuel hi hf
    obtain ⟨f, rfl⟩ : ∃ f, fuel = f + 1 := ⟨fuel - 1, by omega⟩
    have : i = fl := by omega
    subst this
    rw [p_L_law_L881, if_pos (nI_leI (by omega) (by omega) |>.mpr (Nat.le_refl _))]
    rw [bI_f0, ← L0]
  | succ n ih =>
    intro i fuel hi hf
    obtain ⟨f, rfl⟩ : ∃ f, fuel = f + 1 := ⟨fuel - 1, by omega⟩
    have hi2 : i < fl := by omega
    have e0 : ∀ X : Option Unit, gd (nI i) fl X = X := fun X => gd_nI X hi2 (by omega)
    have ih2 := ih (i + 1) f (by omega) (by omega)
    rw [← ih2, cnt_succ]
    -- the paragraph
    have kP : ∀ x : Int32, p_L_law_J936 xv Lc rec22 (p_L_law_L881 xv Lc rec22 f) (nI fl, nI lim, nI nr, nF len, nF tp, nF th, nF ta) (nI hrq, nI aq, wyq, nI stq, nI wrq, nI spq, nI laq, bF clq, nF nxq, nF ctq, bF fb, nF wmq, bF rdq) uT (nI mnq, (fun i => nI (tlq i / 9)), (fun i => nI (tlq i % 9)), nF Tsq, nF Hsq) (nI nm, nF lk, nF dl) uG f0 fl f1 fl f2 nr f3 nr l3 (nI fl) (nI mn) l7 l13 l18 l19 l20 l21 l22 d x (nI i) = p_L_law_L881 xv Lc rec22 f (nI fl, nI lim, nI nr, nF len, nF tp, nF th, nF ta) (nI hrq, nI aq, wyq, nI stq, nI wrq, nI spq, nI laq, bF clq, nF nxq, nF ctq, bF fb, nF wmq, bF rdq) uT (nI mnq, (fun i => nI (tlq i / 9)), (fun i => nI (tlq i % 9)), nF Tsq, nF Hsq) (nI nm, nF lk, nF dl) uG f0 fl f1 fl f2 nr f3 nr l3 (nI fl) (nI mn) l7 l13 l18 l19 l20 l21 l22 d x (nI (i + 1)) := by
      intro x
      unfold p_L_law_J936 p_X4_liftAt
      rw [X_next hl hxq hi2 hfl, bd_sm, e0, nI_cl (by omega), hf0 i hi2, bd_sm, L1, nI_add]
      by_cases e : i = aq
      · rw [if_pos (show nI i = nI aq by rw [e])]
        split <;> rfl
      · rw [if_pos (by unfold nx1; rw [hnx i e])]
    have kC : ∀ x : Int32, p_L_law_J905 xv Lc rec22 (p_L_law_L881 xv Lc rec22 f) (nI fl, nI lim, nI nr, nF len, nF tp, nF th, nF ta) (nI hrq, nI aq, wyq, nI stq, nI wrq, nI spq, nI laq, bF clq, nF nxq, nF ctq, bF fb, nF wmq, bF rdq) uT (nI mnq, (fun i => nI (tlq i / 9)), (fun i => nI (tlq i % 9)), nF Tsq, nF Hsq) (nI nm, nF lk, nF dl) uG f0 fl f1 fl f2 nr f3 nr l3 (nI fl) (nI mn) l7 l13 l18 l19 l20 l21 l22 d x (nI i) = p_L_law_L881 xv Lc rec22 f (nI fl, nI lim, nI nr, nF len, nF tp, nF th, nF ta) (nI hrq, nI aq, wyq, nI stq, nI wrq, nI spq, nI laq, bF clq, nF nxq, nF ctq, bF fb, nF wmq, bF rdq) uT (nI mnq, (fun i => nI (tlq i / 9)), (fun i => nI (tlq i % 9)), nF Tsq, nF Hsq) (nI nm, nF lk, nF dl) uG f0 fl f1 fl f2 nr f3 nr l3 (nI fl) (nI mn) l7 l13 l18 l19 l20 l21 l22 d x (nI (i + 1)) := by
      intro x
      unfold p_L_law_J905 p_X4_liftAt
      rw [e0, X_called hi2 hfl, bd_sm, nI_cl (by omega), hf1 i hi2, bd_sm, kP]
      rcases hcl i with e | ⟨e1, e2, e3⟩
      · rw [if_pos (by rw [e])]
      · rw [e2, e3, if_neg (show ¬ bI true = bI false by decide +kernel), if_pos (show nI i = nI aq by rw [e1]), if_neg (show ¬ bI true = 0 by decide +kernel)]
    rw [p_L_law_L881, if_neg (mt (nI_leI (by omega) (by omega)).mp (by omega)), e0, X_called hi2 hfl, bd_sm, nI_cl (by omega), hf1 i hi2, kC, kC]
    unfold dfG
    rcases hcl i with e | ⟨e1, e2, e3⟩
    · rw [if_pos (by rw [e]), e]
      cases cl i <;> rfl
    · rw [e2, e3, if_neg (show ¬ bI true = bI false by decide +kernel), L1, nI_add]
      rfl
end
