/-! THE PURE PART: what the class answers -/
theorem gq_bI1 {α : Type} (b : Bool) (k : Option α) : gq (bI b &&& nI 1 = bI b) k = k := gq_in (bI_and b)
section
variable {hr a st wr sp la : Nat} {wy : Int32} {cl fb rd : Nat → Bool} {nx ct wm : Nat → Nat} {fl lim nr : Nat} {len tp th ta : Nat → Nat} {sd : Int32} {nm mn : Nat} {lk dl tl Ts Hs : Nat → Nat} {uT : tX0} {k t i m : Nat}
theorem X_floor (hk : k < fl) (hfl : fl ≤ 12) : p_X4_needFloor (nI fl, nI lim, nI nr, nF len, nF tp, nF th, nF ta) (nI hr, nI a, wy, nI st, nI wr, nI sp, nI la, bF cl, nF nx, nF ct, bF fb, nF wm, bF rd) uT (nI mn, (fun i => nI (tl i / 9)), (fun i => nI (tl i % 9)), nF Ts, nF Hs) (nI nm, nF lk, nF dl) (nI k) = some () := by
  unfold p_X4_needFloor
  simp (disch := omega) only [↓Lm1, L0, L1, L2, L3, L4, L5, L7, L8, L9, L10, L12, L20, L21, L33, L40, L60, L80, L99, L108, nI_add, nI_mul, gd_nI, nI_cl, nI_lt', nI_le', nI_eq', bd_sm, nF_app, bF_app, bI_n0, nI_m1e, nI_m1e', nI_m1l, nI_m1l', nI_m1t, nI_m1t', if_true, if_false]
  rw [if_neg (by omega), if_pos hk]
theorem X_called (hk : k < fl) (hfl : fl ≤ 12) : p_X4_isCalled (nI fl, nI lim, nI nr, nF len, nF tp, nF th, nF ta) (nI hr, nI a, wy, nI st, nI wr, nI sp, nI la, bF cl, nF nx, nF ct, bF fb, nF wm, bF rd) uT (nI mn, (fun i => nI (tl i / 9)), (fun i => nI (tl i % 9)), nF Ts, nF Hs) (nI nm, nF lk, nF dl) (nI k) = some (bI (cl k)) := by
  unfold p_X4_isCalled
  rw [X_floor hk hfl]
  simp (disch := omega) only [↓Lm1, L0, L1, L2, L3, L4, L5, L7, L8, L9, L10, L12, L20, L21, L33, L40, L60, L80, L99, L108, nI_add, nI_mul, gd_nI, nI_cl, nI_lt', nI_le', nI_eq', bd_sm, nF_app, bF_app, bI_n0, nI_m1e, nI_m1e', nI_m1l, nI_m1l', nI_m1t, nI_m1t', if_true, if_false]
  rw [gq_bI1]
theorem X_paras (hk : k < fl) (hfl : fl ≤ 12) : p_X4_paragraphs (nI fl, nI lim, nI nr, nF len, nF tp, nF th, nF ta) (nI hr, nI a, wy, nI st, nI wr, nI sp, nI la, bF cl, nF nx, nF ct, bF fb, nF wm, bF rd) uT (nI mn, (fun i => nI (tl i / 9)), (fun i => nI (tl i % 9)), nF Ts, nF Hs) (nI nm, nF lk, nF dl) (nI k) = some (nI (len k)) := by
  unfold p_X4_paragraphs
  rw [X_floor hk hfl]
  simp (disch := omega) only [↓Lm1, L0, L1, L2, L3, L4, L5, L7, L8, L9, L10, L12, L20, L21, L33, L40, L60, L80, L99, L108, nI_add, nI_mul, gd_nI, nI_cl, nI_lt', nI_le', nI_eq', bd_sm, nF_app, bF_app, bI_n0, nI_m1e, nI_m1e', nI_m1l, nI_m1l', nI_m1t, nI_m1t', if_true, if_false]
def nx1 (len nx : Nat → Nat) (k : Nat) : Int32 := if len k ≤ nx k then m1 else nI (nx k)
theorem X_next (hl : ∀ f, len f ≤ 9) (hx : ∀ f, nx f ≤ len f) (hk : k < fl) (hfl : fl ≤ 12) : p_X4_nextParagraph (nI fl, nI lim, nI nr, nF len, nF tp, nF th, nF ta) (nI hr, nI a, wy, nI st, nI wr, nI sp, nI la, bF cl, nF nx, nF ct, bF fb, nF wm, bF rd) uT (nI mn, (fun i => nI (tl i / 9)), (fun i => nI (tl i % 9)), nF Ts, nF Hs) (nI nm, nF lk, nF dl) (nI k) = some (nx1 len nx k) := by
  have h1 := hl k
  have h2 := hx k
  unfold p_X4_nextParagraph nx1
  rw [X_floor hk hfl]
  simp (disch := omega) only [↓Lm1, L0, L1, L2, L3, L4, L5, L7, L8, L9, L10, L12, L20, L21, L33, L40, L60, L80, L99, L108, nI_add, nI_mul, gd_nI, nI_cl, nI_lt', nI_le', nI_eq', bd_sm, nF_app, bF_app, bI_n0, nI_m1e, nI_m1e', nI_m1l, nI_m1l', nI_m1t, nI_m1t', if_true, if_false]
  split <;> rfl
theorem X_para (hl : ∀ f, len f ≤ 9) (hk : k < fl) (hfl : fl ≤ 12) (hi : i < len k) : p_X4_needParagraph (nI fl, nI lim, nI nr, nF len, nF tp, nF th, nF ta) (nI hr, nI a, wy, nI st, nI wr, nI sp, nI la, bF cl, nF nx, nF ct, bF fb, nF wm, bF rd) uT (nI mn, (fun i => nI (tl i / 9)), (fun i => nI (tl i % 9)), nF Ts, nF Hs) (nI nm, nF lk, nF dl) (nI k) (nI i) = some () := by
  have h1 := hl k
  unfold p_X4_needParagraph
  rw [X_floor hk hfl]
  simp (disch := omega) only [↓Lm1, L0, L1, L2, L3, L4, L5, L7, L8, L9, L10, L12, L20, L21, L33, L40, L60, L80, L99, L108, nI_add, nI_mul, gd_nI, nI_cl, nI_lt', nI_le', nI_eq', bd_sm, nF_app, bF_app, bI_n0, nI_m1e, nI_m1e', nI_m1l, nI_m1l', nI_m1t, nI_m1t', if_true, if_false]
  rw [if_neg (by omega), if_pos hi]
theorem H_topic (hk : k < 12) (hi : i < 9) : p_X1_topicAt (nI fl, nI lim, nI nr, nF len, nF tp, nF th, nF ta) (nI k) (nI i) = some (nI (tp (9 * k + i))) := by
  unfold p_X1_topicAt
  simp (disch := omega) only [↓Lm1, L0, L1, L2, L3, L4, L5, L7, L8, L9, L10, L12, L20, L21, L33, L40, L60, L80, L99, L108, nI_add, nI_mul, gd_nI, nI_cl, nI_lt', nI_le', nI_eq', bd_sm, nF_app, bF_app, bI_n0, nI_m1e, nI_m1e', nI_m1l, nI_m1l', nI_m1t, nI_m1t', if_true, if_false]
  rw [Nat.mul_comm]
theorem H_thrill (hk : k < 12) (hi : i < 9) : p_X1_thrillAt (nI fl, nI lim, nI nr, nF len, nF tp, nF th, nF ta) (nI k) (nI i) = some (nI (th (9 * k + i))) := by
  unfold p_X1_thrillAt
  simp (disch := omega) only [↓Lm1, L0, L1, L2, L3, L4, L5, L7, L8, L9, L10, L12, L20, L21, L33, L40, L60, L80, L99, L108, nI_add, nI_mul, gd_nI, nI_cl, nI_lt', nI_le', nI_eq', bd_sm, nF_app, bF_app, bI_n0, nI_m1e, nI_m1e', nI_m1l, nI_m1l', nI_m1t, nI_m1t', if_true, if_false]
  rw [Nat.mul_comm]
theorem X_topicOf (hl : ∀ f, len f ≤ 9) (hk : k < fl) (hfl : fl ≤ 12) (hi : i < len k) : p_X4_topicOf (nI fl, nI lim, nI nr, nF len, nF tp, nF th, nF ta) (nI hr, nI a, wy, nI st, nI wr, nI sp, nI la, bF cl, nF nx, nF ct, bF fb, nF wm, bF rd) uT (nI mn, (fun i => nI (tl i / 9)), (fun i => nI (tl i % 9)), nF Ts, nF Hs) (nI nm, nF lk, nF dl) (nI k) (nI i) = some (nI (tp (9 * k + i))) := by
  have h1 := hl k
  unfold p_X4_topicOf
  rw [X_para hl hk hfl hi, bd_sm, H_topic (by omega) (by omega), bd_sm]
theorem X_thrillOf (hl : ∀ f, len f ≤ 9) (hk : k < fl) (hfl : fl ≤ 12) (hi : i < len k) : p_X4_thrillOf (nI fl, nI lim, nI nr, nF len, nF tp, nF th, nF ta) (nI hr, nI a, wy, nI st, nI wr, nI sp, nI la, bF cl, nF nx, nF ct, bF fb, nF wm, bF rd) uT (nI mn, (fun i => nI (tl i / 9)), (fun i => nI (tl i % 9)), nF Ts, nF Hs) (nI nm, nF lk, nF dl) (nI k) (nI i) = some (nI (th (9 * k + i))) := by
  have h1 := hl k
  unfold p_X4_thrillOf
  rw [X_para hl hk hfl hi, bd_sm, H_thrill (by omega) (by omega), bd_sm]
theorem X_cutOn (hk : k < fl) (hfl : fl ≤ 12) : p_X4_cutOn (nI fl, nI lim, nI nr, nF len, nF tp, nF th, nF ta) (nI hr, nI a, wy, nI st, nI wr, nI sp, nI la, bF cl, nF nx, nF ct, bF fb, nF wm, bF rd) uT (nI mn, (fun i => nI (tl i / 9)), (fun i => nI (tl i % 9)), nF Ts, nF Hs) (nI nm, nF lk, nF dl) (nI k) = some (nI (ct k)) := by
  unfold p_X4_cutOn
  rw [X_floor hk hfl]
  simp (disch := omega) only [↓Lm1, L0, L1, L2, L3, L4, L5, L7, L8, L9, L10, L12, L20, L21, L33, L40, L60, L80, L99, L108, nI_add, nI_mul, gd_nI, nI_cl, nI_lt', nI_le', nI_eq', bd_sm, nF_app, bF_app, bI_n0, nI_m1e, nI_m1e', nI_m1l, nI_m1l', nI_m1t, nI_m1t', if_true, if_false]
theorem X_topic (ht : t < 8) : p_X4_needTopic (nI t) = some () := by
  unfold p_X4_needTopic p_X4_isTopic
  simp (disch := omega) only [↓Lm1, L0, L1, L2, L3, L4, L5, L7, L8, L9, L10, L12, L20, L21, L33, L40, L60, L80, L99, L108, nI_add, nI_mul, gd_nI, nI_cl, nI_lt', nI_le', nI_eq', bd_sm, nF_app, bF_app, bI_n0, nI_m1e, nI_m1e', nI_m1l, nI_m1l', nI_m1t, nI_m1t', if_true, if_false]
  rw [if_neg (by omega), if_neg (by omega), bd_sm]
  rfl
theorem X_forb (ht : t < 8) : p_X4_isForbidden (nI fl, nI lim, nI nr, nF len, nF tp, nF th, nF ta) (nI hr, nI a, wy, nI st, nI wr, nI sp, nI la, bF cl, nF nx, nF ct, bF fb, nF wm, bF rd) uT (nI mn, (fun i => nI (tl i / 9)), (fun i => nI (tl i % 9)), nF Ts, nF Hs) (nI nm, nF lk, nF dl) (nI t) = some (bI (fb t)) := by
  unfold p_X4_isForbidden
  rw [X_topic ht]
  simp (disch := omega) only [↓Lm1, L0, L1, L2, L3, L4, L5, L7, L8, L9, L10, L12, L20, L21, L33, L40, L60, L80, L99, L108, nI_add, nI_mul, gd_nI, nI_cl, nI_lt', nI_le', nI_eq', bd_sm, nF_app, bF_app, bI_n0, nI_m1e, nI_m1e', nI_m1l, nI_m1l', nI_m1t, nI_m1t', if_true, if_false]
  rw [gq_bI1]
theorem X_calls : p_X4_calls (nI fl, nI lim, nI nr, nF len, nF tp, nF th, nF ta) (nI hr, nI a, wy, nI st, nI wr, nI sp, nI la, bF cl, nF nx, nF ct, bF fb, nF wm, bF rd) uT (nI mn, (fun i => nI (tl i / 9)), (fun i => nI (tl i % 9)), nF Ts, nF Hs) (nI nm, nF lk, nF dl) = some (nI (cnt cl 12)) := by
  unfold p_X4_calls
  rw [cC_called, bd_sm]
theorem X_cuts : p_X4_cuts (nI fl, nI lim, nI nr, nF len, nF tp, nF th, nF ta) (nI hr, nI a, wy, nI st, nI wr, nI sp, nI la, bF cl, nF nx, nF ct, bF fb, nF wm, bF rd) uT (nI mn, (fun i => nI (tl i / 9)), (fun i => nI (tl i % 9)), nF Ts, nF Hs) (nI nm, nF lk, nF dl) = some (nI (sm ct 12)) := by
  unfold p_X4_cuts
  rw [cC_cut, bd_sm]
/-- what is to come -/
theorem C_tc_L23 {rec4 : tX0 → tX1 → Int32 → Int32 → Int32 → Option Int32} (hl : ∀ f, len f ≤ 9) (htp : ∀ i, tp i < 8) (ht : t < 8) (hk : k < 12) : ∀ n j fuel acc, j + n = len k → n < fuel → p_X0_countToCome_L23 rec4 fuel (nI hr, nI a, wy, nI st, nI wr, nI sp, nI la, bF cl, nF nx, nF ct, bF fb, nF wm, bF rd) (nI fl, nI lim, nI nr, nF len, nF tp, nF th, nF ta) (nI t) (nI acc) (nI k) (nI j) = rec4 (nI hr, nI a, wy, nI st, nI wr, nI sp, nI la, bF cl, nF nx, nF ct, bF fb, nF wm, bF rd) (nI fl, nI lim, nI nr, nF len, nF tp, nF th, nF ta) (nI t) (nI (acc + sF (tcI tp t k) j n)) (nI (k + 1)) := by
  have h1 := hl k
  intro n
  induction n with
  | zero =>
    intro j fuel acc hj hf
    obtain ⟨f, rfl⟩ : ∃ f, fuel = f + 1 := ⟨fuel - 1, by omega⟩
    rw [p_X0_countToCome_L23]
    simp (disch := omega) only [↓Lm1, L0, L1, L2, L3, L4, L5, L7, L8, L9, L10, L12, L20, L21, L33, L40, L60, L80, L99, L108, nI_add, nI_mul, gd_nI, nI_cl, nI_lt', nI_le', nI_eq', bd_sm, nF_app, bF_app, bI_n0, nI_m1e, nI_m1e', nI_m1l, nI_m1l', nI_m1t, nI_m1t', if_true, if_false]
    rw [if_pos (by omega)]
    rfl
  | succ n ih =>
    intro j fuel acc hj hf
    obtain ⟨f, rfl⟩ : ∃ f, fuel = f + 1 := ⟨fuel - 1, by omega⟩
    have h2 := htp (9 * k + j)
    rw [p_X0_countToCome_L23, H_topic hk (by omega)]
    simp (disch := omega) only [↓Lm1, L0, L1, L2, L3, L4, L5, L7, L8, L9, L10, L12, L20, L21, L33, L40, L60, L80, L99, L108, nI_add, nI_mul, gd_nI, nI_cl, nI_lt', nI_le', nI_eq', bd_sm, nF_app, bF_app, bI_n0, nI_m1e, nI_m1e', nI_m1l, nI_m1l', nI_m1t, nI_m1t', if_true, if_false]
    rw [if_neg (by omega), ih (j + 1) f (acc + 1) (by omega) (by omega), ih (j + 1) f acc (by omega) (by omega), sF]
    unfold tcI
    by_cases e : tp (9 * k + j) = t
    · rw [if_pos e, decide_eq_true e, show b1 true = 1 from rfl, Nat.add_assoc]
    · rw [if_neg e, decide_eq_false e, show b1 false = 0 from rfl, Nat.zero_add]
theorem C_tc (hl : ∀ f, len f ≤ 9) (hx : ∀ f, nx f ≤ len f) (htp : ∀ i, tp i < 8) (hfl : fl ≤ 12) (ht : t < 8) : p_X0_countToCome (nI hr, nI a, wy, nI st, nI wr, nI sp, nI la, bF cl, nF nx, nF ct, bF fb, nF wm, bF rd) (nI fl, nI lim, nI nr, nF len, nF tp, nF th, nF ta) (nI t) = some (nI (tcG len nx tp fl t)) := by
  unfold p_X0_countToCome
  rw [L0]
  refine fl_sum0 (L := fun f x i => p_X0_countToCome_L4 f (nI hr, nI a, wy, nI st, nI wr, nI sp, nI la, bF cl, nF nx, nF ct, bF fb, nF wm, bF rd) (nI fl, nI lim, nI nr, nF len, nF tp, nF th, nF ta) (nI t) x i) 200 (by omega) (fun f acc i hi => ?_)
  show p_X0_countToCome_L4 (f + 1) _ _ _ _ _ = _
  have h1 := hl i
  have h2 := hx i
  rw [p_X0_countToCome_L4]
  by_cases h : fl ≤ i
  · simp (disch := omega) only [↓Lm1, L0, L1, L2, L3, L4, L5, L7, L8, L9, L10, L12, L20, L21, L33, L40, L60, L80, L99, L108, nI_add, nI_mul, gd_nI, nI_cl, nI_lt', nI_le', nI_eq', bd_sm, nF_app, bF_app, bI_n0, nI_m1e, nI_m1e', nI_m1l, nI_m1l', nI_m1t, nI_m1t', if_true, if_false, h]
  · simp (disch := omega) only [↓Lm1, L0, L1, L2, L3, L4, L5, L7, L8, L9, L10, L12, L20, L21, L33, L40, L60, L80, L99, L108, nI_add, nI_mul, gd_nI, nI_cl, nI_lt', nI_le', nI_eq', bd_sm, nF_app, bF_app, bI_n0, nI_m1e, nI_m1e', nI_m1l, nI_m1l', nI_m1t, nI_m1t', if_true, if_false, h]
    rw [C_tc_L23 hl htp ht (by omega) (len i - nx i) (nx i) 200 acc (by omega) (by omega)]
    rfl
theorem X_toCome (hl : ∀ f, len f ≤ 9) (hx : ∀ f, nx f ≤ len f) (htp : ∀ i, tp i < 8) (hfl : fl ≤ 12) (ht : t < 8) : p_X4_toCome (nI fl, nI lim, nI nr, nF len, nF tp, nF th, nF ta) (nI hr, nI a, wy, nI st, nI wr, nI sp, nI la, bF cl, nF nx, nF ct, bF fb, nF wm, bF rd) uT (nI mn, (fun i => nI (tl i / 9)), (fun i => nI (tl i % 9)), nF Ts, nF Hs) (nI nm, nF lk, nF dl) (nI t) = some (nI (tcG len nx tp fl t)) := by
  unfold p_X4_toCome
  rw [X_topic ht, bd_sm, C_tc hl hx htp hfl ht, bd_sm]
/-- the instalments -/
theorem X_inst (hm : mn ≤ 108) (hi : i < mn) : p_X4_needInstalment (nI fl, nI lim, nI nr, nF len, nF tp, nF th, nF ta) (nI hr, nI a, wy, nI st, nI wr, nI sp, nI la, bF cl, nF nx, nF ct, bF fb, nF wm, bF rd) uT (nI mn, (fun i => nI (tl i / 9)), (fun i => nI (tl i % 9)), nF Ts, nF Hs) (nI nm, nF lk, nF dl) (nI i) = some () := by
  unfold p_X4_needInstalment
  simp (disch := omega) only [↓Lm1, L0, L1, L2, L3, L4, L5, L7, L8, L9, L10, L12, L20, L21, L33, L40, L60, L80, L99, L108, nI_add, nI_mul, gd_nI, nI_cl, nI_lt', nI_le', nI_eq', bd_sm, nF_app, bF_app, bI_n0, nI_m1e, nI_m1e', nI_m1l, nI_m1l', nI_m1t, nI_m1t', if_true, if_false]
  rw [if_neg (by omega), if_pos hi]
theorem X_floorIn (hm : mn ≤ 108) (hi : i < mn) : p_X4_floorIn (nI fl, nI lim, nI nr, nF len, nF tp, nF th, nF ta) (nI hr, nI a, wy, nI st, nI wr, nI sp, nI la, bF cl, nF nx, nF ct, bF fb, nF wm, bF rd) uT (nI mn, (fun i => nI (tl i / 9)), (fun i => nI (tl i % 9)), nF Ts, nF Hs) (nI nm, nF lk, nF dl) (nI i) = some (nI (tl i / 9)) := by
  unfold p_X4_floorIn
  rw [X_inst hm hi]
  simp (disch := omega) only [↓Lm1, L0, L1, L2, L3, L4, L5, L7, L8, L9, L10, L12, L20, L21, L33, L40, L60, L80, L99, L108, nI_add, nI_mul, gd_nI, nI_cl, nI_lt', nI_le', nI_eq', bd_sm, nF_app, bF_app, bI_n0, nI_m1e, nI_m1e', nI_m1l, nI_m1l', nI_m1t, nI_m1t', if_true, if_false]
theorem X_paraIn (hm : mn ≤ 108) (hi : i < mn) : p_X4_paragraphIn (nI fl, nI lim, nI nr, nF len, nF tp, nF th, nF ta) (nI hr, nI a, wy, nI st, nI wr, nI sp, nI la, bF cl, nF nx, nF ct, bF fb, nF wm, bF rd) uT (nI mn, (fun i => nI (tl i / 9)), (fun i => nI (tl i % 9)), nF Ts, nF Hs) (nI nm, nF lk, nF dl) (nI i) = some (nI (tl i % 9)) := by
  unfold p_X4_paragraphIn
  rw [X_inst hm hi]
  simp (disch := omega) only [↓Lm1, L0, L1, L2, L3, L4, L5, L7, L8, L9, L10, L12, L20, L21, L33, L40, L60, L80, L99, L108, nI_add, nI_mul, gd_nI, nI_cl, nI_lt', nI_le', nI_eq', bd_sm, nF_app, bF_app, bI_n0, nI_m1e, nI_m1e', nI_m1l, nI_m1l', nI_m1t, nI_m1t', if_true, if_false]
theorem X_thrillIn (hm : mn ≤ 108) (hi : i < mn) : p_X4_thrillIn (nI fl, nI lim, nI nr, nF len, nF tp, nF th, nF ta) (nI hr, nI a, wy, nI st, nI wr, nI sp, nI la, bF cl, nF nx, nF ct, bF fb, nF wm, bF rd) uT (nI mn, (fun i => nI (tl i / 9)), (fun i => nI (tl i % 9)), nF Ts, nF Hs) (nI nm, nF lk, nF dl) (nI i) = some (nI (Ts i)) := by
  unfold p_X4_thrillIn
  rw [X_inst hm hi]
  simp (disch := omega) only [↓Lm1, L0, L1, L2, L3, L4, L5, L7, L8, L9, L10, L12, L20, L21, L33, L40, L60, L80, L99, L108, nI_add, nI_mul, gd_nI, nI_cl, nI_lt', nI_le', nI_eq', bd_sm, nF_app, bF_app, bI_n0, nI_m1e, nI_m1e', nI_m1l, nI_m1l', nI_m1t, nI_m1t', if_true, if_false]
theorem X_hourIn (hm : mn ≤ 108) (hi : i < mn) : p_X4_hourIn (nI fl, nI lim, nI nr, nF len, nF tp, nF th, nF ta) (nI hr, nI a, wy, nI st, nI wr, nI sp, nI la, bF cl, nF nx, nF ct, bF fb, nF wm, bF rd) uT (nI mn, (fun i => nI (tl i / 9)), (fun i => nI (tl i % 9)), nF Ts, nF Hs) (nI nm, nF lk, nF dl) (nI i) = some (nI (Hs i)) := by
  unfold p_X4_hourIn
  rw [X_inst hm hi]
  simp (disch := omega) only [↓Lm1, L0, L1, L2, L3, L4, L5, L7, L8, L9, L10, L12, L20, L21, L33, L40, L60, L80, L99, L108, nI_add, nI_mul, gd_nI, nI_cl, nI_lt', nI_le', nI_eq', bd_sm, nF_app, bF_app, bI_n0, nI_m1e, nI_m1e', nI_m1l, nI_m1l', nI_m1t, nI_m1t', if_true, if_false]
theorem I_most_L (hm : mn ≤ 108) (hT : ∀ i, i < mn → Ts i < 100000000) : ∀ n i fuel b, i + n = mn → n < fuel → (∀ k, b = some k → k < i) → p_X2_findMostThrilling_L4 fuel (nI mn, (fun i => nI (tl i / 9)), (fun i => nI (tl i % 9)), nF Ts, nF Hs) (oI b) (nI i) = some (oI (am Ts (fun _ => true) n i b)) := by
  intro n
  induction n with
  | zero =>
    intro i fuel b hi hf hb
    obtain ⟨f, rfl⟩ : ∃ f, fuel = f + 1 := ⟨fuel - 1, by omega⟩
    rw [p_X2_findMostThrilling_L4]
    simp (disch := omega) only [↓Lm1, L0, L1, L2, L3, L4, L5, L7, L8, L9, L10, L12, L20, L21, L33, L40, L60, L80, L99, L108, nI_add, nI_mul, gd_nI, nI_cl, nI_lt', nI_le', nI_eq', bd_sm, nF_app, bF_app, bI_n0, nI_m1e, nI_m1e', nI_m1l, nI_m1l', nI_m1t, nI_m1t', if_true, if_false]
    rw [if_pos (by omega), am_0]
  | succ n ih =>
    intro i fuel b hi hf hb
    obtain ⟨f, rfl⟩ : ∃ f, fuel = f + 1 := ⟨fuel - 1, by omega⟩
    have hi2 := hT i (by omega)
    have ih2 := ih (i + 1) f (amS Ts (fun _ => true) i b) (by omega) (by omega) (amS_b hb)
    rw [am_s, ← ih2, p_X2_findMostThrilling_L4]
    cases b with
    | none =>
      simp (disch := omega) only [↓Lm1, L0, L1, L2, L3, L4, L5, L7, L8, L9, L10, L12, L20, L21, L33, L40, L60, L80, L99, L108, nI_add, nI_mul, gd_nI, nI_cl, nI_lt', nI_le', nI_eq', bd_sm, nF_app, bF_app, bI_n0, nI_m1e, nI_m1e', nI_m1l, nI_m1l', nI_m1t, nI_m1t', if_true, if_false, oI, p_X2_findMostThrilling_J32]
      rw [if_neg (by omega), amS_n rfl]
    | some q =>
      have hq := hb q rfl
      have hq2 := hT q (by omega)
      simp (disch := omega) only [↓Lm1, L0, L1, L2, L3, L4, L5, L7, L8, L9, L10, L12, L20, L21, L33, L40, L60, L80, L99, L108, nI_add, nI_mul, gd_nI, nI_cl, nI_lt', nI_le', nI_eq', bd_sm, nF_app, bF_app, bI_n0, nI_m1e, nI_m1e', nI_m1l, nI_m1l', nI_m1t, nI_m1t', if_true, if_false, oI, p_X2_findMostThrilling_J32]
      rw [if_neg (by omega)]
      by_cases hle : Ts i ≤ Ts q
      · rw [if_pos hle, amS_l rfl hle]
      · rw [if_neg hle, amS_g rfl hle]
theorem X_most (hm : mn ≤ 108) (hT : ∀ i, i < mn → Ts i < 100000000) : p_X4_mostThrilling (nI fl, nI lim, nI nr, nF len, nF tp, nF th, nF ta) (nI hr, nI a, wy, nI st, nI wr, nI sp, nI la, bF cl, nF nx, nF ct, bF fb, nF wm, bF rd) uT (nI mn, (fun i => nI (tl i / 9)), (fun i => nI (tl i % 9)), nF Ts, nF Hs) (nI nm, nF lk, nF dl) = some (oI (am Ts (fun _ => true) mn 0 none)) := by
  unfold p_X4_mostThrilling p_X2_findMostThrilling
  have e := I_most_L (tl := tl) (Hs := Hs) hm hT mn 0 200 none (by omega) (by omega) (fun k h => nomatch h)
  rw [show (-1 : Int32) = oI none from rfl, L0, e, bd_sm]
/-- grades -/
theorem nI_m3 (a : Nat) : nI (a + 3) + -nI 3 = nI a := by
  rw [← nI_add, Int32.add_assoc, show nI 3 + -nI 3 = 0 by decide +kernel, Int32.add_zero]
theorem M_judge33 {uM : tX3} {v : Nat} (hv : v < 2147483648) : p_X3_judge_J33 uM (nI v) = some (nI (if v < 10 then v else 10)) := by
  unfold p_X3_judge_J33
  simp (disch := omega) only [↓Lm1, L0, L1, L2, L3, L4, L5, L7, L8, L9, L10, L12, L20, L21, L33, L40, L60, L80, L99, L108, nI_add, nI_mul, gd_nI, nI_cl, nI_lt', nI_le', nI_eq', bd_sm, nF_app, bF_app, bI_n0, nI_m1e, nI_m1e', nI_m1l, nI_m1l', nI_m1t, nI_m1t', if_true, if_false]
  by_cases h : v < 10
  · simp (disch := omega) only [h, if_true, if_pos]
    simp (disch := omega) only [↓Lm1, L0, L1, L2, L3, L4, L5, L7, L8, L9, L10, L12, L20, L21, L33, L40, L60, L80, L99, L108, nI_add, nI_mul, gd_nI, nI_cl, nI_lt', nI_le', nI_eq', bd_sm, nF_app, bF_app, bI_n0, nI_m1e, nI_m1e', nI_m1l, nI_m1l', nI_m1t, nI_m1t', if_true, if_false]
    by_cases h0 : 0 < v
    · rw [if_pos h0]
    · rw [if_neg h0, show v = 0 by omega]
  · simp (disch := omega) only [h, if_false]
    simp (disch := omega) only [↓Lm1, L0, L1, L2, L3, L4, L5, L7, L8, L9, L10, L12, L20, L21, L33, L40, L60, L80, L99, L108, nI_add, nI_mul, gd_nI, nI_cl, nI_lt', nI_le', nI_eq', bd_sm, nF_app, bF_app, bI_n0, nI_m1e, nI_m1e', nI_m1l, nI_m1l', nI_m1t, nI_m1t', if_true, if_false]
    rw [if_pos (by omega)]
theorem M_judge {x : Nat} (hm : m < 4) (ht : t < 8) (hlk : ∀ m, lk m < 8) (hdl : ∀ m, dl m < 8) (hx : x < 100000000) : p_X3_judge (nI nm, nF lk, nF dl) (nI m) (nI t) (nI x) = some (nI (gr lk dl m t x)) := by
  have h1 := hlk m
  have h2 := hdl m
  have k : ∀ v : Nat, 3 ≤ v → v < 100000000 → p_X3_judge_J20 (nI nm, nF lk, nF dl) (nI m) (nI t) (nI v) = some (nI (if v - (if dl m = t then 3 else 0) < 10 then v - (if dl m = t then 3 else 0) else 10)) := by
    intro v hv hv2
    unfold p_X3_judge_J20
    simp (disch := omega) only [↓Lm1, L0, L1, L2, L3, L4, L5, L7, L8, L9, L10, L12, L20, L21, L33, L40, L60, L80, L99, L108, nI_add, nI_mul, gd_nI, nI_cl, nI_lt', nI_le', nI_eq', bd_sm, nF_app, bF_app, bI_n0, nI_m1e, nI_m1e', nI_m1l, nI_m1l', nI_m1t, nI_m1t', if_true, if_false]
    by_cases e : dl m = t
    · obtain ⟨u, rfl⟩ : ∃ u, v = u + 3 := ⟨v - 3, by omega⟩
      rw [if_pos e, if_pos e, nI_m3, M_judge33 (by omega), Nat.add_sub_cancel]
    · rw [if_neg e, if_neg e, M_judge33 (by omega), Nat.sub_zero]
  unfold p_X3_judge gr
  simp (disch := omega) only [↓Lm1, L0, L1, L2, L3, L4, L5, L7, L8, L9, L10, L12, L20, L21, L33, L40, L60, L80, L99, L108, nI_add, nI_mul, gd_nI, nI_cl, nI_lt', nI_le', nI_eq', bd_sm, nF_app, bF_app, bI_n0, nI_m1e, nI_m1e', nI_m1l, nI_m1l', nI_m1t, nI_m1t', if_true, if_false, nI_div]
  by_cases e : lk m = t
  · rw [if_pos e, if_pos e, k _ (by omega) (by omega)]
  · rw [if_neg e, if_neg e, k _ (by omega) (by omega), Nat.add_zero]
def gG (lk dl tp tl Ts : Nat → Nat) (m i : Nat) : Nat := gr lk dl m (tp (tl i)) (Ts i)
theorem gG_le {m i : Nat} : gG lk dl tp tl Ts m i ≤ 10 := gr_le _ _ _ _ _
theorem X_judge (htp : ∀ i, tp i < 8) (hlk : ∀ m, lk m < 8) (hdl : ∀ m, dl m < 8) (hmn : mn ≤ 108) (hq : ∀ i, i < mn → tl i < 108) (hT : ∀ i, i < mn → Ts i < 100000000) (hm : m < 4) (hi : i < mn) : p_X4_judge (nI fl, nI lim, nI nr, nF len, nF tp, nF th, nF ta) (nI hr, nI a, wy, nI st, nI wr, nI sp, nI la, bF cl, nF nx, nF ct, bF fb, nF wm, bF rd) uT (nI mn, (fun i => nI (tl i / 9)), (fun i => nI (tl i % 9)), nF Ts, nF Hs) (nI nm, nF lk, nF dl) (nI m) (nI i) = some (nI (gG lk dl tp tl Ts m i)) := by
  have h1 := hq i hi
  have h2 := hT i hi
  unfold p_X4_judge
  simp (disch := omega) only [↓Lm1, L0, L1, L2, L3, L4, L5, L7, L8, L9, L10, L12, L20, L21, L33, L40, L60, L80, L99, L108, nI_add, nI_mul, gd_nI, nI_cl, nI_lt', nI_le', nI_eq', bd_sm, nF_app, bF_app, bI_n0, nI_m1e, nI_m1e', nI_m1l, nI_m1l', nI_m1t, nI_m1t', if_true, if_false]
  rw [H_topic (by omega) (by omega), bd_sm, show 9 * (tl i / 9) + tl i % 9 = tl i by omega, M_judge hm (htp _) hlk hdl h2, bd_sm]
  rfl
theorem X_mirror (hnm : nm ≤ 4) (hm : m < nm) : p_X4_needMirror (nI fl, nI lim, nI nr, nF len, nF tp, nF th, nF ta) (nI hr, nI a, wy, nI st, nI wr, nI sp, nI la, bF cl, nF nx, nF ct, bF fb, nF wm, bF rd) uT (nI mn, (fun i => nI (tl i / 9)), (fun i => nI (tl i % 9)), nF Ts, nF Hs) (nI nm, nF lk, nF dl) (nI m) = some () := by
  unfold p_X4_needMirror
  simp (disch := omega) only [↓Lm1, L0, L1, L2, L3, L4, L5, L7, L8, L9, L10, L12, L20, L21, L33, L40, L60, L80, L99, L108, nI_add, nI_mul, gd_nI, nI_cl, nI_lt', nI_le', nI_eq', bd_sm, nF_app, bF_app, bI_n0, nI_m1e, nI_m1e', nI_m1l, nI_m1l', nI_m1t, nI_m1t', if_true, if_false]
  rw [if_neg (by omega), if_pos hm]
theorem X_grade (htp : ∀ i, tp i < 8) (hlk : ∀ m, lk m < 8) (hdl : ∀ m, dl m < 8) (hmn : mn ≤ 108) (hq : ∀ i, i < mn → tl i < 108) (hT : ∀ i, i < mn → Ts i < 100000000) (hnm : nm ≤ 4) (hm : m < nm) (hi : i < mn) : p_X4_grade (nI fl, nI lim, nI nr, nF len, nF tp, nF th, nF ta) (nI hr, nI a, wy, nI st, nI wr, nI sp, nI la, bF cl, nF nx, nF ct, bF fb, nF wm, bF rd) uT (nI mn, (fun i => nI (tl i / 9)), (fun i => nI (tl i % 9)), nF Ts, nF Hs) (nI nm, nF lk, nF dl) (nI m) (nI i) = some (nI (gG lk dl tp tl Ts m i)) := by
  unfold p_X4_grade
  rw [X_mirror hnm hm, bd_sm, X_inst hmn hi, bd_sm, X_judge htp hlk hdl hmn hq hT (by omega) hi, bd_sm]
theorem sum_le {w : Nat → Nat} (n : Nat) (h : ∀ i, w i ≤ 10) : sm w n ≤ 10 * n := by
  have := sm_le (w' := fun _ => 10) n (fun j _ => h j)
  rw [sm_c] at this
  omega
theorem X_sumG (htp : ∀ i, tp i < 8) (hlk : ∀ m, lk m < 8) (hdl : ∀ m, dl m < 8) (hmn : mn ≤ 108) (hq : ∀ i, i < mn → tl i < 108) (hT : ∀ i, i < mn → Ts i < 100000000) (hm : m < 4) : p_X4_sumOfGrades (nI fl, nI lim, nI nr, nF len, nF tp, nF th, nF ta) (nI hr, nI a, wy, nI st, nI wr, nI sp, nI la, bF cl, nF nx, nF ct, bF fb, nF wm, bF rd) uT (nI mn, (fun i => nI (tl i / 9)), (fun i => nI (tl i % 9)), nF Ts, nF Hs) (nI nm, nF lk, nF dl) (nI m) = some (nI (sm (gG lk dl tp tl Ts m) mn)) := by
  unfold p_X4_sumOfGrades
  rw [L0]
  refine fl_sum0 (L := fun f x i => p_X4_sumOfGrades_L4 f (nI fl, nI lim, nI nr, nF len, nF tp, nF th, nF ta) (nI hr, nI a, wy, nI st, nI wr, nI sp, nI la, bF cl, nF nx, nF ct, bF fb, nF wm, bF rd) uT (nI mn, (fun i => nI (tl i / 9)), (fun i => nI (tl i % 9)), nF Ts, nF Hs) (nI nm, nF lk, nF dl) (nI m) x i) 200 (by omega) (fun f acc i hi => ?_)
  show p_X4_sumOfGrades_L4 (f + 1) _ _ _ _ _ _ _ _ = _
  rw [p_X4_sumOfGrades_L4]
  by_cases h : mn ≤ i
  · simp (disch := omega) only [↓Lm1, L0, L1, L2, L3, L4, L5, L7, L8, L9, L10, L12, L20, L21, L33, L40, L60, L80, L99, L108, nI_add, nI_mul, gd_nI, nI_cl, nI_lt', nI_le', nI_eq', bd_sm, nF_app, bF_app, bI_n0, nI_m1e, nI_m1e', nI_m1l, nI_m1l', nI_m1t, nI_m1t', if_true, if_false, h]
  · rw [X_judge htp hlk hdl hmn hq hT hm (by omega)]
    simp (disch := omega) only [↓Lm1, L0, L1, L2, L3, L4, L5, L7, L8, L9, L10, L12, L20, L21, L33, L40, L60, L80, L99, L108, nI_add, nI_mul, gd_nI, nI_cl, nI_lt', nI_le', nI_eq', bd_sm, nF_app, bF_app, bI_n0, nI_m1e, nI_m1e', nI_m1l, nI_m1l', nI_m1t, nI_m1t', if_true, if_false, h]
theorem X_gradesBy (htp : ∀ i, tp i < 8) (hlk : ∀ m, lk m < 8) (hdl : ∀ m, dl m < 8) (hmn : mn ≤ 108) (hq : ∀ i, i < mn → tl i < 108) (hT : ∀ i, i < mn → Ts i < 100000000) (hnm : nm ≤ 4) (hm : m < nm) : p_X4_gradesBy (nI fl, nI lim, nI nr, nF len, nF tp, nF th, nF ta) (nI hr, nI a, wy, nI st, nI wr, nI sp, nI la, bF cl, nF nx, nF ct, bF fb, nF wm, bF rd) uT (nI mn, (fun i => nI (tl i / 9)), (fun i => nI (tl i % 9)), nF Ts, nF Hs) (nI nm, nF lk, nF dl) (nI m) = some (nI (sm (gG lk dl tp tl Ts m) mn)) := by
  unfold p_X4_gradesBy
  rw [X_mirror hnm hm, bd_sm, X_sumG htp hlk hdl hmn hq hT (by omega), bd_sm]
def oV (w : Nat → Nat) : Option Nat → Int32
  | none => m1
  | some k => nI (w k)
theorem X_fav_L (htp : ∀ i, tp i < 8) (hlk : ∀ m, lk m < 8) (hdl : ∀ m, dl m < 8) (hmn : mn ≤ 108) (hq : ∀ i, i < mn → tl i < 108) (hT : ∀ i, i < mn → Ts i < 100000000) (hm : m < 4) : ∀ n i fuel b, i + n = mn → n < fuel → p_X4_favouriteOf_L12 fuel (nI fl, nI lim, nI nr, nF len, nF tp, nF th, nF ta) (nI hr, nI a, wy, nI st, nI wr, nI sp, nI la, bF cl, nF nx, nF ct, bF fb, nF wm, bF rd) uT (nI mn, (fun i => nI (tl i / 9)), (fun i => nI (tl i % 9)), nF Ts, nF Hs) (nI nm, nF lk, nF dl) (nI m) (oI b) (oV (gG lk dl tp tl Ts m) b) (nI i) = some (oI (am (gG lk dl tp tl Ts m) (fun _ => true) n i b)) := by
  intro n
  induction n with
  | zero =>
    intro i fuel b hi hf
    obtain ⟨f, rfl⟩ : ∃ f, fuel = f + 1 := ⟨fuel - 1, by omega⟩
    rw [p_X4_favouriteOf_L12]
    simp (disch := omega) only [↓Lm1, L0, L1, L2, L3, L4, L5, L7, L8, L9, L10, L12, L20, L21, L33, L40, L60, L80, L99, L108, nI_add, nI_mul, gd_nI, nI_cl, nI_lt', nI_le', nI_eq', bd_sm, nF_app, bF_app, bI_n0, nI_m1e, nI_m1e', nI_m1l, nI_m1l', nI_m1t, nI_m1t', if_true, if_false]
    rw [if_pos (by omega), am_0]
  | succ n ih =>
    intro i fuel b hi hf
    obtain ⟨f, rfl⟩ : ∃ f, fuel = f + 1 := ⟨fuel - 1, by omega⟩
    have ih2 := ih (i + 1) f (amS (gG lk dl tp tl Ts m) (fun _ => true) i b) (by omega) (by omega)
    have g1 := gG_le (lk := lk) (dl := dl) (tp := tp) (tl := tl) (Ts := Ts) (m := m) (i := i)
    rw [am_s, ← ih2, p_X4_favouriteOf_L12, X_judge htp hlk hdl hmn hq hT hm (by omega)]
    cases b with
    | none =>
      simp (disch := omega) only [↓Lm1, L0, L1, L2, L3, L4, L5, L7, L8, L9, L10, L12, L20, L21, L33, L40, L60, L80, L99, L108, nI_add, nI_mul, gd_nI, nI_cl, nI_lt', nI_le', nI_eq', bd_sm, nF_app, bF_app, bI_n0, nI_m1e, nI_m1e', nI_m1l, nI_m1l', nI_m1t, nI_m1t', if_true, if_false, oI, oV]
      rw [if_neg (by omega), amS_n rfl]
    | some q =>
      have g2 := gG_le (lk := lk) (dl := dl) (tp := tp) (tl := tl) (Ts := Ts) (m := m) (i := q)
      simp (disch := omega) only [↓Lm1, L0, L1, L2, L3, L4, L5, L7, L8, L9, L10, L12, L20, L21, L33, L40, L60, L80, L99, L108, nI_add, nI_mul, gd_nI, nI_cl, nI_lt', nI_le', nI_eq', bd_sm, nF_app, bF_app, bI_n0, nI_m1e, nI_m1e', nI_m1l, nI_m1l', nI_m1t, nI_m1t', if_true, if_false, oI, oV]
      rw [if_neg (by omega)]
      by_cases hle : gG lk dl tp tl Ts m i ≤ gG lk dl tp tl Ts m q
      · rw [if_pos hle, amS_l rfl hle]
      · rw [if_neg hle, amS_g rfl hle]
theorem X_fav (htp : ∀ i, tp i < 8) (hlk : ∀ m, lk m < 8) (hdl : ∀ m, dl m < 8) (hmn : mn ≤ 108) (hq : ∀ i, i < mn → tl i < 108) (hT : ∀ i, i < mn → Ts i < 100000000) (hnm : nm ≤ 4) (hm : m < nm) : p_X4_favouriteOf (nI fl, nI lim, nI nr, nF len, nF tp, nF th, nF ta) (nI hr, nI a, wy, nI st, nI wr, nI sp, nI la, bF cl, nF nx, nF ct, bF fb, nF wm, bF rd) uT (nI mn, (fun i => nI (tl i / 9)), (fun i => nI (tl i % 9)), nF Ts, nF Hs) (nI nm, nF lk, nF dl) (nI m) = some (oI (am (gG lk dl tp tl Ts m) (fun _ => true) mn 0 none)) := by
  unfold p_X4_favouriteOf
  rw [X_mirror hnm hm, bd_sm, L0]
  exact X_fav_L htp hlk hdl hmn hq hT (by omega) mn 0 200 none (by omega) (by omega)
def gK (lk dl tp tl Ts : Nat → Nat) (mn m : Nat) : Nat := sm (gG lk dl tp tl Ts m) mn
theorem gK_le {m : Nat} : gK lk dl tp tl Ts mn m ≤ 10 * mn := sum_le mn (fun i => gr_le _ _ _ _ _)
theorem X_kind_L (htp : ∀ i, tp i < 8) (hlk : ∀ m, lk m < 8) (hdl : ∀ m, dl m < 8) (hmn : mn ≤ 108) (hq : ∀ i, i < mn → tl i < 108) (hT : ∀ i, i < mn → Ts i < 100000000) (hnm : nm ≤ 4) : ∀ n i fuel b, i + n = nm → n < fuel → p_X4_kindest_L6 fuel (nI fl, nI lim, nI nr, nF len, nF tp, nF th, nF ta) (nI hr, nI a, wy, nI st, nI wr, nI sp, nI la, bF cl, nF nx, nF ct, bF fb, nF wm, bF rd) uT (nI mn, (fun i => nI (tl i / 9)), (fun i => nI (tl i % 9)), nF Ts, nF Hs) (nI nm, nF lk, nF dl) (oI b) (oV (gK lk dl tp tl Ts mn) b) (nI i) = some (oI (am (gK lk dl tp tl Ts mn) (fun _ => true) n i b)) := by
  intro n
  induction n with
  | zero =>
    intro i fuel b hi hf
    obtain ⟨f, rfl⟩ : ∃ f, fuel = f + 1 := ⟨fuel - 1, by omega⟩
    rw [p_X4_kindest_L6]
    simp (disch := omega) only [↓Lm1, L0, L1, L2, L3, L4, L5, L7, L8, L9, L10, L12, L20, L21, L33, L40, L60, L80, L99, L108, nI_add, nI_mul, gd_nI, nI_cl, nI_lt', nI_le', nI_eq', bd_sm, nF_app, bF_app, bI_n0, nI_m1e, nI_m1e', nI_m1l, nI_m1l', nI_m1t, nI_m1t', if_true, if_false]
    rw [if_pos (by omega), am_0]
  | succ n ih =>
    intro i fuel b hi hf
    obtain ⟨f, rfl⟩ : ∃ f, fuel = f + 1 := ⟨fuel - 1, by omega⟩
    have ih2 := ih (i + 1) f (amS (gK lk dl tp tl Ts mn) (fun _ => true) i b) (by omega) (by omega)
    have g1 := gK_le (lk := lk) (dl := dl) (tp := tp) (tl := tl) (Ts := Ts) (mn := mn) (m := i)
    rw [am_s, ← ih2, p_X4_kindest_L6, X_sumG htp hlk hdl hmn hq hT (by omega)]
    rw [show sm (gG lk dl tp tl Ts i) mn = gK lk dl tp tl Ts mn i from rfl]
    cases b with
    | none =>
      simp (disch := omega) only [↓Lm1, L0, L1, L2, L3, L4, L5, L7, L8, L9, L10, L12, L20, L21, L33, L40, L60, L80, L99, L108, nI_add, nI_mul, gd_nI, nI_cl, nI_lt', nI_le', nI_eq', bd_sm, nF_app, bF_app, bI_n0, nI_m1e, nI_m1e', nI_m1l, nI_m1l', nI_m1t, nI_m1t', if_true, if_false, oI, oV]
      rw [if_neg (by omega), amS_n rfl]
    | some q =>
      have g2 := gK_le (lk := lk) (dl := dl) (tp := tp) (tl := tl) (Ts := Ts) (mn := mn) (m := q)
      simp (disch := omega) only [↓Lm1, L0, L1, L2, L3, L4, L5, L7, L8, L9, L10, L12, L20, L21, L33, L40, L60, L80, L99, L108, nI_add, nI_mul, gd_nI, nI_cl, nI_lt', nI_le', nI_eq', bd_sm, nF_app, bF_app, bI_n0, nI_m1e, nI_m1e', nI_m1l, nI_m1l', nI_m1t, nI_m1t', if_true, if_false, oI, oV]
      rw [if_neg (by omega)]
      by_cases hle : gK lk dl tp tl Ts mn i ≤ gK lk dl tp tl Ts mn q
      · rw [if_pos hle, amS_l rfl hle]
      · rw [if_neg hle, amS_g rfl hle]
theorem X_kind (htp : ∀ i, tp i < 8) (hlk : ∀ m, lk m < 8) (hdl : ∀ m, dl m < 8) (hmn : mn ≤ 108) (hq : ∀ i, i < mn → tl i < 108) (hT : ∀ i, i < mn → Ts i < 100000000) (hnm : nm ≤ 4) : p_X4_kindest (nI fl, nI lim, nI nr, nF len, nF tp, nF th, nF ta) (nI hr, nI a, wy, nI st, nI wr, nI sp, nI la, bF cl, nF nx, nF ct, bF fb, nF wm, bF rd) uT (nI mn, (fun i => nI (tl i / 9)), (fun i => nI (tl i % 9)), nF Ts, nF Hs) (nI nm, nF lk, nF dl) = some (oI (am (gK lk dl tp tl Ts mn) (fun _ => true) nm 0 none)) := by
  unfold p_X4_kindest
  rw [L0]
  exact X_kind_L htp hlk hdl hmn hq hT hnm nm 0 200 none (by omega) (by omega)
/-- readers -/
theorem X_reader (hn : nr ≤ 8) (hi : i < nr) : p_X4_needReader (nI fl, nI lim, nI nr, nF len, nF tp, nF th, nF ta) (nI hr, nI a, wy, nI st, nI wr, nI sp, nI la, bF cl, nF nx, nF ct, bF fb, nF wm, bF rd) uT (nI mn, (fun i => nI (tl i / 9)), (fun i => nI (tl i % 9)), nF Ts, nF Hs) (nI nm, nF lk, nF dl) (nI i) = some () := by
  unfold p_X4_needReader
  simp (disch := omega) only [↓Lm1, L0, L1, L2, L3, L4, L5, L7, L8, L9, L10, L12, L20, L21, L33, L40, L60, L80, L99, L108, nI_add, nI_mul, gd_nI, nI_cl, nI_lt', nI_le', nI_eq', bd_sm, nF_app, bF_app, bI_n0, nI_m1e, nI_m1e', nI_m1l, nI_m1l', nI_m1t, nI_m1t', if_true, if_false]
  rw [if_neg (by omega), if_pos hi]
theorem X_taste (hn : nr ≤ 8) (hi : i < nr) : p_X4_tasteOf (nI fl, nI lim, nI nr, nF len, nF tp, nF th, nF ta) (nI hr, nI a, wy, nI st, nI wr, nI sp, nI la, bF cl, nF nx, nF ct, bF fb, nF wm, bF rd) uT (nI mn, (fun i => nI (tl i / 9)), (fun i => nI (tl i % 9)), nF Ts, nF Hs) (nI nm, nF lk, nF dl) (nI i) = some (nI (ta i)) := by
  unfold p_X4_tasteOf
  rw [X_reader hn hi]
  simp (disch := omega) only [↓Lm1, L0, L1, L2, L3, L4, L5, L7, L8, L9, L10, L12, L20, L21, L33, L40, L60, L80, L99, L108, nI_add, nI_mul, gd_nI, nI_cl, nI_lt', nI_le', nI_eq', bd_sm, nF_app, bF_app, bI_n0, nI_m1e, nI_m1e', nI_m1l, nI_m1l', nI_m1t, nI_m1t', if_true, if_false]
def wm1 (wm : Nat → Nat) (rd : Nat → Bool) (i : Nat) : Nat := if rd i = true then wm i else 0
theorem X_warmth (hn : nr ≤ 8) (hi : i < nr) : p_X4_warmthOf (nI fl, nI lim, nI nr, nF len, nF tp, nF th, nF ta) (nI hr, nI a, wy, nI st, nI wr, nI sp, nI la, bF cl, nF nx, nF ct, bF fb, nF wm, bF rd) uT (nI mn, (fun i => nI (tl i / 9)), (fun i => nI (tl i % 9)), nF Ts, nF Hs) (nI nm, nF lk, nF dl) (nI i) = some (nI (wm1 wm rd i)) := by
  unfold p_X4_warmthOf wm1
  rw [X_reader hn hi]
  simp (disch := omega) only [↓Lm1, L0, L1, L2, L3, L4, L5, L7, L8, L9, L10, L12, L20, L21, L33, L40, L60, L80, L99, L108, nI_add, nI_mul, gd_nI, nI_cl, nI_lt', nI_le', nI_eq', bd_sm, nF_app, bF_app, bI_n0, nI_m1e, nI_m1e', nI_m1l, nI_m1l', nI_m1t, nI_m1t', if_true, if_false]
  cases rd i <;> simp
theorem X_isSub (hn : nr ≤ 8) (hi : i < nr) : p_X4_isSubscriber (nI fl, nI lim, nI nr, nF len, nF tp, nF th, nF ta) (nI hr, nI a, wy, nI st, nI wr, nI sp, nI la, bF cl, nF nx, nF ct, bF fb, nF wm, bF rd) uT (nI mn, (fun i => nI (tl i / 9)), (fun i => nI (tl i % 9)), nF Ts, nF Hs) (nI nm, nF lk, nF dl) (nI i) = some (bI (rd i)) := by
  unfold p_X4_isSubscriber
  rw [X_reader hn hi]
  simp (disch := omega) only [↓Lm1, L0, L1, L2, L3, L4, L5, L7, L8, L9, L10, L12, L20, L21, L33, L40, L60, L80, L99, L108, nI_add, nI_mul, gd_nI, nI_cl, nI_lt', nI_le', nI_eq', bd_sm, nF_app, bF_app, bI_n0, nI_m1e, nI_m1e', nI_m1l, nI_m1l', nI_m1t, nI_m1t', if_true, if_false]
  rw [gq_bI1]
theorem X_subs (hn : nr ≤ 8) : p_X4_subscribers (nI fl, nI lim, nI nr, nF len, nF tp, nF th, nF ta) (nI hr, nI a, wy, nI st, nI wr, nI sp, nI la, bF cl, nF nx, nF ct, bF fb, nF wm, bF rd) uT (nI mn, (fun i => nI (tl i / 9)), (fun i => nI (tl i % 9)), nF Ts, nF Hs) (nI nm, nF lk, nF dl) = some (nI (cnt rd nr)) := by
  unfold p_X4_subscribers
  rw [cC_subs hn, bd_sm]
theorem C_warm_L (hn : nr ≤ 8) (hw : ∀ r, wm r ≤ 99) : ∀ n i fuel b, i + n = nr → n < fuel → (∀ k, b = some k → k < i) → p_X0_findWarmest_L4 fuel (nI hr, nI a, wy, nI st, nI wr, nI sp, nI la, bF cl, nF nx, nF ct, bF fb, nF wm, bF rd) (nI fl, nI lim, nI nr, nF len, nF tp, nF th, nF ta) (oI b) (nI i) = some (oI (am wm rd n i b)) := by
  intro n
  induction n with
  | zero =>
    intro i fuel b hi hf hb
    obtain ⟨f, rfl⟩ : ∃ f, fuel = f + 1 := ⟨fuel - 1, by omega⟩
    rw [p_X0_findWarmest_L4]
    simp (disch := omega) only [↓Lm1, L0, L1, L2, L3, L4, L5, L7, L8, L9, L10, L12, L20, L21, L33, L40, L60, L80, L99, L108, nI_add, nI_mul, gd_nI, nI_cl, nI_lt', nI_le', nI_eq', bd_sm, nF_app, bF_app, bI_n0, nI_m1e, nI_m1e', nI_m1l, nI_m1l', nI_m1t, nI_m1t', if_true, if_false]
    rw [if_pos (by omega), am_0]
  | succ n ih =>
    intro i fuel b hi hf hb
    obtain ⟨f, rfl⟩ : ∃ f, fuel = f + 1 := ⟨fuel - 1, by omega⟩
    have hi2 := hw i
    have ih2 := ih (i + 1) f (amS wm rd i b) (by omega) (by omega) (amS_b hb)
    rw [am_s, ← ih2, p_X0_findWarmest_L4]
    simp (disch := omega) only [↓Lm1, L0, L1, L2, L3, L4, L5, L7, L8, L9, L10, L12, L20, L21, L33, L40, L60, L80, L99, L108, nI_add, nI_mul, gd_nI, nI_cl, nI_lt', nI_le', nI_eq', bd_sm, nF_app, bF_app, bI_n0, nI_m1e, nI_m1e', nI_m1l, nI_m1l', nI_m1t, nI_m1t', if_true, if_false, p_X0_findWarmest_J44]
    rw [if_neg (by omega)]
    cases hc : rd i
    · rw [if_pos rfl, amS_f hc]
    · rw [if_neg (by simp)]
      cases b with
      | none =>
        simp (disch := omega) only [↓Lm1, L0, L1, L2, L3, L4, L5, L7, L8, L9, L10, L12, L20, L21, L33, L40, L60, L80, L99, L108, nI_add, nI_mul, gd_nI, nI_cl, nI_lt', nI_le', nI_eq', bd_sm, nF_app, bF_app, bI_n0, nI_m1e, nI_m1e', nI_m1l, nI_m1l', nI_m1t, nI_m1t', if_true, if_false, oI]
        rw [amS_n hc]
      | some q =>
        have hq := hb q rfl
        have hq2 := hw q
        simp (disch := omega) only [↓Lm1, L0, L1, L2, L3, L4, L5, L7, L8, L9, L10, L12, L20, L21, L33, L40, L60, L80, L99, L108, nI_add, nI_mul, gd_nI, nI_cl, nI_lt', nI_le', nI_eq', bd_sm, nF_app, bF_app, bI_n0, nI_m1e, nI_m1e', nI_m1l, nI_m1l', nI_m1t, nI_m1t', if_true, if_false, oI]
        by_cases hle : wm i ≤ wm q
        · rw [if_pos hle, amS_l hc hle]
        · rw [if_neg hle, amS_g hc hle]
theorem X_warmest (hn : nr ≤ 8) (hw : ∀ r, wm r ≤ 99) : p_X4_warmest (nI fl, nI lim, nI nr, nF len, nF tp, nF th, nF ta) (nI hr, nI a, wy, nI st, nI wr, nI sp, nI la, bF cl, nF nx, nF ct, bF fb, nF wm, bF rd) uT (nI mn, (fun i => nI (tl i / 9)), (fun i => nI (tl i % 9)), nF Ts, nF Hs) (nI nm, nF lk, nF dl) = some (oI (am wm rd nr 0 none)) := by
  unfold p_X4_warmest p_X0_findWarmest
  have e := C_warm_L (hr := hr) (a := a) (wy := wy) (st := st) (wr := wr) (sp := sp) (la := la) (cl := cl) (nx := nx) (ct := ct) (fb := fb) (rd := rd) (fl := fl) (lim := lim) (len := len) (tp := tp) (th := th) (ta := ta) hn hw nr 0 200 none (by omega) (by omega) (fun k h => nomatch h)
  rw [show (-1 : Int32) = oI none from rfl, L0, e, bd_sm]
theorem X_mean (hn : nr ≤ 8) (hw : ∀ r, wm r ≤ 99) : p_X4_meanWarmth (nI fl, nI lim, nI nr, nF len, nF tp, nF th, nF ta) (nI hr, nI a, wy, nI st, nI wr, nI sp, nI la, bF cl, nF nx, nF ct, bF fb, nF wm, bF rd) uT (nI mn, (fun i => nI (tl i / 9)), (fun i => nI (tl i % 9)), nF Ts, nF Hs) (nI nm, nF lk, nF dl) = some (if cnt rd nr = 0 then FP.dconst0 else FP.ddiv (FP.i2d (nI (sm (wm1 wm rd) nr))) (FP.i2d (nI (cnt rd nr)))) := by
  have hc := cnt_le nr rd
  have hs : sm (wm1 wm rd) nr ≤ nr * 99 := by
    rw [← sm_c]
    exact sm_le nr (fun j _ => by unfold wm1; have := hw j; split <;> omega)
  have hs2 : nr * 99 ≤ 8 * 99 := Nat.mul_le_mul_right _ hn
  unfold p_X4_meanWarmth
  rw [cC_subs hn, bd_sm]
  by_cases h0 : cnt rd nr = 0
  · rw [if_pos h0, h0, if_pos (by decide +kernel)]
  · rw [if_neg h0, L0, if_neg (mt (nI_eq (by omega) (by omega)).mp h0), cC_warms hn, bd_sm]
    exact gq_in (okQ_1 (s := sm (wm1 wm rd) nr) (by omega) (by omega) (by omega))
end
