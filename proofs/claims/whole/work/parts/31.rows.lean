theorem bI_n0 (b : Bool) : (bI b = nI 0) = (b = false) := bI_0 b
theorem bI_n1 (b : Bool) : (bI b = nI 1) = (b = true) := bI_1 b
theorem nI_n1 {a : Nat} (h : a < 2147483648) : (nI a = -nI 1) = False := nI_m1 h
theorem nI_n1' {a : Nat} (h : a < 2147483648) : (-nI 1 = nI a) = False := eq_false fun e => of_eq_false (nI_m1 (a := a) h) e.symm
/-- the model's row of what hours change -/
def mkN (hr aa wy st wr sp cm rm mn : Int32) (nx ct wm : Nat → Int32) : Nat → Int32 := fun i =>
  if i = 0 then hr else if i = 1 then aa else if i = 2 then wy else if i = 3 then st else if i = 4 then wr else if i = 5 then sp else if i = 6 then cm else if i = 7 then rm else if i = 8 then mn
  else if i < 21 then nx (i - 9) else if i < 33 then ct (i - 21) else if i < 41 then wm (i - 33) else 0
section
variable {hr aa wy st wr sp cm rm mn v : Int32} {nx ct wm : Nat → Int32} {f : Nat}
theorem mkN_0 : mkN hr aa wy st wr sp cm rm mn nx ct wm 0 = hr := rfl
theorem mkN_1 : mkN hr aa wy st wr sp cm rm mn nx ct wm 1 = aa := rfl
theorem mkN_2 : mkN hr aa wy st wr sp cm rm mn nx ct wm 2 = wy := rfl
theorem mkN_3 : mkN hr aa wy st wr sp cm rm mn nx ct wm 3 = st := rfl
theorem mkN_4 : mkN hr aa wy st wr sp cm rm mn nx ct wm 4 = wr := rfl
theorem mkN_5 : mkN hr aa wy st wr sp cm rm mn nx ct wm 5 = sp := rfl
theorem mkN_6 : mkN hr aa wy st wr sp cm rm mn nx ct wm 6 = cm := rfl
theorem mkN_7 : mkN hr aa wy st wr sp cm rm mn nx ct wm 7 = rm := rfl
theorem mkN_8 : mkN hr aa wy st wr sp cm rm mn nx ct wm 8 = mn := rfl
theorem mkN_n (h : f < 12) : mkN hr aa wy st wr sp cm rm mn nx ct wm (9 + f) = nx f := by
  unfold mkN
  rw [if_neg (by omega), if_neg (by omega), if_neg (by omega), if_neg (by omega), if_neg (by omega), if_neg (by omega), if_neg (by omega), if_neg (by omega), if_neg (by omega), if_pos (by omega), Nat.add_sub_cancel_left]
theorem mkN_c (h : f < 12) : mkN hr aa wy st wr sp cm rm mn nx ct wm (21 + f) = ct f := by
  unfold mkN
  rw [if_neg (by omega), if_neg (by omega), if_neg (by omega), if_neg (by omega), if_neg (by omega), if_neg (by omega), if_neg (by omega), if_neg (by omega), if_neg (by omega), if_neg (by omega), if_pos (by omega), Nat.add_sub_cancel_left]
theorem mkN_w (h : f < 8) : mkN hr aa wy st wr sp cm rm mn nx ct wm (33 + f) = wm f := by
  unfold mkN
  rw [if_neg (by omega), if_neg (by omega), if_neg (by omega), if_neg (by omega), if_neg (by omega), if_neg (by omega), if_neg (by omega), if_neg (by omega), if_neg (by omega), if_neg (by omega), if_neg (by omega), if_pos (by omega), Nat.add_sub_cancel_left]
theorem upN_0 : upd (mkN hr aa wy st wr sp cm rm mn nx ct wm) 0 v = mkN v aa wy st wr sp cm rm mn nx ct wm := by
  funext i
  unfold upd mkN
  by_cases h : i = 0
  · subst h; rfl
  · rw [if_neg h]; simp only [h, if_false]
theorem upN_1 : upd (mkN hr aa wy st wr sp cm rm mn nx ct wm) 1 v = mkN hr v wy st wr sp cm rm mn nx ct wm := by
  funext i
  unfold upd mkN
  by_cases h : i = 1
  · subst h; rfl
  · rw [if_neg h]; simp only [h, if_false]
theorem upN_2 : upd (mkN hr aa wy st wr sp cm rm mn nx ct wm) 2 v = mkN hr aa v st wr sp cm rm mn nx ct wm := by
  funext i
  unfold upd mkN
  by_cases h : i = 2
  · subst h; rfl
  · rw [if_neg h]; simp only [h, if_false]
theorem upN_3 : upd (mkN hr aa wy st wr sp cm rm mn nx ct wm) 3 v = mkN hr aa wy v wr sp cm rm mn nx ct wm := by
  funext i
  unfold upd mkN
  by_cases h : i = 3
  · subst h; rfl
  · rw [if_neg h]; simp only [h, if_false]
theorem upN_4 : upd (mkN hr aa wy st wr sp cm rm mn nx ct wm) 4 v = mkN hr aa wy st v sp cm rm mn nx ct wm := by
  funext i
  unfold upd mkN
  by_cases h : i = 4
  · subst h; rfl
  · rw [if_neg h]; simp only [h, if_false]
theorem upN_5 : upd (mkN hr aa wy st wr sp cm rm mn nx ct wm) 5 v = mkN hr aa wy st wr v cm rm mn nx ct wm := by
  funext i
  unfold upd mkN
  by_cases h : i = 5
  · subst h; rfl
  · rw [if_neg h]; simp only [h, if_false]
theorem upN_6 : upd (mkN hr aa wy st wr sp cm rm mn nx ct wm) 6 v = mkN hr aa wy st wr sp v rm mn nx ct wm := by
  funext i
  unfold upd mkN
  by_cases h : i = 6
  · subst h; rfl
  · rw [if_neg h]; simp only [h, if_false]
theorem upN_7 : upd (mkN hr aa wy st wr sp cm rm mn nx ct wm) 7 v = mkN hr aa wy st wr sp cm v mn nx ct wm := by
  funext i
  unfold upd mkN
  by_cases h : i = 7
  · subst h; rfl
  · rw [if_neg h]; simp only [h, if_false]
theorem upN_8 : upd (mkN hr aa wy st wr sp cm rm mn nx ct wm) 8 v = mkN hr aa wy st wr sp cm rm v nx ct wm := by
  funext i
  unfold upd mkN
  by_cases h : i = 8
  · subst h; rfl
  · rw [if_neg h]; simp only [h, if_false]
theorem mkN_hi {i : Nat} (h : 9 ≤ i) : mkN hr aa wy st wr sp cm rm mn nx ct wm i = if i < 21 then nx (i - 9) else if i < 33 then ct (i - 21) else if i < 41 then wm (i - 33) else 0 := by
  unfold mkN
  rw [if_neg (by omega), if_neg (by omega), if_neg (by omega), if_neg (by omega), if_neg (by omega), if_neg (by omega), if_neg (by omega), if_neg (by omega), if_neg (by omega)]
theorem mkN_lo {nx' ct' wm' : Nat → Int32} {i : Nat} (h : i < 9) : mkN hr aa wy st wr sp cm rm mn nx ct wm i = mkN hr aa wy st wr sp cm rm mn nx' ct' wm' i := by
  rcases (show i = 0 ∨ i = 1 ∨ i = 2 ∨ i = 3 ∨ i = 4 ∨ i = 5 ∨ i = 6 ∨ i = 7 ∨ i = 8 by omega) with rfl | rfl | rfl | rfl | rfl | rfl | rfl | rfl | rfl <;> rfl
theorem upN_n (h : f < 12) : upd (mkN hr aa wy st wr sp cm rm mn nx ct wm) (9 + f) v = mkN hr aa wy st wr sp cm rm mn (upd nx f v) ct wm := by
  funext i
  by_cases h0 : i = 9 + f
  · subst h0
    rw [upd_at, mkN_n h, upd_at]
  · rw [upd_ne _ _ h0]
    by_cases h1 : i < 9
    · exact mkN_lo h1
    · rw [mkN_hi (by omega), mkN_hi (by omega)]
      by_cases h2 : i < 21
      · rw [if_pos h2, if_pos h2, upd_ne _ _ (by omega)]
      · rw [if_neg h2, if_neg h2]
theorem upN_c (h : f < 12) : upd (mkN hr aa wy st wr sp cm rm mn nx ct wm) (21 + f) v = mkN hr aa wy st wr sp cm rm mn nx (upd ct f v) wm := by
  funext i
  by_cases h0 : i = 21 + f
  · subst h0
    rw [upd_at, mkN_c h, upd_at]
  · rw [upd_ne _ _ h0]
    by_cases h1 : i < 9
    · exact mkN_lo h1
    · rw [mkN_hi (by omega), mkN_hi (by omega)]
      by_cases h2 : i < 21
      · rw [if_pos h2, if_pos h2]
      · rw [if_neg h2, if_neg h2]
        by_cases h3 : i < 33
        · rw [if_pos h3, if_pos h3, upd_ne _ _ (by omega)]
        · rw [if_neg h3, if_neg h3]
theorem upN_w (h : f < 8) : upd (mkN hr aa wy st wr sp cm rm mn nx ct wm) (33 + f) v = mkN hr aa wy st wr sp cm rm mn nx ct (upd wm f v) := by
  funext i
  by_cases h0 : i = 33 + f
  · subst h0
    rw [upd_at, mkN_w h, upd_at]
  · rw [upd_ne _ _ h0]
    by_cases h1 : i < 9
    · exact mkN_lo h1
    · rw [mkN_hi (by omega), mkN_hi (by omega)]
      by_cases h2 : i < 21
      · rw [if_pos h2, if_pos h2]
      · rw [if_neg h2, if_neg h2]
        by_cases h3 : i < 33
        · rw [if_pos h3, if_pos h3]
        · rw [if_neg h3, if_neg h3]
          by_cases h4 : i < 41
          · rw [if_pos h4, if_pos h4, upd_ne _ _ (by omega)]
          · rw [if_neg h4, if_neg h4]
end
