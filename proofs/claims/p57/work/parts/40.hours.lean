/-! THE PURE PART: hours that pass -/
theorem told_of {r : Int32} {g : tG} {fb : Nat → Bool} {A A' : tA} {B B' : tB} {M : tM} (hF0 : hF r g fb A B A' B') (h : iR g fb A B M) (h' : iR g fb A' B' M) (hh : A.1 < 1000000) : (r = m1 ∧ B' = B) ∨ ((r = m1) = False ∧ A'.2.1 < 12 ∧ p_X2_append (iI B) (nI A'.2.1) (nI (A'.2.2.2.2.2.2.2.2.1 A'.2.1) - nI 1) r (nI A.1) = some (iI B')) := by
  obtain ⟨fl, lim, nr, len, tp, th, ta⟩ := g
  obtain ⟨hr, a, wy, st, wr, sp, la, cl, nx, ct, wm, rd⟩ := A
  obtain ⟨hr', a', wy', st', wr', sp', la', cl', nx', ct', wm', rd'⟩ := A'
  obtain ⟨mn, tl, Ts, Hs⟩ := B
  obtain ⟨nm, lk, dl⟩ := M
  rcases hF0.2 with hn | ⟨hst, hs⟩
  · exact Or.inl ⟨hn.1, hn.2.2.2.2.1⟩
  · obtain ⟨e1, e2, e3, e4⟩ := hs
    rcases e4 with e4 | e4
    · exact Or.inl ⟨e4.1, e4.2.2.1⟩
    · right
      obtain ⟨q1, q2, q3, q4, q5, q6, q7, q8, q9⟩ := e4
      subst q9
      dsimp only at q1 q2 q3 q4 q5 q6 q7 q8
      have hx' : iRx fl lim nr len tp th ta fb hr' a' wy' st' wr' sp' la' cl' nx' ct' wm' rd' (mn + 1) (ud tl mn (9 * a' + nx a')) := h'.1
      have hmn := R_mn2 hx'
      have hx : iRx fl lim nr len tp th ta fb hr a wy st wr sp la cl nx ct wm rd mn tl := h.1
      have hfl : a' < fl ∧ fl ≤ 12 := ⟨hx'.2.2.2.2.2.2.2.2.2.1, hx'.1.2⟩
      have h9 : th (9 * a' + nx a') ≤ 9 := hx.2.2.2.2.2.2.1 _
      have hsp : sp ≤ 10 * hr := hx.2.2.2.2.2.2.2.2.2.2.2.2.2.1
      have hlen : len a' ≤ 9 := hx.2.2.2.1 _
      have hh : hr < 1000000 := hh
      refine ⟨?_, by show a' < 12; omega, ?_⟩
      · rw [q1]; exact nI_m1e (by omega)
      · show p_X2_append (nI mn, (fun i => nI (tl i / 9)), (fun i => nI (tl i % 9)), nF Ts, nF Hs) (nI a') (nI (nx' a') - nI 1) r (nI hr) = some (nI (mn + 1), (fun i => nI (ud tl mn (9 * a' + nx a') i / 9)), (fun i => nI (ud tl mn (9 * a' + nx a') i % 9)), nF (ud Ts mn (th (9 * a' + nx a') + sp)), nF (ud Hs mn hr))
        rw [q5, ud_at, nI_sub (by omega), show nx a' + 1 - 1 = nx a' by omega, q1]
        unfold p_X2_append
        simp (disch := omega) only [↓Lm1, L0, L1, L2, L3, L4, L5, L7, L8, L9, L10, L12, L20, L21, L33, L40, L60, L80, L99, L108, nI_add, nI_mul, gd_nI, nI_cl, nI_lt', nI_le', nI_eq', bd_sm, nF_app, bF_app, bI_n0, nI_m1e, nI_m1e', nI_m1l, nI_m1l', nI_m1t, nI_m1t', if_true, if_false, upd_nF]
        rw [if_pos (by omega)]
        congr 3
        · funext i
          unfold upd ud
          by_cases e : i = mn
          · rw [if_pos e, if_pos e, show (9 * a' + nx a') / 9 = a' by omega]
          · rw [if_neg e, if_neg e]
        · congr 1
          funext i
          unfold upd ud
          by_cases e : i = mn
          · rw [if_pos e, if_pos e, show (9 * a' + nx a') % 9 = nx a' by omega]
          · rw [if_neg e, if_neg e]
theorem iC_1 {fb : Nat → Bool} {A : tA} : (iC fb A).1 = nI A.1 := rfl
theorem iC_a {fb : Nat → Bool} {A : tA} : (iC fb A).2.1 = nI A.2.1 := rfl
theorem iC_nx {fb : Nat → Bool} {A : tA} : (iC fb A).2.2.2.2.2.2.2.2.1 = nF A.2.2.2.2.2.2.2.2.1 := rfl
theorem iI_1 {B : tB} : (iI B).1 = nI B.1 := rfl
theorem iS_mn {g : tG} {fb : Nat → Bool} {A : tA} {B : tB} {M : tM} {sd : Int32} : (iS g fb A B M sd).2.2.2.2.2.2.2.2.2.2.2.2.1.1 = B.1 := rfl
section
variable {g : tG} {fb : Nat → Bool} {M : tM} {uT : tX0} {N : Nat} {b : Int32}
theorem hours_step {A A' : tA} {B B' : tB} {r : Int32} {i f : Nat} (hF0 : hF r g fb A B A' B') (h : iR g fb A B M) (h' : iR g fb A' B' M) (hh : A.1 < 1000000) (e : p_X0_passHour (iC fb A) (iH g) = some (r, iC fb A')) (hi : i < N) (hN : N ≤ 60) : p_X4_passHours_L31 (f + 1) (iH g) (iC fb A) uT (iI B) (iM M) (nI N) b (nI i) = p_X4_passHours_L31 f (iH g) (iC fb A') uT (iI B') (iM M) (nI N) b (nI (i + 1)) := by
  rw [p_X4_passHours_L31]
  simp (disch := omega) only [↓Lm1, L0, L1, L2, L3, L4, L5, L7, L8, L9, L10, L12, L20, L21, L33, L40, L60, L80, L99, L108, nI_add, nI_mul, gd_nI, nI_cl, nI_lt', nI_le', nI_eq', bd_sm, nF_app, bF_app, bI_n0, nI_m1e, nI_m1e', nI_m1l, nI_m1l', nI_m1t, nI_m1t', if_true, if_false, iC_1, iC_a, iC_nx, e]
  rw [if_neg (by omega)]
  rcases told_of hF0 h h' hh with ⟨e1, e2⟩ | ⟨e1, e2, e3⟩
  · rw [if_pos e1, e2]
  · rw [if_neg (of_eq_false e1), gd_nI _ e2 (by omega), nI_cl (by omega), e3, bd_sm]
theorem hours_end {A : tA} {B : tB} {f : Nat} (hN : N ≤ 60) : p_X4_passHours_L31 (f + 1) (iH g) (iC fb A) uT (iI B) (iM M) (nI N) b (nI N) = some (nI B.1 - b, iC fb A, iI B) := by
  rw [p_X4_passHours_L31]
  simp (disch := omega) only [↓Lm1, L0, L1, L2, L3, L4, L5, L7, L8, L9, L10, L12, L20, L21, L33, L40, L60, L80, L99, L108, nI_add, nI_mul, gd_nI, nI_cl, nI_lt', nI_le', nI_eq', bd_sm, nF_app, bF_app, bI_n0, nI_m1e, nI_m1e', nI_m1l, nI_m1l', nI_m1t, nI_m1t', if_true, if_false, Nat.le_refl, iI_1]
theorem j_hours_L (hN : N ≤ 60) : ∀ k i f f2 A B sd, iR g fb A B M → A.1 + k < 1000000 → i + k = N → k < f → k < f2 → ∃ A' B' sd', p_X4_passHours_L31 f (iH g) (iC fb A) uT (iI B) (iM M) (nI N) b (nI i) = some (nI B'.1 - b, iC fb A', iI B') ∧ p_X5_behind_L8 f2 (iS g fb A B M sd) (nI N) b (nI i) = some (nI B'.1 - b, iS g fb A' B' M sd') ∧ iR g fb A' B' M ∧ A'.1 = A.1 + k := by
  intro k
  induction k with
  | zero =>
    intro i fuel fuel2 A B sd hR hh hi hf hf2
    obtain ⟨f, rfl⟩ : ∃ f, fuel = f + 1 := ⟨fuel - 1, by omega⟩
    obtain ⟨f2, rfl⟩ : ∃ f, fuel2 = f + 1 := ⟨fuel2 - 1, by omega⟩
    have : i = N := by omega
    subst this
    refine ⟨A, B, sd, hours_end hN, ?_, hR, rfl⟩
    rw [p_X5_behind_L8]
    simp (disch := omega) only [↓Lm1, L0, L1, L2, L3, L4, L5, L7, L8, L9, L10, L12, L20, L21, L33, L40, L60, L80, L99, L108, nI_add, nI_mul, gd_nI, nI_cl, nI_lt', nI_le', nI_eq', bd_sm, nF_app, bF_app, bI_n0, nI_m1e, nI_m1e', nI_m1l, nI_m1l', nI_m1t, nI_m1t', if_true, if_false, Nat.le_refl, iS_mn]
  | succ k ih =>
    intro i fuel fuel2 A B sd hR hh hi hf hf2
    obtain ⟨f, rfl⟩ : ∃ f, fuel = f + 1 := ⟨fuel - 1, by omega⟩
    obtain ⟨f2, rfl⟩ : ∃ f, fuel2 = f + 1 := ⟨fuel2 - 1, by omega⟩
    obtain ⟨r, A1, B1, sd1, e1, e2, e3, e4⟩ := j_hour (sd := sd) hR (by omega)
    have hA1 : A1.1 = A.1 + 1 := e4.1.1
    obtain ⟨A2, B2, sd2, g1, g2, g3, g4⟩ := ih (i + 1) f f2 A1 B1 sd1 e3 (by omega) (by omega) (by omega) (by omega)
    refine ⟨A2, B2, sd2, ?_, ?_, g3, by omega⟩
    · rw [hours_step e4 hR e3 (by omega) e1 (by omega) hN]
      exact g1
    · rw [p_X5_behind_L8]
      simp (disch := omega) only [↓Lm1, L0, L1, L2, L3, L4, L5, L7, L8, L9, L10, L12, L20, L21, L33, L40, L60, L80, L99, L108, nI_add, nI_mul, gd_nI, nI_cl, nI_lt', nI_le', nI_eq', bd_sm, nF_app, bF_app, bI_n0, nI_m1e, nI_m1e', nI_m1l, nI_m1l', nI_m1t, nI_m1t', if_true, if_false, e2]
      rw [if_neg (by omega)]
      exact g2
/-- hours, of class and law -/
theorem j_hours {A : tA} {B : tB} {sd : Int32} (hN1 : 1 ≤ N) (hN : N ≤ 60) (hR : iR g fb A B M) (hh : A.1 < 900000) : ∃ A' B' sd' r, p_X4_passHours (iH g) (iC fb A) uT (iI B) (iM M) (nI N) = some (r, iC fb A', iI B') ∧ p_X5_behind (iS g fb A B M sd) (nI N) = some (r, iS g fb A' B' M sd') ∧ iR g fb A' B' M ∧ A'.1 = A.1 + N := by
  obtain ⟨A', B', sd', e1, e2, e3, e4⟩ := j_hours_L (g := g) (fb := fb) (M := M) (uT := uT) (b := nI B.1) hN N 0 200 61 A B sd hR (by omega) (by omega) (by omega) (by omega)
  refine ⟨A', B', sd', nI B'.1 - nI B.1, ?_, ?_, e3, e4⟩
  · unfold p_X4_passHours
    simp (disch := omega) only [↓Lm1, L0, L1, L2, L3, L4, L5, L7, L8, L9, L10, L12, L20, L21, L33, L40, L60, L80, L99, L108, nI_add, nI_mul, gd_nI, nI_cl, nI_lt', nI_le', nI_eq', bd_sm, nF_app, bF_app, bI_n0, nI_m1e, nI_m1e', nI_m1l, nI_m1l', nI_m1t, nI_m1t', if_true, if_false, iI_1]
    rw [if_neg (by omega), if_pos hN]
    exact e1
  · unfold p_X5_behind
    rw [iS_mn, L0]
    exact e2
/-- one hour, of class and law, and what it did -/
theorem j_one {A : tA} {B : tB} {sd : Int32} (hR : iR g fb A B M) (hh : A.1 < 900000) : ∃ A' B' sd' r, p_X4_passHours (iH g) (iC fb A) uT (iI B) (iM M) (nI 1) = some (nI B'.1 - nI B.1, iC fb A', iI B') ∧ p_X5_pass (iS g fb A B M sd) = some (iS g fb A' B' M sd') ∧ iR g fb A' B' M ∧ hF r g fb A B A' B' := by
  obtain ⟨r, A1, B1, sd1, e1, e2, e3, e4⟩ := j_hour (sd := sd) hR (by omega)
  refine ⟨A1, B1, sd1, r, ?_, e2, e3, e4⟩
  unfold p_X4_passHours
  simp (disch := omega) only [↓Lm1, L0, L1, L2, L3, L4, L5, L7, L8, L9, L10, L12, L20, L21, L33, L40, L60, L80, L99, L108, nI_add, nI_mul, gd_nI, nI_cl, nI_lt', nI_le', nI_eq', bd_sm, nF_app, bF_app, bI_n0, nI_m1e, nI_m1e', nI_m1l, nI_m1l', nI_m1t, nI_m1t', if_true, if_false, iI_1]
  rw [if_neg (by omega), if_pos (by omega), show (200 : Nat) = 199 + 1 from rfl, hours_step e4 hR e3 (by omega) e1 (by omega) (by omega), show (199 : Nat) = 198 + 1 from rfl]
  exact hours_end (by omega)
end
