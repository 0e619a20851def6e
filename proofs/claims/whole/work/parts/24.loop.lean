def p_L_step (xs : Nat → Int32) (Lc : Nat) (i x : Int32) (uL : tX5) (uH : tX1) (uC : tX0) (uT : tX0) (uI : tX2) (uM : tX3) (fO : Nat → Int64) : Option (tX5 × tX1 × tX0 × tX0 × tX2 × tX3 × (Nat → Int64)) :=
  if x.toInt < 0 ∨ 53 < x.toInt then some (uL, uH, uC, uT, uI, uM, fO)
  else if x = 0 then p_L_C0 xs Lc i uL uH uC uT uI uM fO
  else if x = 1 then p_L_C1 xs Lc i uL uH uC uT uI uM fO
  else if x = 2 then p_L_C2 xs Lc i uL uH uC uT uI uM fO
  else if x = 3 then p_L_C3 xs Lc i uL uH uC uT uI uM fO
  else if x = 4 then p_L_C4 xs Lc i uL uH uC uT uI uM fO
  else if x = 5 then p_L_C5 xs Lc i uL uH uC uT uI uM fO
  else if x = 6 then p_L_C6 xs Lc i uL uH uC uT uI uM fO
  else if x = 7 then p_L_C7 xs Lc i uL uH uC uT uI uM fO
  else if x = 8 then p_L_C8 xs Lc i uL uH uC uT uI uM fO
  else if x = 9 then p_L_C9 xs Lc i uL uH uC uT uI uM fO
  else if x = 10 then p_L_C10 xs Lc i uL uH uC uT uI uM fO
  else if x = 11 then p_L_C11 xs Lc i uL uH uC uT uI uM fO
  else if x = 12 then p_L_C12 xs Lc i uL uH uC uT uI uM fO
  else if x = 13 then p_L_C13 xs Lc i uL uH uC uT uI uM fO
  else if x = 14 then p_L_C14 xs Lc i uL uH uC uT uI uM fO
  else if x = 15 then p_L_C15 xs Lc i uL uH uC uT uI uM fO
  else if x = 16 then p_L_C16 xs Lc i uL uH uC uT uI uM fO
  else if x = 17 then p_L_C17 xs Lc i uL uH uC uT uI uM fO
  else if x = 18 then p_L_C18 xs Lc i uL uH uC uT uI uM fO
  else if x = 19 then p_L_C19 xs Lc i uL uH uC uT uI uM fO
  else if x = 20 then p_L_C20 xs Lc i uL uH uC uT uI uM fO
  else if x = 21 then p_L_C21 xs Lc i uL uH uC uT uI uM fO
  else if x = 22 then p_L_C22 xs Lc i uL uH uC uT uI uM fO
  else if x = 23 then p_L_C23 xs Lc i uL uH uC uT uI uM fO
  else if x = 24 then p_L_C24 xs Lc i uL uH uC uT uI uM fO
  else if x = 25 then p_L_C25 xs Lc i uL uH uC uT uI uM fO
  else if x = 26 then p_L_C26 xs Lc i uL uH uC uT uI uM fO
  else if x = 27 then p_L_C27 xs Lc i uL uH uC uT uI uM fO
  else if x = 28 then p_L_C28 xs Lc i uL uH uC uT uI uM fO
  else if x = 29 then p_L_C29 xs Lc i uL uH uC uT uI uM fO
  else if x = 30 then p_L_C30 xs Lc i uL uH uC uT uI uM fO
  else if x = 31 then p_L_C31 xs Lc i uL uH uC uT uI uM fO
  else if x = 32 then p_L_C32 xs Lc i uL uH uC uT uI uM fO
  else if x = 33 then p_L_C33 xs Lc i uL uH uC uT uI uM fO
  else if x = 34 then p_L_C34 xs Lc i uL uH uC uT uI uM fO
  else if x = 35 then p_L_C35 xs Lc i uL uH uC uT uI uM fO
  else if x = 36 then p_L_C36 xs Lc i uL uH uC uT uI uM fO
  else if x = 37 then p_L_C37 xs Lc i uL uH uC uT uI uM fO
  else if x = 38 then p_L_C38 xs Lc i uL uH uC uT uI uM fO
  else if x = 39 then p_L_C39 xs Lc i uL uH uC uT uI uM fO
  else if x = 40 then p_L_C40 xs Lc i uL uH uC uT uI uM fO
  else if x = 41 then p_L_C41 xs Lc i uL uH uC uT uI uM fO
  else if x = 42 then p_L_C42 xs Lc i uL uH uC uT uI uM fO
  else if x = 43 then p_L_C43 xs Lc i uL uH uC uT uI uM fO
  else if x = 44 then p_L_C44 xs Lc i uL uH uC uT uI uM fO
  else if x = 45 then p_L_C45 xs Lc i uL uH uC uT uI uM fO
  else if x = 46 then p_L_C46 xs Lc i uL uH uC uT uI uM fO
  else if x = 47 then p_L_C47 xs Lc i uL uH uC uT uI uM fO
  else if x = 48 then p_L_C48 xs Lc i uL uH uC uT uI uM fO
  else if x = 49 then p_L_C49 xs Lc i uL uH uC uT uI uM fO
  else if x = 50 then p_L_C50 xs Lc i uL uH uC uT uI uM fO
  else if x = 51 then p_L_C51 xs Lc i uL uH uC uT uI uM fO
  else if x = 52 then p_L_C52 xs Lc i uL uH uC uT uI uM fO
  else if x = 53 then p_L_C53 xs Lc i uL uH uC uT uI uM fO
  else none
set_option maxHeartbeats 4000000 in
set_option maxRecDepth 100000 in
theorem c_L_step {p : Program} {e : Env} {s : State} {m : MethodId} {below : List Frame} {meth : Method} {c : Code} (l : Launch) (hlt : l.stackTraces = false) (dC : Nat → ClassId) (dI : Nat → Nat → Nat) (cI cZ cJ : ClassId) (sa : Nat → Nat) (l0 l4 l5 l6 l8 l10 l11 l12 l13 l14 l15 l16 n0 h0 h3 h4 h5 h6 c0 c8 c9 c10 c11 c12 c13 t0 t8 t9 t10 t11 t12 t13 i0 i1 i2 i3 i4 m0 m1 m2 o0 : Nat) {b Lc : Nat} {xs : Nat → Int32} (S : CallFix p m c cL_law 9 s #[Value.ref b] lw_all RL) (hK : va_K (dC, dI) vwCl (TYJ cI cZ cJ) s) (hX : xb (fun q : Nat => s.heap.size ≤ q) sa s) (hxn : xn s) (hXs : va_X b Lc xs s s.heap) (hbl : b < s.heap.size) (i x : Int32) (uL : tX5) (uH : tX1) (uC : tX0) (uT : tX0) (uI : tX2) (uM : tX3) (fO : Nat → Int64) {z : (tX5 × tX1 × tX0 × tX0 × tX2 × tX3 × (Nat → Int64))} (hok : p_L_step xs Lc i x uL uH uC uT uI uM fO = some z) {Q : State → Prop} {kc sc : Nat} (hkc : kc + 565 ≤ 601024) (hsc : sc + 3393 ≤ 7293034) (H : Heap) (locs : List Loc) (hP : va_P (dC, dI) vwCl (wX5 cI cZ l0 l4 l5 l6 l8 l10 l11 l12 l13 l14 l15 l16 uL ++ (wN cI cZ n0 h0 h3 h4 h5 h6 c0 c8 c9 c10 c11 c12 c13 t0 t8 t9 t10 t11 t12 t13 i0 i1 i2 i3 i4 m0 m1 m2 uH uC uT uI uM ++ [(o0, .inl (cJ, 1, .inr (.inl fO)))])) H) (hD : va_D (fun q : Nat => s.heap.size ≤ q) (wX5 cI cZ l0 l4 l5 l6 l8 l10 l11 l12 l13 l14 l15 l16 uL ++ (wN cI cZ n0 h0 h3 h4 h5 h6 c0 c8 c9 c10 c11 c12 c13 t0 t8 t9 t10 t11 t12 t13 i0 i1 i2 i3 i4 m0 m1 m2 uH uC uT uI uM ++ [(o0, .inl (cJ, 1, .inr (.inl fO)))]))) (hS : va_S (fun q : Nat => s.heap.size ≤ q) s.heap H locs) (ls : Array Slot) (hl : lv_has ls 9 [(0, .ref b), (1, .ref n0), (2, .ref l0), (3, .ref o0), (4, .int i)])
    (hk : ∀ (kc' sc' : Nat) (H : Heap) (locs : List Loc), kc' ≤ kc + 565 → sc' ≤ sc + 3393 → va_P (dC, dI) vwCl (wX5 cI cZ l0 l4 l5 l6 l8 l10 l11 l12 l13 l14 l15 l16 z.1 ++ (wN cI cZ n0 h0 h3 h4 h5 h6 c0 c8 c9 c10 c11 c12 c13 t0 t8 t9 t10 t11 t12 t13 i0 i1 i2 i3 i4 m0 m1 m2 z.2.1 z.2.2.1 z.2.2.2.1 z.2.2.2.2.1 z.2.2.2.2.2.1 ++ [(o0, .inl (cJ, 1, .inr (.inl z.2.2.2.2.2.2)))])) H → va_D (fun q : Nat => s.heap.size ≤ q) (wX5 cI cZ l0 l4 l5 l6 l8 l10 l11 l12 l13 l14 l15 l16 z.1 ++ (wN cI cZ n0 h0 h3 h4 h5 h6 c0 c8 c9 c10 c11 c12 c13 t0 t8 t9 t10 t11 t12 t13 i0 i1 i2 i3 i4 m0 m1 m2 z.2.1 z.2.2.1 z.2.2.2.1 z.2.2.2.2.1 z.2.2.2.2.2.1 ++ [(o0, .inl (cJ, 1, .inr (.inl z.2.2.2.2.2.2)))])) → va_S (fun q : Nat => s.heap.size ≤ q) s.heap H locs → ∀ (ls : Array Slot), lv_has ls 9 [(0, .ref b), (1, .ref n0), (2, .ref l0), (3, .ref o0), (4, .int i)] → W p l e room_1 s m #[Value.ref b] below meth c H locs kc' sc' Q (F0 m 2451 ls [])) : W p l e room_1 s m #[Value.ref b] below meth c H locs kc sc Q (F0 m 39 ls [.int x]) := by
  have hx := S.1
  have hb := S.2.1
  unfold p_L_step at hok
  by_cases e : x.toInt < 0 ∨ 53 < x.toInt
  · rw [if_pos e] at hok
    have hok := Option.some.inj hok
    subst hok
    exact lv_tableOut (tgt := 2451) hx hb dL_law_39 e rfl (hk _ _ _ _ (by omega) (by omega) hP hD hS _ hl)
  · rw [if_neg e] at hok
    have h1 : ¬ x.toInt < 0 := fun q => e (Or.inl q)
    have h2 : ¬ 53 < x.toInt := fun q => e (Or.inr q)
    clear e
    by_cases e : x = 0
    · rw [if_pos e] at hok
      subst e
      exact lv_tableIn (off := 229) (tgt := 268) hx hb dL_law_39 h1 h2 rfl rfl (c_L_C0 l hlt dC dI cI cZ cJ sa l0 l4 l5 l6 l8 l10 l11 l12 l13 l14 l15 l16 n0 h0 h3 h4 h5 h6 c0 c8 c9 c10 c11 c12 c13 t0 t8 t9 t10 t11 t12 t13 i0 i1 i2 i3 i4 m0 m1 m2 o0 S hK hX hxn hXs hbl i uL uH uC uT uI uM fO hok hkc hsc H locs hP hD hS ls hl hk)
    rw [if_neg e] at hok
    clear e
    by_cases e : x = 1
    · rw [if_pos e] at hok
      subst e
      exact lv_tableIn (off := 285) (tgt := 324) hx hb dL_law_39 h1 h2 rfl rfl (c_L_C1 l hlt dC dI cI cZ cJ sa l0 l4 l5 l6 l8 l10 l11 l12 l13 l14 l15 l16 n0 h0 h3 h4 h5 h6 c0 c8 c9 c10 c11 c12 c13 t0 t8 t9 t10 t11 t12 t13 i0 i1 i2 i3 i4 m0 m1 m2 o0 S hK hX hxn hXs hbl i uL uH uC uT uI uM fO hok hkc hsc H locs hP hD hS ls hl hk)
    rw [if_neg e] at hok
    clear e
    by_cases e : x = 2
    · rw [if_pos e] at hok
      subst e
      exact lv_tableIn (off := 365) (tgt := 404) hx hb dL_law_39 h1 h2 rfl rfl (c_L_C2 l hlt dC dI cI cZ cJ sa l0 l4 l5 l6 l8 l10 l11 l12 l13 l14 l15 l16 n0 h0 h3 h4 h5 h6 c0 c8 c9 c10 c11 c12 c13 t0 t8 t9 t10 t11 t12 t13 i0 i1 i2 i3 i4 m0 m1 m2 o0 S hK hX hxn hXs hbl i uL uH uC uT uI uM fO hok hkc hsc H locs hP hD hS ls hl hk)
    rw [if_neg e] at hok
    clear e
    by_cases e : x = 3
    · rw [if_pos e] at hok
      subst e
      exact lv_tableIn (off := 428) (tgt := 467) hx hb dL_law_39 h1 h2 rfl rfl (c_L_C3 l hlt dC dI cI cZ cJ sa l0 l4 l5 l6 l8 l10 l11 l12 l13 l14 l15 l16 n0 h0 h3 h4 h5 h6 c0 c8 c9 c10 c11 c12 c13 t0 t8 t9 t10 t11 t12 t13 i0 i1 i2 i3 i4 m0 m1 m2 o0 S hK hX hxn hXs hbl i uL uH uC uT uI uM fO hok hkc hsc H locs hP hD hS ls hl hk)
    rw [if_neg e] at hok
    clear e
    by_cases e : x = 4
    · rw [if_pos e] at hok
      subst e
      exact lv_tableIn (off := 484) (tgt := 523) hx hb dL_law_39 h1 h2 rfl rfl (c_L_C4 l hlt dC dI cI cZ cJ sa l0 l4 l5 l6 l8 l10 l11 l12 l13 l14 l15 l16 n0 h0 h3 h4 h5 h6 c0 c8 c9 c10 c11 c12 c13 t0 t8 t9 t10 t11 t12 t13 i0 i1 i2 i3 i4 m0 m1 m2 o0 S hK hX hxn hXs hbl i uL uH uC uT uI uM fO hok hkc hsc H locs hP hD hS ls hl hk)
    rw [if_neg e] at hok
    clear e
    by_cases e : x = 5
    · rw [if_pos e] at hok
      subst e
      exact lv_tableIn (off := 552) (tgt := 591) hx hb dL_law_39 h1 h2 rfl rfl (c_L_C5 l hlt dC dI cI cZ cJ sa l0 l4 l5 l6 l8 l10 l11 l12 l13 l14 l15 l16 n0 h0 h3 h4 h5 h6 c0 c8 c9 c10 c11 c12 c13 t0 t8 t9 t10 t11 t12 t13 i0 i1 i2 i3 i4 m0 m1 m2 o0 S hK hX hxn hXs hbl i uL uH uC uT uI uM fO hok hkc hsc H locs hP hD hS ls hl hk)
    rw [if_neg e] at hok
    clear e
    by_cases e : x = 6
    · rw [if_pos e] at hok
      subst e
      exact lv_tableIn (off := 620) (tgt := 659) hx hb dL_law_39 h1 h2 rfl rfl (c_L_C6 l hlt dC dI cI cZ cJ sa l0 l4 l5 l6 l8 l10 l11 l12 l13 l14 l15 l16 n0 h0 h3 h4 h5 h6 c0 c8 c9 c10 c11 c12 c13 t0 t8 t9 t10 t11 t12 t13 i0 i1 i2 i3 i4 m0 m1 m2 o0 S hK hX hxn hXs hbl i uL uH uC uT uI uM fO hok hkc hsc H locs hP hD hS ls hl hk)
    rw [if_neg e] at hok
    clear e
    by_cases e : x = 7
    · rw [if_pos e] at hok
      subst e
      exact lv_tableIn (off := 683) (tgt := 722) hx hb dL_law_39 h1 h2 rfl rfl (c_L_C7 l hlt dC dI cI cZ cJ sa l0 l4 l5 l6 l8 l10 l11 l12 l13 l14 l15 l16 n0 h0 h3 h4 h5 h6 c0 c8 c9 c10 c11 c12 c13 t0 t8 t9 t10 t11 t12 t13 i0 i1 i2 i3 i4 m0 m1 m2 o0 S hK hX hxn hXs hbl i uL uH uC uT uI uM fO hok hkc hsc H locs hP hD hS ls hl hk)
    rw [if_neg e] at hok
    clear e
    by_cases e : x = 8
    · rw [if_pos e] at hok
      subst e
      exact lv_tableIn (off := 696) (tgt := 735) hx hb dL_law_39 h1 h2 rfl rfl (c_L_C8 l hlt dC dI cI cZ cJ sa l0 l4 l5 l6 l8 l10 l11 l12 l13 l14 l15 l16 n0 h0 h3 h4 h5 h6 c0 c8 c9 c10 c11 c12 c13 t0 t8 t9 t10 t11 t12 t13 i0 i1 i2 i3 i4 m0 m1 m2 o0 S hK hX hxn hXs hbl i uL uH uC uT uI uM fO hok hkc hsc H locs hP hD hS ls hl hk)
    rw [if_neg e] at hok
    clear e
    by_cases e : x = 9
    · rw [if_pos e] at hok
      subst e
      exact lv_tableIn (off := 752) (tgt := 791) hx hb dL_law_39 h1 h2 rfl rfl (c_L_C9 l hlt dC dI cI cZ cJ sa l0 l4 l5 l6 l8 l10 l11 l12 l13 l14 l15 l16 n0 h0 h3 h4 h5 h6 c0 c8 c9 c10 c11 c12 c13 t0 t8 t9 t10 t11 t12 t13 i0 i1 i2 i3 i4 m0 m1 m2 o0 S hK hX hxn hXs hbl i uL uH uC uT uI uM fO hok hkc hsc H locs hP hD hS ls hl hk)
    rw [if_neg e] at hok
    clear e
    by_cases e : x = 10
    · rw [if_pos e] at hok
      subst e
      exact lv_tableIn (off := 765) (tgt := 804) hx hb dL_law_39 h1 h2 rfl rfl (c_L_C10 l hlt dC dI cI cZ cJ sa l0 l4 l5 l6 l8 l10 l11 l12 l13 l14 l15 l16 n0 h0 h3 h4 h5 h6 c0 c8 c9 c10 c11 c12 c13 t0 t8 t9 t10 t11 t12 t13 i0 i1 i2 i3 i4 m0 m1 m2 o0 S hK hX hxn hXs hbl i uL uH uC uT uI uM fO hok hkc hsc H locs hP hD hS ls hl hk)
    rw [if_neg e] at hok
    clear e
    by_cases e : x = 11
    · rw [if_pos e] at hok
      subst e
      exact lv_tableIn (off := 778) (tgt := 817) hx hb dL_law_39 h1 h2 rfl rfl (c_L_C11 l hlt dC dI cI cZ cJ sa l0 l4 l5 l6 l8 l10 l11 l12 l13 l14 l15 l16 n0 h0 h3 h4 h5 h6 c0 c8 c9 c10 c11 c12 c13 t0 t8 t9 t10 t11 t12 t13 i0 i1 i2 i3 i4 m0 m1 m2 o0 S hK hX hxn hXs hbl i uL uH uC uT uI uM fO hok hkc hsc H locs hP hD hS ls hl hk)
    rw [if_neg e] at hok
    clear e
    by_cases e : x = 12
    · rw [if_pos e] at hok
      subst e
      exact lv_tableIn (off := 791) (tgt := 830) hx hb dL_law_39 h1 h2 rfl rfl (c_L_C12 l hlt dC dI cI cZ cJ sa l0 l4 l5 l6 l8 l10 l11 l12 l13 l14 l15 l16 n0 h0 h3 h4 h5 h6 c0 c8 c9 c10 c11 c12 c13 t0 t8 t9 t10 t11 t12 t13 i0 i1 i2 i3 i4 m0 m1 m2 o0 S hK hX hxn hXs hbl i uL uH uC uT uI uM fO hok hkc hsc H locs hP hD hS ls hl hk)
    rw [if_neg e] at hok
    clear e
    by_cases e : x = 13
    · rw [if_pos e] at hok
      subst e
      exact lv_tableIn (off := 804) (tgt := 843) hx hb dL_law_39 h1 h2 rfl rfl (c_L_C13 l hlt dC dI cI cZ cJ sa l0 l4 l5 l6 l8 l10 l11 l12 l13 l14 l15 l16 n0 h0 h3 h4 h5 h6 c0 c8 c9 c10 c11 c12 c13 t0 t8 t9 t10 t11 t12 t13 i0 i1 i2 i3 i4 m0 m1 m2 o0 S hK hX hxn hXs hbl i uL uH uC uT uI uM fO hok hkc hsc H locs hP hD hS ls hl hk)
    rw [if_neg e] at hok
    clear e
    by_cases e : x = 14
    · rw [if_pos e] at hok
      subst e
      exact lv_tableIn (off := 867) (tgt := 906) hx hb dL_law_39 h1 h2 rfl rfl (c_L_C14 l hlt dC dI cI cZ cJ sa l0 l4 l5 l6 l8 l10 l11 l12 l13 l14 l15 l16 n0 h0 h3 h4 h5 h6 c0 c8 c9 c10 c11 c12 c13 t0 t8 t9 t10 t11 t12 t13 i0 i1 i2 i3 i4 m0 m1 m2 o0 S hK hX hxn hXs hbl i uL uH uC uT uI uM fO hok hkc hsc H locs hP hD hS ls hl hk)
    rw [if_neg e] at hok
    clear e
    by_cases e : x = 15
    · rw [if_pos e] at hok
      subst e
      exact lv_tableIn (off := 880) (tgt := 919) hx hb dL_law_39 h1 h2 rfl rfl (c_L_C15 l hlt dC dI cI cZ cJ sa l0 l4 l5 l6 l8 l10 l11 l12 l13 l14 l15 l16 n0 h0 h3 h4 h5 h6 c0 c8 c9 c10 c11 c12 c13 t0 t8 t9 t10 t11 t12 t13 i0 i1 i2 i3 i4 m0 m1 m2 o0 S hK hX hxn hXs hbl i uL uH uC uT uI uM fO hok hkc hsc H locs hP hD hS ls hl hk)
    rw [if_neg e] at hok
    clear e
    by_cases e : x = 16
    · rw [if_pos e] at hok
      subst e
      exact lv_tableIn (off := 893) (tgt := 932) hx hb dL_law_39 h1 h2 rfl rfl (c_L_C16 l hlt dC dI cI cZ cJ sa l0 l4 l5 l6 l8 l10 l11 l12 l13 l14 l15 l16 n0 h0 h3 h4 h5 h6 c0 c8 c9 c10 c11 c12 c13 t0 t8 t9 t10 t11 t12 t13 i0 i1 i2 i3 i4 m0 m1 m2 o0 S hK hX hxn hXs hbl i uL uH uC uT uI uM fO hok hkc hsc H locs hP hD hS ls hl hk)
    rw [if_neg e] at hok
    clear e
    by_cases e : x = 17
    · rw [if_pos e] at hok
      subst e
      exact lv_tableIn (off := 906) (tgt := 945) hx hb dL_law_39 h1 h2 rfl rfl (c_L_C17 l hlt dC dI cI cZ cJ sa l0 l4 l5 l6 l8 l10 l11 l12 l13 l14 l15 l16 n0 h0 h3 h4 h5 h6 c0 c8 c9 c10 c11 c12 c13 t0 t8 t9 t10 t11 t12 t13 i0 i1 i2 i3 i4 m0 m1 m2 o0 S hK hX hxn hXs hbl i uL uH uC uT uI uM fO hok hkc hsc H locs hP hD hS ls hl hk)
    rw [if_neg e] at hok
    clear e
    by_cases e : x = 18
    · rw [if_pos e] at hok
      subst e
      exact lv_tableIn (off := 919) (tgt := 958) hx hb dL_law_39 h1 h2 rfl rfl (c_L_C18 l hlt dC dI cI cZ cJ sa l0 l4 l5 l6 l8 l10 l11 l12 l13 l14 l15 l16 n0 h0 h3 h4 h5 h6 c0 c8 c9 c10 c11 c12 c13 t0 t8 t9 t10 t11 t12 t13 i0 i1 i2 i3 i4 m0 m1 m2 o0 S hK hX hxn hXs hbl i uL uH uC uT uI uM fO hok hkc hsc H locs hP hD hS ls hl hk)
    rw [if_neg e] at hok
    clear e
    by_cases e : x = 19
    · rw [if_pos e] at hok
      subst e
      exact lv_tableIn (off := 932) (tgt := 971) hx hb dL_law_39 h1 h2 rfl rfl (c_L_C19 l hlt dC dI cI cZ cJ sa l0 l4 l5 l6 l8 l10 l11 l12 l13 l14 l15 l16 n0 h0 h3 h4 h5 h6 c0 c8 c9 c10 c11 c12 c13 t0 t8 t9 t10 t11 t12 t13 i0 i1 i2 i3 i4 m0 m1 m2 o0 S hK hX hxn hXs hbl i uL uH uC uT uI uM fO hok hkc hsc H locs hP hD hS ls hl hk)
    rw [if_neg e] at hok
    clear e
    by_cases e : x = 20
    · rw [if_pos e] at hok
      subst e
      exact lv_tableIn (off := 988) (tgt := 1027) hx hb dL_law_39 h1 h2 rfl rfl (c_L_C20 l hlt dC dI cI cZ cJ sa l0 l4 l5 l6 l8 l10 l11 l12 l13 l14 l15 l16 n0 h0 h3 h4 h5 h6 c0 c8 c9 c10 c11 c12 c13 t0 t8 t9 t10 t11 t12 t13 i0 i1 i2 i3 i4 m0 m1 m2 o0 S hK hX hxn hXs hbl i uL uH uC uT uI uM fO hok hkc hsc H locs hP hD hS ls hl hk)
    rw [if_neg e] at hok
    clear e
    by_cases e : x = 21
    · rw [if_pos e] at hok
      subst e
      exact lv_tableIn (off := 1044) (tgt := 1083) hx hb dL_law_39 h1 h2 rfl rfl (c_L_C21 l hlt dC dI cI cZ cJ sa l0 l4 l5 l6 l8 l10 l11 l12 l13 l14 l15 l16 n0 h0 h3 h4 h5 h6 c0 c8 c9 c10 c11 c12 c13 t0 t8 t9 t10 t11 t12 t13 i0 i1 i2 i3 i4 m0 m1 m2 o0 S hK hX hxn hXs hbl i uL uH uC uT uI uM fO hok hkc hsc H locs hP hD hS ls hl hk)
    rw [if_neg e] at hok
    clear e
    by_cases e : x = 22
    · rw [if_pos e] at hok
      subst e
      exact lv_tableIn (off := 1112) (tgt := 1151) hx hb dL_law_39 h1 h2 rfl rfl (c_L_C22 l hlt dC dI cI cZ cJ sa l0 l4 l5 l6 l8 l10 l11 l12 l13 l14 l15 l16 n0 h0 h3 h4 h5 h6 c0 c8 c9 c10 c11 c12 c13 t0 t8 t9 t10 t11 t12 t13 i0 i1 i2 i3 i4 m0 m1 m2 o0 S hK hX hxn hXs hbl i uL uH uC uT uI uM fO hok hkc hsc H locs hP hD hS ls hl hk)
    rw [if_neg e] at hok
    clear e
    by_cases e : x = 23
    · rw [if_pos e] at hok
      subst e
      exact lv_tableIn (off := 1180) (tgt := 1219) hx hb dL_law_39 h1 h2 rfl rfl (c_L_C23 l hlt dC dI cI cZ cJ sa l0 l4 l5 l6 l8 l10 l11 l12 l13 l14 l15 l16 n0 h0 h3 h4 h5 h6 c0 c8 c9 c10 c11 c12 c13 t0 t8 t9 t10 t11 t12 t13 i0 i1 i2 i3 i4 m0 m1 m2 o0 S hK hX hxn hXs hbl i uL uH uC uT uI uM fO hok hkc hsc H locs hP hD hS ls hl hk)
    rw [if_neg e] at hok
    clear e
    by_cases e : x = 24
    · rw [if_pos e] at hok
      subst e
      exact lv_tableIn (off := 1236) (tgt := 1275) hx hb dL_law_39 h1 h2 rfl rfl (c_L_C24 l hlt dC dI cI cZ cJ sa l0 l4 l5 l6 l8 l10 l11 l12 l13 l14 l15 l16 n0 h0 h3 h4 h5 h6 c0 c8 c9 c10 c11 c12 c13 t0 t8 t9 t10 t11 t12 t13 i0 i1 i2 i3 i4 m0 m1 m2 o0 S hK hX hxn hXs hbl i uL uH uC uT uI uM fO hok hkc hsc H locs hP hD hS ls hl hk)
    rw [if_neg e] at hok
    clear e
    by_cases e : x = 25
    · rw [if_pos e] at hok
      subst e
      exact lv_tableIn (off := 1299) (tgt := 1338) hx hb dL_law_39 h1 h2 rfl rfl (c_L_C25 l hlt dC dI cI cZ cJ sa l0 l4 l5 l6 l8 l10 l11 l12 l13 l14 l15 l16 n0 h0 h3 h4 h5 h6 c0 c8 c9 c10 c11 c12 c13 t0 t8 t9 t10 t11 t12 t13 i0 i1 i2 i3 i4 m0 m1 m2 o0 S hK hX hxn hXs hbl i uL uH uC uT uI uM fO hok hkc hsc H locs hP hD hS ls hl hk)
    rw [if_neg e] at hok
    clear e
    by_cases e : x = 26
    · rw [if_pos e] at hok
      subst e
      exact lv_tableIn (off := 1312) (tgt := 1351) hx hb dL_law_39 h1 h2 rfl rfl (c_L_C26 l hlt dC dI cI cZ cJ sa l0 l4 l5 l6 l8 l10 l11 l12 l13 l14 l15 l16 n0 h0 h3 h4 h5 h6 c0 c8 c9 c10 c11 c12 c13 t0 t8 t9 t10 t11 t12 t13 i0 i1 i2 i3 i4 m0 m1 m2 o0 S hK hX hxn hXs hbl i uL uH uC uT uI uM fO hok hkc hsc H locs hP hD hS ls hl hk)
    rw [if_neg e] at hok
    clear e
    by_cases e : x = 27
    · rw [if_pos e] at hok
      subst e
      exact lv_tableIn (off := 1368) (tgt := 1407) hx hb dL_law_39 h1 h2 rfl rfl (c_L_C27 l hlt dC dI cI cZ cJ sa l0 l4 l5 l6 l8 l10 l11 l12 l13 l14 l15 l16 n0 h0 h3 h4 h5 h6 c0 c8 c9 c10 c11 c12 c13 t0 t8 t9 t10 t11 t12 t13 i0 i1 i2 i3 i4 m0 m1 m2 o0 S hK hX hxn hXs hbl i uL uH uC uT uI uM fO hok hkc hsc H locs hP hD hS ls hl hk)
    rw [if_neg e] at hok
    clear e
    by_cases e : x = 28
    · rw [if_pos e] at hok
      subst e
      exact lv_tableIn (off := 1381) (tgt := 1420) hx hb dL_law_39 h1 h2 rfl rfl (c_L_C28 l hlt dC dI cI cZ cJ sa l0 l4 l5 l6 l8 l10 l11 l12 l13 l14 l15 l16 n0 h0 h3 h4 h5 h6 c0 c8 c9 c10 c11 c12 c13 t0 t8 t9 t10 t11 t12 t13 i0 i1 i2 i3 i4 m0 m1 m2 o0 S hK hX hxn hXs hbl i uL uH uC uT uI uM fO hok hkc hsc H locs hP hD hS ls hl hk)
    rw [if_neg e] at hok
    clear e
    by_cases e : x = 29
    · rw [if_pos e] at hok
      subst e
      exact lv_tableIn (off := 1437) (tgt := 1476) hx hb dL_law_39 h1 h2 rfl rfl (c_L_C29 l hlt dC dI cI cZ cJ sa l0 l4 l5 l6 l8 l10 l11 l12 l13 l14 l15 l16 n0 h0 h3 h4 h5 h6 c0 c8 c9 c10 c11 c12 c13 t0 t8 t9 t10 t11 t12 t13 i0 i1 i2 i3 i4 m0 m1 m2 o0 S hK hX hxn hXs hbl i uL uH uC uT uI uM fO hok hkc hsc H locs hP hD hS ls hl hk)
    rw [if_neg e] at hok
    clear e
    by_cases e : x = 30
    · rw [if_pos e] at hok
      subst e
      exact lv_tableIn (off := 1493) (tgt := 1532) hx hb dL_law_39 h1 h2 rfl rfl (c_L_C30 l hlt dC dI cI cZ cJ sa l0 l4 l5 l6 l8 l10 l11 l12 l13 l14 l15 l16 n0 h0 h3 h4 h5 h6 c0 c8 c9 c10 c11 c12 c13 t0 t8 t9 t10 t11 t12 t13 i0 i1 i2 i3 i4 m0 m1 m2 o0 S hK hX hxn hXs hbl i uL uH uC uT uI uM fO hok hkc hsc H locs hP hD hS ls hl hk)
    rw [if_neg e] at hok
    clear e
    by_cases e : x = 31
    · rw [if_pos e] at hok
      subst e
      exact lv_tableIn (off := 1549) (tgt := 1588) hx hb dL_law_39 h1 h2 rfl rfl (c_L_C31 l hlt dC dI cI cZ cJ sa l0 l4 l5 l6 l8 l10 l11 l12 l13 l14 l15 l16 n0 h0 h3 h4 h5 h6 c0 c8 c9 c10 c11 c12 c13 t0 t8 t9 t10 t11 t12 t13 i0 i1 i2 i3 i4 m0 m1 m2 o0 S hK hX hxn hXs hbl i uL uH uC uT uI uM fO hok hkc hsc H locs hP hD hS ls hl hk)
    rw [if_neg e] at hok
    clear e
    by_cases e : x = 32
    · rw [if_pos e] at hok
      subst e
      exact lv_tableIn (off := 1605) (tgt := 1644) hx hb dL_law_39 h1 h2 rfl rfl (c_L_C32 l hlt dC dI cI cZ cJ sa l0 l4 l5 l6 l8 l10 l11 l12 l13 l14 l15 l16 n0 h0 h3 h4 h5 h6 c0 c8 c9 c10 c11 c12 c13 t0 t8 t9 t10 t11 t12 t13 i0 i1 i2 i3 i4 m0 m1 m2 o0 S hK hX hxn hXs hbl i uL uH uC uT uI uM fO hok hkc hsc H locs hP hD hS ls hl hk)
    rw [if_neg e] at hok
    clear e
    by_cases e : x = 33
    · rw [if_pos e] at hok
      subst e
      exact lv_tableIn (off := 1618) (tgt := 1657) hx hb dL_law_39 h1 h2 rfl rfl (c_L_C33 l hlt dC dI cI cZ cJ sa l0 l4 l5 l6 l8 l10 l11 l12 l13 l14 l15 l16 n0 h0 h3 h4 h5 h6 c0 c8 c9 c10 c11 c12 c13 t0 t8 t9 t10 t11 t12 t13 i0 i1 i2 i3 i4 m0 m1 m2 o0 S hK hX hxn hXs hbl i uL uH uC uT uI uM fO hok hkc hsc H locs hP hD hS ls hl hk)
    rw [if_neg e] at hok
    clear e
    by_cases e : x = 34
    · rw [if_pos e] at hok
      subst e
      exact lv_tableIn (off := 1631) (tgt := 1670) hx hb dL_law_39 h1 h2 rfl rfl (c_L_C34 l hlt dC dI cI cZ cJ sa l0 l4 l5 l6 l8 l10 l11 l12 l13 l14 l15 l16 n0 h0 h3 h4 h5 h6 c0 c8 c9 c10 c11 c12 c13 t0 t8 t9 t10 t11 t12 t13 i0 i1 i2 i3 i4 m0 m1 m2 o0 S hK hX hxn hXs hbl i uL uH uC uT uI uM fO hok hkc hsc H locs hP hD hS ls hl hk)
    rw [if_neg e] at hok
    clear e
    by_cases e : x = 35
    · rw [if_pos e] at hok
      subst e
      exact lv_tableIn (off := 1644) (tgt := 1683) hx hb dL_law_39 h1 h2 rfl rfl (c_L_C35 l hlt dC dI cI cZ cJ sa l0 l4 l5 l6 l8 l10 l11 l12 l13 l14 l15 l16 n0 h0 h3 h4 h5 h6 c0 c8 c9 c10 c11 c12 c13 t0 t8 t9 t10 t11 t12 t13 i0 i1 i2 i3 i4 m0 m1 m2 o0 S hK hX hxn hXs hbl i uL uH uC uT uI uM fO hok hkc hsc H locs hP hD hS ls hl hk)
    rw [if_neg e] at hok
    clear e
    by_cases e : x = 36
    · rw [if_pos e] at hok
      subst e
      exact lv_tableIn (off := 1657) (tgt := 1696) hx hb dL_law_39 h1 h2 rfl rfl (c_L_C36 l hlt dC dI cI cZ cJ sa l0 l4 l5 l6 l8 l10 l11 l12 l13 l14 l15 l16 n0 h0 h3 h4 h5 h6 c0 c8 c9 c10 c11 c12 c13 t0 t8 t9 t10 t11 t12 t13 i0 i1 i2 i3 i4 m0 m1 m2 o0 S hK hX hxn hXs hbl i uL uH uC uT uI uM fO hok hkc hsc H locs hP hD hS ls hl hk)
    rw [if_neg e] at hok
    clear e
    by_cases e : x = 37
    · rw [if_pos e] at hok
      subst e
      exact lv_tableIn (off := 1670) (tgt := 1709) hx hb dL_law_39 h1 h2 rfl rfl (c_L_C37 l hlt dC dI cI cZ cJ sa l0 l4 l5 l6 l8 l10 l11 l12 l13 l14 l15 l16 n0 h0 h3 h4 h5 h6 c0 c8 c9 c10 c11 c12 c13 t0 t8 t9 t10 t11 t12 t13 i0 i1 i2 i3 i4 m0 m1 m2 o0 S hK hX hxn hXs hbl i uL uH uC uT uI uM fO hok hkc hsc H locs hP hD hS ls hl hk)
    rw [if_neg e] at hok
    clear e
    by_cases e : x = 38
    · rw [if_pos e] at hok
      subst e
      exact lv_tableIn (off := 1726) (tgt := 1765) hx hb dL_law_39 h1 h2 rfl rfl (c_L_C38 l hlt dC dI cI cZ cJ sa l0 l4 l5 l6 l8 l10 l11 l12 l13 l14 l15 l16 n0 h0 h3 h4 h5 h6 c0 c8 c9 c10 c11 c12 c13 t0 t8 t9 t10 t11 t12 t13 i0 i1 i2 i3 i4 m0 m1 m2 o0 S hK hX hxn hXs hbl i uL uH uC uT uI uM fO hok hkc hsc H locs hP hD hS ls hl hk)
    rw [if_neg e] at hok
    clear e
    by_cases e : x = 39
    · rw [if_pos e] at hok
      subst e
      exact lv_tableIn (off := 1782) (tgt := 1821) hx hb dL_law_39 h1 h2 rfl rfl (c_L_C39 l hlt dC dI cI cZ cJ sa l0 l4 l5 l6 l8 l10 l11 l12 l13 l14 l15 l16 n0 h0 h3 h4 h5 h6 c0 c8 c9 c10 c11 c12 c13 t0 t8 t9 t10 t11 t12 t13 i0 i1 i2 i3 i4 m0 m1 m2 o0 S hK hX hxn hXs hbl i uL uH uC uT uI uM fO hok hkc hsc H locs hP hD hS ls hl hk)
    rw [if_neg e] at hok
    clear e
    by_cases e : x = 40
    · rw [if_pos e] at hok
      subst e
      exact lv_tableIn (off := 1845) (tgt := 1884) hx hb dL_law_39 h1 h2 rfl rfl (c_L_C40 l hlt dC dI cI cZ cJ sa l0 l4 l5 l6 l8 l10 l11 l12 l13 l14 l15 l16 n0 h0 h3 h4 h5 h6 c0 c8 c9 c10 c11 c12 c13 t0 t8 t9 t10 t11 t12 t13 i0 i1 i2 i3 i4 m0 m1 m2 o0 S hK hX hxn hXs hbl i uL uH uC uT uI uM fO hok hkc hsc H locs hP hD hS ls hl hk)
    rw [if_neg e] at hok
    clear e
    by_cases e : x = 41
    · rw [if_pos e] at hok
      subst e
      exact lv_tableIn (off := 1858) (tgt := 1897) hx hb dL_law_39 h1 h2 rfl rfl (c_L_C41 l hlt dC dI cI cZ cJ sa l0 l4 l5 l6 l8 l10 l11 l12 l13 l14 l15 l16 n0 h0 h3 h4 h5 h6 c0 c8 c9 c10 c11 c12 c13 t0 t8 t9 t10 t11 t12 t13 i0 i1 i2 i3 i4 m0 m1 m2 o0 S hK hX hxn hXs hbl i uL uH uC uT uI uM fO hok hkc hsc H locs hP hD hS ls hl hk)
    rw [if_neg e] at hok
    clear e
    by_cases e : x = 42
    · rw [if_pos e] at hok
      subst e
      exact lv_tableIn (off := 1871) (tgt := 1910) hx hb dL_law_39 h1 h2 rfl rfl (c_L_C42 l hlt dC dI cI cZ cJ sa l0 l4 l5 l6 l8 l10 l11 l12 l13 l14 l15 l16 n0 h0 h3 h4 h5 h6 c0 c8 c9 c10 c11 c12 c13 t0 t8 t9 t10 t11 t12 t13 i0 i1 i2 i3 i4 m0 m1 m2 o0 S hK hX hxn hXs hbl i uL uH uC uT uI uM fO hok hkc hsc H locs hP hD hS ls hl hk)
    rw [if_neg e] at hok
    clear e
    by_cases e : x = 43
    · rw [if_pos e] at hok
      subst e
      exact lv_tableIn (off := 1939) (tgt := 1978) hx hb dL_law_39 h1 h2 rfl rfl (c_L_C43 l hlt dC dI cI cZ cJ sa l0 l4 l5 l6 l8 l10 l11 l12 l13 l14 l15 l16 n0 h0 h3 h4 h5 h6 c0 c8 c9 c10 c11 c12 c13 t0 t8 t9 t10 t11 t12 t13 i0 i1 i2 i3 i4 m0 m1 m2 o0 S hK hX hxn hXs hbl i uL uH uC uT uI uM fO hok hkc hsc H locs hP hD hS ls hl hk)
    rw [if_neg e] at hok
    clear e
    by_cases e : x = 44
    · rw [if_pos e] at hok
      subst e
      exact lv_tableIn (off := 1995) (tgt := 2034) hx hb dL_law_39 h1 h2 rfl rfl (c_L_C44 l hlt dC dI cI cZ cJ sa l0 l4 l5 l6 l8 l10 l11 l12 l13 l14 l15 l16 n0 h0 h3 h4 h5 h6 c0 c8 c9 c10 c11 c12 c13 t0 t8 t9 t10 t11 t12 t13 i0 i1 i2 i3 i4 m0 m1 m2 o0 S hK hX hxn hXs hbl i uL uH uC uT uI uM fO hok hkc hsc H locs hP hD hS ls hl hk)
    rw [if_neg e] at hok
    clear e
    by_cases e : x = 45
    · rw [if_pos e] at hok
      subst e
      exact lv_tableIn (off := 2051) (tgt := 2090) hx hb dL_law_39 h1 h2 rfl rfl (c_L_C45 l hlt dC dI cI cZ cJ sa l0 l4 l5 l6 l8 l10 l11 l12 l13 l14 l15 l16 n0 h0 h3 h4 h5 h6 c0 c8 c9 c10 c11 c12 c13 t0 t8 t9 t10 t11 t12 t13 i0 i1 i2 i3 i4 m0 m1 m2 o0 S hK hX hxn hXs hbl i uL uH uC uT uI uM fO hok hkc hsc H locs hP hD hS ls hl hk)
    rw [if_neg e] at hok
    clear e
    by_cases e : x = 46
    · rw [if_pos e] at hok
      subst e
      exact lv_tableIn (off := 2064) (tgt := 2103) hx hb dL_law_39 h1 h2 rfl rfl (c_L_C46 l hlt dC dI cI cZ cJ sa l0 l4 l5 l6 l8 l10 l11 l12 l13 l14 l15 l16 n0 h0 h3 h4 h5 h6 c0 c8 c9 c10 c11 c12 c13 t0 t8 t9 t10 t11 t12 t13 i0 i1 i2 i3 i4 m0 m1 m2 o0 S hK hX hxn hXs hbl i uL uH uC uT uI uM fO hok hkc hsc H locs hP hD hS ls hl hk)
    rw [if_neg e] at hok
    clear e
    by_cases e : x = 47
    · rw [if_pos e] at hok
      subst e
      exact lv_tableIn (off := 2120) (tgt := 2159) hx hb dL_law_39 h1 h2 rfl rfl (c_L_C47 l hlt dC dI cI cZ cJ sa l0 l4 l5 l6 l8 l10 l11 l12 l13 l14 l15 l16 n0 h0 h3 h4 h5 h6 c0 c8 c9 c10 c11 c12 c13 t0 t8 t9 t10 t11 t12 t13 i0 i1 i2 i3 i4 m0 m1 m2 o0 S hK hX hxn hXs hbl i uL uH uC uT uI uM fO hok hkc hsc H locs hP hD hS ls hl hk)
    rw [if_neg e] at hok
    clear e
    by_cases e : x = 48
    · rw [if_pos e] at hok
      subst e
      exact lv_tableIn (off := 2133) (tgt := 2172) hx hb dL_law_39 h1 h2 rfl rfl (c_L_C48 l hlt dC dI cI cZ cJ sa l0 l4 l5 l6 l8 l10 l11 l12 l13 l14 l15 l16 n0 h0 h3 h4 h5 h6 c0 c8 c9 c10 c11 c12 c13 t0 t8 t9 t10 t11 t12 t13 i0 i1 i2 i3 i4 m0 m1 m2 o0 S hK hX hxn hXs hbl i uL uH uC uT uI uM fO hok hkc hsc H locs hP hD hS ls hl hk)
    rw [if_neg e] at hok
    clear e
    by_cases e : x = 49
    · rw [if_pos e] at hok
      subst e
      exact lv_tableIn (off := 2189) (tgt := 2228) hx hb dL_law_39 h1 h2 rfl rfl (c_L_C49 l hlt dC dI cI cZ cJ sa l0 l4 l5 l6 l8 l10 l11 l12 l13 l14 l15 l16 n0 h0 h3 h4 h5 h6 c0 c8 c9 c10 c11 c12 c13 t0 t8 t9 t10 t11 t12 t13 i0 i1 i2 i3 i4 m0 m1 m2 o0 S hK hX hxn hXs hbl i uL uH uC uT uI uM fO hok hkc hsc H locs hP hD hS ls hl hk)
    rw [if_neg e] at hok
    clear e
    by_cases e : x = 50
    · rw [if_pos e] at hok
      subst e
      exact lv_tableIn (off := 2245) (tgt := 2284) hx hb dL_law_39 h1 h2 rfl rfl (c_L_C50 l hlt dC dI cI cZ cJ sa l0 l4 l5 l6 l8 l10 l11 l12 l13 l14 l15 l16 n0 h0 h3 h4 h5 h6 c0 c8 c9 c10 c11 c12 c13 t0 t8 t9 t10 t11 t12 t13 i0 i1 i2 i3 i4 m0 m1 m2 o0 S hK hX hxn hXs hbl i uL uH uC uT uI uM fO hok hkc hsc H locs hP hD hS ls hl hk)
    rw [if_neg e] at hok
    clear e
    by_cases e : x = 51
    · rw [if_pos e] at hok
      subst e
      exact lv_tableIn (off := 2301) (tgt := 2340) hx hb dL_law_39 h1 h2 rfl rfl (c_L_C51 l hlt dC dI cI cZ cJ sa l0 l4 l5 l6 l8 l10 l11 l12 l13 l14 l15 l16 n0 h0 h3 h4 h5 h6 c0 c8 c9 c10 c11 c12 c13 t0 t8 t9 t10 t11 t12 t13 i0 i1 i2 i3 i4 m0 m1 m2 o0 S hK hX hxn hXs hbl i uL uH uC uT uI uM fO hok hkc hsc H locs hP hD hS ls hl hk)
    rw [if_neg e] at hok
    clear e
    by_cases e : x = 52
    · rw [if_pos e] at hok
      subst e
      exact lv_tableIn (off := 2357) (tgt := 2396) hx hb dL_law_39 h1 h2 rfl rfl (c_L_C52 l hlt dC dI cI cZ cJ sa l0 l4 l5 l6 l8 l10 l11 l12 l13 l14 l15 l16 n0 h0 h3 h4 h5 h6 c0 c8 c9 c10 c11 c12 c13 t0 t8 t9 t10 t11 t12 t13 i0 i1 i2 i3 i4 m0 m1 m2 o0 S hK hX hxn hXs hbl i uL uH uC uT uI uM fO hok hkc hsc H locs hP hD hS ls hl hk)
    rw [if_neg e] at hok
    clear e
    by_cases e : x = 53
    · rw [if_pos e] at hok
      subst e
      exact lv_tableIn (off := 2398) (tgt := 2437) hx hb dL_law_39 h1 h2 rfl rfl (c_L_C53 l hlt dC dI cI cZ cJ sa l0 l4 l5 l6 l8 l10 l11 l12 l13 l14 l15 l16 n0 h0 h3 h4 h5 h6 c0 c8 c9 c10 c11 c12 c13 t0 t8 t9 t10 t11 t12 t13 i0 i1 i2 i3 i4 m0 m1 m2 o0 S hK hX hxn hXs hbl i uL uH uC uT uI uM fO hok hkc hsc H locs hP hD hS ls hl hk)
    rw [if_neg e] at hok
    clear e
    cases hok
def p_L_loop (xs : Nat → Int32) (Lc : Nat) : Nat → Int32 → tX5 → tX1 → tX0 → tX0 → tX2 → tX3 → (Nat → Int64) → Option Unit
  | 0, _, _, _, _, _, _, _, _ => none
  | n + 1, i, uL, uH, uC, uT, uI, uM, fO => if Int32.ofNat Lc - 4 < i then some () else gd i Lc (bd (p_L_step xs Lc i (xs i.toNatClampNeg &&& 63) uL uH uC uT uI uM fO) (fun z => p_L_loop xs Lc n (i + 4) z.1 z.2.1 z.2.2.1 z.2.2.2.1 z.2.2.2.2.1 z.2.2.2.2.2.1 z.2.2.2.2.2.2))
set_option maxHeartbeats 4000000 in
set_option maxRecDepth 100000 in
theorem c_L_loop {p : Program} {e : Env} {s : State} {m : MethodId} {below : List Frame} {meth : Method} {c : Code} (l : Launch) (hlt : l.stackTraces = false) (dC : Nat → ClassId) (dI : Nat → Nat → Nat) (cI cZ cJ : ClassId) (sa : Nat → Nat) (l0 l4 l5 l6 l8 l10 l11 l12 l13 l14 l15 l16 n0 h0 h3 h4 h5 h6 c0 c8 c9 c10 c11 c12 c13 t0 t8 t9 t10 t11 t12 t13 i0 i1 i2 i3 i4 m0 m1 m2 o0 : Nat) {b Lc : Nat} {xs : Nat → Int32} (S : CallFix p m c cL_law 9 s #[Value.ref b] lw_all RL) (hK : va_K (dC, dI) vwCl (TYJ cI cZ cJ) s) (hX : xb (fun q : Nat => s.heap.size ≤ q) sa s) (hxn : xn s) (hXs : va_X b Lc xs s s.heap) (hbl : b < s.heap.size) (hr : meth.sig.returnType = ret) (hlk : meth.locks = false) : ∀ (n : Nat) (i : Int32) (uL : tX5) (uH : tX1) (uC : tX0) (uT : tX0) (uI : tX2) (uM : tX3) (fO : Nat → Int64), p_L_loop xs Lc n i uL uH uC uT uI uM fO = some () → ∀ (kc sc : Nat), kc + 565 * n ≤ 601024 → sc + 3393 * n ≤ 7293034 → ∀ (H : Heap) (locs : List Loc), va_P (dC, dI) vwCl (wX5 cI cZ l0 l4 l5 l6 l8 l10 l11 l12 l13 l14 l15 l16 uL ++ (wN cI cZ n0 h0 h3 h4 h5 h6 c0 c8 c9 c10 c11 c12 c13 t0 t8 t9 t10 t11 t12 t13 i0 i1 i2 i3 i4 m0 m1 m2 uH uC uT uI uM ++ [(o0, .inl (cJ, 1, .inr (.inl fO)))])) H → va_D (fun q : Nat => s.heap.size ≤ q) (wX5 cI cZ l0 l4 l5 l6 l8 l10 l11 l12 l13 l14 l15 l16 uL ++ (wN cI cZ n0 h0 h3 h4 h5 h6 c0 c8 c9 c10 c11 c12 c13 t0 t8 t9 t10 t11 t12 t13 i0 i1 i2 i3 i4 m0 m1 m2 uH uC uT uI uM ++ [(o0, .inl (cJ, 1, .inr (.inl fO)))])) → va_S (fun q : Nat => s.heap.size ≤ q) s.heap H locs → ∀ (ls : Array Slot), lv_has ls 9 [(0, .ref b), (1, .ref n0), (2, .ref l0), (3, .ref o0), (4, .int i)] → W p l e room_1 s m #[Value.ref b] below meth c H locs kc sc (lw_Z below #[Value.ref b] s) (F0 m 23 ls []) := by
  have hx := S.1
  have hb := S.2.1
  have hbA : ¬ (fun q : Nat => s.heap.size ≤ q) b := Nat.not_le.mpr hbl
  intro n
  induction n with
  | zero => intro i uL uH uC uT uI uM fO hok; exact nomatch hok
  | succ n ih =>
    intro i uL uH uC uT uI uM fO hok kc sc hkc hsc H locs hP hD hS ls hl
    rw [p_L_loop] at hok
    refine lv_iload hx hb dL_law_23 (lv_at hl 4 rfl) ?_
    refine lv_aload_n hx hb dL_law_25 rfl (lv_at hl 0 rfl) ?_
    refine va_slen hx hb hXs hbl hbA hS dL_law_26 ?_
    refine lv_iconst (v := 4) hx hb dL_law_27 (by decide) ?_
    refine lv_isub hx hb dL_law_28 ?_
    refine lv_icmp_gt (tgt := 2457) hx hb dL_law_29 (by decide) (fun h9 => ?_) (fun h9 => ?_)
    · refine lv_iconst (v := 1) hx hb dL_law_2457 (by decide) ?_
      refine va_forget (fun q hq => hS.2.2 q hq) ?_
      refine W.widen (k := 601024) (n := 7293034) (by omega) (by omega) ?_
      exact W.base (lw_ret (Drawn.sameBut.refl s.drawn lw_cs) hx hb hr hlk dL_law_2458)
    · rw [if_neg h9] at hok
      obtain ⟨h8, hok⟩ := gd_some hok
      obtain ⟨z, hz, hok⟩ := bd_some hok
      refine lv_aload_n hx hb dL_law_32 rfl (lv_at hl 0 rfl) ?_
      refine lv_iload hx hb dL_law_33 (lv_at hl 4 rfl) ?_
      refine va_sld hx hb hXs hbl hbA hS h8 dL_law_35 ?_
      refine lv_bipush (v := 63) hx hb dL_law_36 (by decide) ?_
      refine lv_iand hx hb dL_law_38 ?_
      refine c_L_step l hlt dC dI cI cZ cJ sa l0 l4 l5 l6 l8 l10 l11 l12 l13 l14 l15 l16 n0 h0 h3 h4 h5 h6 c0 c8 c9 c10 c11 c12 c13 t0 t8 t9 t10 t11 t12 t13 i0 i1 i2 i3 i4 m0 m1 m2 o0 S hK hX hxn hXs hbl i _ uL uH uC uT uI uM fO hz (by omega) (by omega) H locs hP hD hS ls hl (fun kc' sc' H locs q1 q2 hP hD hS ls hl => ?_)
      refine lv_iinc (k := 4) (v := i + 4) (lv' := [(4, .int (i + 4)), (0, .ref b), (1, .ref n0), (2, .ref l0), (3, .ref o0)]) hx hb dL_law_2451 hl rfl rfl (by decide) rfl (fun ls hl => ?_)
      refine lv_goto (tgt := 23) hx hb dL_law_2454 (by decide) ?_
      exact ih (i + 4) z.1 z.2.1 z.2.2.1 z.2.2.2.1 z.2.2.2.2.1 z.2.2.2.2.2.1 z.2.2.2.2.2.2 hok kc' sc' (by omega) (by omega) H locs hP hD hS ls (lv_sub hl [1, 2, 3, 4, 0] rfl)
