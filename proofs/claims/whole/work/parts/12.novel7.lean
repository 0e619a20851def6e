theorem hd_X4_hoursUntilStuck : yX4_hoursUntilStuck.cls = RX4 ∧ yX4_hoursUntilStuck.cls ≠ "java/lang/invoke/MethodHandle" ∧ yX4_hoursUntilStuck.cls ≠ "java/lang/invoke/VarHandle" ∧ (parseMethodDescriptor yX4_hoursUntilStuck.desc).map (fun d => d.parameters.length) = some 0 := by decide +kernel
def p_X4_hoursUntilStuck_L13 : Nat → tX1 → tX0 → tX0 → tX2 → tX3 → Int32 → Option (Int32 × tX0)
  | 0, _, _, _, _, _, _ => none
  | n + 1, uH, uC, uT, uI, uM, l13_1 =>
    if (80 : Int32) ≤ l13_1 then
      if uT.2.2.2.1 ≤ 0 then
        some ((-1 : Int32), uT)
      else
        some ((80 : Int32), uT)
    else
      if uT.2.2.2.1 ≤ 0 then
        bd (p_X0_passHour uT uH) (fun v2 =>
        (p_X4_hoursUntilStuck_L13 n) uH uC v2.2 uI uM (l13_1 + 1))
      else
        some (l13_1, uT)
def p_X4_hoursUntilStuck (uH : tX1) (uC : tX0) (uT : tX0) (uI : tX2) (uM : tX3) : Option (Int32 × tX0) :=
  bd (p_X0_copy uT uC) (fun v1 =>
  p_X4_hoursUntilStuck_L13 200 uH uC v1 uI uM (0 : Int32))
set_option maxHeartbeats 4000000 in
set_option maxRecDepth 100000 in
theorem c_X4_hoursUntilStuck (l : Launch) (dC : Nat → ClassId) (dI : Nat → Nat → Nat) (cI cZ : ClassId) (n0 h0 h3 h4 h5 h6 c0 c8 c9 c10 c11 c12 c13 t0 t8 t9 t10 t11 t12 t13 i0 i1 i2 i3 i4 m0 m1 m2 : Nat) (sz : Nat) (uH : tX1) (uC : tX0) (uT : tX0) (uI : tX2) (uM : tX3) {z : (Int32 × tX0)} (hok : p_X4_hoursUntilStuck uH uC uT uI uM = some z) : Met l yX4_hoursUntilStuck (Cond.code yX4_hoursUntilStuck cX4_hoursUntilStuck 2 (some .int) :: lw_all) { frames := 4, cells := 0, slots := 0, locals := 89 } (prW (dC, dI) vwCl (TYS cI cZ) (wN cI cZ n0 h0 h3 h4 h5 h6 c0 c8 c9 c10 c11 c12 c13 t0 t8 t9 t10 t11 t12 t13 i0 i1 i2 i3 i4 m0 m1 m2 uH uC uT uI uM) sz [.ref n0]) (va_Qi (fun (r : Int32) (_ : Unit) => r = z.1) (fun _ t => va_P (dC, dI) vwCl (wN cI cZ n0 h0 h3 h4 h5 h6 c0 c8 c9 c10 c11 c12 c13 t0 t8 t9 t10 t11 t12 t13 i0 i1 i2 i3 i4 m0 m1 m2 uH uC z.2 uI uM) t.heap) (va_A (wN cI cZ n0 h0 h3 h4 h5 h6 c0 c8 c9 c10 c11 c12 c13 t0 t8 t9 t10 t11 t12 t13 i0 i1 i2 i3 i4 m0 m1 m2 uH uC uT uI uM) sz)) 0 0 (va_A (wN cI cZ n0 h0 h3 h4 h5 h6 c0 c8 c9 c10 c11 c12 c13 t0 t8 t9 t10 t11 t12 t13 i0 i1 i2 i3 i4 m0 m1 m2 uH uC uT uI uM) sz) := by
  refine oM (by decide) (Nat.le_of_ble_eq_true rfl) ?_
  intro p e s m args below meth c S hr hlk hnm hB ls hl
  have hx := S.1
  have hb := S.2.1
  have hml := S.2.2.1
  have hown : s.vm.findClass RX4 = some m.cls := S.2.2.2.1
  have hts := S.2.2.2.2
  have S : CallFix p m c cX4_hoursUntilStuck 2 s args lw_all RX4 := S
  have hl : lv_has ls 2 [(0, .ref n0)] := hl
  obtain ⟨hsz, hP, hK, hD0⟩ := hB
  subst hsz
  have hD := hD0.self (sz := s.heap.size)
  generalize hAe : va_A (wN cI cZ n0 h0 h3 h4 h5 h6 c0 c8 c9 c10 c11 c12 c13 t0 t8 t9 t10 t11 t12 t13 i0 i1 i2 i3 i4 m0 m1 m2 uH uC uT uI uM) s.heap.size = A at hD ⊢
  have hA : ∀ q : Nat, s.heap.size ≤ q → A q := fun q h => by rw [← hAe]; exact Or.inr h
  have hS : va_S A s.heap s.heap [] := va_S.rf
  have hP : va_P (dC, dI) vwCl (wN cI cZ n0 h0 h3 h4 h5 h6 c0 c8 c9 c10 c11 c12 c13 t0 t8 t9 t10 t11 t12 t13 i0 i1 i2 i3 i4 m0 m1 m2 uH uC uT uI uM) s.heap := hP
  have L13 : ∀ n13 : Nat, ∀ (uT : tX0) (l13_1 : Int32) (H : Heap) (locs : List Loc) (hP : va_P (dC, dI) vwCl (wN cI cZ n0 h0 h3 h4 h5 h6 c0 c8 c9 c10 c11 c12 c13 t0 t8 t9 t10 t11 t12 t13 i0 i1 i2 i3 i4 m0 m1 m2 uH uC uT uI uM) H) (hD : va_D A (wN cI cZ n0 h0 h3 h4 h5 h6 c0 c8 c9 c10 c11 c12 c13 t0 t8 t9 t10 t11 t12 t13 i0 i1 i2 i3 i4 m0 m1 m2 uH uC uT uI uM)) (hS : va_S A s.heap H locs) (ls : Array Slot) (hl : lv_has ls 2 [(0, .ref n0), (1, .int l13_1)]) (hok : p_X4_hoursUntilStuck_L13 n13 uH uC uT uI uM l13_1 = some z), W p l e { frames := 4, cells := 0, slots := 0, locals := 89 } s m args below meth c H locs 0 0 (MQ below (va_Qi (fun (r : Int32) (_ : Unit) => r = z.1) (fun _ t => va_P (dC, dI) vwCl (wN cI cZ n0 h0 h3 h4 h5 h6 c0 c8 c9 c10 c11 c12 c13 t0 t8 t9 t10 t11 t12 t13 i0 i1 i2 i3 i4 m0 m1 m2 uH uC z.2 uI uM) t.heap) A) args s 0 0 A) (F0 m 13 ls []) := by
    intro n13
    induction n13 with
    | zero =>
      intro uT l13_1 H locs hP hD hS ls hl hok
      rw [p_X4_hoursUntilStuck_L13] at hok
      cases hok
    | succ n13 ih13 =>
      intro uT l13_1 H locs hP hD hS ls hl hok
      rw [p_X4_hoursUntilStuck_L13] at hok
      refine lv_iload_n hx hb dX4_hoursUntilStuck_13 rfl (lv_at hl 1 rfl) ?_
      refine lv_bipush (v := (80 : Int32)) hx hb dX4_hoursUntilStuck_14 (by decide) ?_
      refine lv_icmp_ge (tgt := 45) hx hb dX4_hoursUntilStuck_16 (by decide) (fun hc => ?_) (fun hc => ?_)
      · have hok := ip hok hc
        refine lv_aload_n hx hb dX4_hoursUntilStuck_45 rfl (lv_at hl 0 rfl) ?_
        refine va_get (D := (dC, dI)) (ci := 4) (v := .ref t0) (C := RX4) (T := TX4) (N := 5) hx hb hts inX4 hown hK hP 0 rfl rfl 2 (by decide) (hts _ qf_X4_25) (fun _ h9 => h9) rfl dX4_hoursUntilStuck_46 ?_
        refine va_get (D := (dC, dI)) (ci := 0) (v := .int uT.2.2.2.1) (C := RX0) (T := TX0) (N := 14) hx hb hts inX0 hown hK hP 13 rfl rfl 4 (by decide) (hts _ qf_X4_125) (fun _ h9 => h9) rfl dX4_hoursUntilStuck_49 ?_
        refine lv_if_le (tgt := 60) hx hb dX4_hoursUntilStuck_52 (by decide) (fun hc => ?_) (fun hc => ?_)
        · have hok := ip hok hc
          refine lv_iconst (v := (-1 : Int32)) hx hb dX4_hoursUntilStuck_60 (by decide) ?_
          have hok := Option.some.inj hok
          subst hok
          exact eWi S hr hlk rfl hP hS (Nat.le_of_ble_eq_true rfl) (Nat.le_of_ble_eq_true rfl) dX4_hoursUntilStuck_61
        · have hok := iq hok hc
          refine lv_bipush (v := (80 : Int32)) hx hb dX4_hoursUntilStuck_55 (by decide) ?_
          refine lv_goto (tgt := 61) hx hb dX4_hoursUntilStuck_57 (by decide) ?_
          have hok := Option.some.inj hok
          subst hok
          exact eWi S hr hlk rfl hP hS (Nat.le_of_ble_eq_true rfl) (Nat.le_of_ble_eq_true rfl) dX4_hoursUntilStuck_61
      · have hok := iq hok hc
        refine lv_aload_n hx hb dX4_hoursUntilStuck_19 rfl (lv_at hl 0 rfl) ?_
        refine va_get (D := (dC, dI)) (ci := 4) (v := .ref t0) (C := RX4) (T := TX4) (N := 5) hx hb hts inX4 hown hK hP 0 rfl rfl 2 (by decide) (hts _ qf_X4_25) (fun _ h9 => h9) rfl dX4_hoursUntilStuck_20 ?_
        refine va_get (D := (dC, dI)) (ci := 0) (v := .int uT.2.2.2.1) (C := RX0) (T := TX0) (N := 14) hx hb hts inX0 hown hK hP 13 rfl rfl 4 (by decide) (hts _ qf_X4_125) (fun _ h9 => h9) rfl dX4_hoursUntilStuck_23 ?_
        refine lv_if_le (tgt := 31) hx hb dX4_hoursUntilStuck_26 (by decide) (fun hc => ?_) (fun hc => ?_)
        · have hok := ip hok hc
          refine lv_aload_n hx hb dX4_hoursUntilStuck_31 rfl (lv_at hl 0 rfl) ?_
          refine va_get (D := (dC, dI)) (ci := 4) (v := .ref t0) (C := RX4) (T := TX4) (N := 5) hx hb hts inX4 hown hK hP 0 rfl rfl 2 (by decide) (hts _ qf_X4_25) (fun _ h9 => h9) rfl dX4_hoursUntilStuck_32 ?_
          obtain ⟨v2, hc2, hok⟩ := bd_some hok
          refine cUVi (ci := 0) (q0 := 0) [] S hK (cP_TH hP) (cD_TH hD) hS hA (c_X0_passHour l dC dI cI cZ t0 t8 t9 t10 t11 t12 t13 h0 h3 h4 h5 h6 _ uT uH hc2) (lw_V qm_X4_136 qi_X0_passHour qs_X0_passHour qn_X0 qc_X0_passHour) hd_X0_passHour ⟨rfl, rfl⟩ ⟨Nat.le_of_ble_eq_true rfl, Nat.le_of_ble_eq_true rfl⟩ ⟨Nat.le_of_ble_eq_true rfl, Nat.le_of_ble_eq_true rfl⟩ rfl rfl rfl hl.1 (Nat.le_of_ble_eq_true rfl) rfl dX4_hoursUntilStuck_35 (fun H1 hk9 h9 => cJ_TH hP hD hk9 h9) (D_N hD) (fun H locs hP hD hS => ?_)
          refine lv_pop hx hb dX4_hoursUntilStuck_38 rfl ?_
          refine lv_iinc (v := (l13_1 + 1)) (lv' := [(1, .int (l13_1 + 1)), (0, .ref n0)]) hx hb dX4_hoursUntilStuck_39 hl (k := 1) rfl rfl (by decide) rfl (fun ls hl => ?_)
          refine lv_goto (tgt := 13) hx hb dX4_hoursUntilStuck_42 (by decide) ?_
          exact ih13 v2.2 (l13_1 + 1) _ _ hP hD hS _ (lv_sub hl [1, 0] rfl) hok
        · have hok := iq hok hc
          refine lv_iload_n hx hb dX4_hoursUntilStuck_29 rfl (lv_at hl 1 rfl) ?_
          have hok := Option.some.inj hok
          subst hok
          exact eWi S hr hlk rfl hP hS (Nat.le_of_ble_eq_true rfl) (Nat.le_of_ble_eq_true rfl) dX4_hoursUntilStuck_30
  unfold p_X4_hoursUntilStuck at hok
  refine lv_aload_n hx hb dX4_hoursUntilStuck_0 rfl (lv_at hl 0 rfl) ?_
  refine va_get (D := (dC, dI)) (ci := 4) (v := .ref t0) (C := RX4) (T := TX4) (N := 5) hx hb hts inX4 hown hK hP 0 rfl rfl 2 (by decide) (hts _ qf_X4_25) (fun _ h9 => h9) rfl dX4_hoursUntilStuck_1 ?_
  refine lv_aload_n hx hb dX4_hoursUntilStuck_4 rfl (lv_at hl 0 rfl) ?_
  refine va_get (D := (dC, dI)) (ci := 4) (v := .ref c0) (C := RX4) (T := TX4) (N := 5) hx hb hts inX4 hown hK hP 0 rfl rfl 1 (by decide) (hts _ qf_X4_21) (fun _ h9 => h9) rfl dX4_hoursUntilStuck_5 ?_
  obtain ⟨v1, hc1, hok⟩ := bd_some hok
  refine cUVv (ci := 0) (q0 := 0) [.ref c0] S hK (cP_TC hP) (cD_TC hD) hS hA (c_X0_copy l dC dI cI cZ t0 t8 t9 t10 t11 t12 t13 c0 c8 c9 c10 c11 c12 c13 h0 _ uT uC hc1) (lw_V qm_X4_218 qi_X0_copy qs_X0_copy qn_X0 qc_X0_copy) hd_X0_copy ⟨rfl, rfl⟩ ⟨Nat.le_of_ble_eq_true rfl, Nat.le_of_ble_eq_true rfl⟩ ⟨Nat.le_of_ble_eq_true rfl, Nat.le_of_ble_eq_true rfl⟩ rfl rfl rfl hl.1 (Nat.le_of_ble_eq_true rfl) rfl dX4_hoursUntilStuck_8 (fun H1 hk9 h9 => cJ_TC hP hD hk9 h9) (D_N hD) (fun H locs hP hD hS => ?_)
  refine lv_iconst (v := (0 : Int32)) hx hb dX4_hoursUntilStuck_11 (by decide) ?_
  refine lv_istore_n (lv' := [(1, .int (0 : Int32)), (0, .ref n0)]) hx hb dX4_hoursUntilStuck_12 rfl hl (by decide) rfl (fun ls hl => ?_)
  exact L13 200 v1 (0 : Int32) _ _ hP hD hS _ (lv_sub hl [1, 0] rfl) hok
theorem hd_X4_needForeseeable : yX4_needForeseeable.cls ≠ "java/lang/invoke/MethodHandle" ∧ yX4_needForeseeable.cls ≠ "java/lang/invoke/VarHandle" ∧ (parseMethodDescriptor yX4_needForeseeable.desc).map (fun d => d.parameters.length) = some 1 := by decide +kernel
def p_X4_needForeseeable (a1 : Int32) : Option (String ⊕ (Unit)) :=
  if a1 < (1 : Int32) then
    some (.inl xIAE)
  else
    if a1 ≤ (40 : Int32) then
      some (.inr ())
    else
      some (.inl xIAE)
set_option maxHeartbeats 4000000 in
set_option maxRecDepth 100000 in
theorem c_X4_needForeseeable (l : Launch) (hlt : l.stackTraces = false) (dC : Nat → ClassId) (dI : Nat → Nat → Nat) (cI cZ : ClassId) (sz : Nat) (sa : Nat → Nat) (a1 : Int32) {z : (String ⊕ (Unit))} (hok : p_X4_needForeseeable a1 = some z) : vx_Met l yX4_needForeseeable (Cond.code yX4_needForeseeable cX4_needForeseeable 1 none :: lw_all) { frames := 6, cells := 1, slots := 6, locals := 90 } (prX (dC, dI) vwCl (TYS cI cZ) (([] : va_W)) sz sa [.int a1]) (va_Qv (fun a : (Unit) => z = .inr a) (fun _ _ => True) (fun _ => False)) (vx_X (fun _ : Unit => True) (fun E _ _ => z = .inl E) (fun _ => False)) 1 6 (fun _ => False) := by
  refine oX (by decide) (Nat.le_of_ble_eq_true rfl) ?_
  intro p e s m args below meth c S hr hlk hex hB ls hl
  have hx := S.1
  have hb := S.2.1
  have hml := S.2.2.1
  have hown : s.vm.findClass RX4 = some m.cls := S.2.2.2.1
  have hts := S.2.2.2.2
  have S : CallFix p m c cX4_needForeseeable 1 s args lw_all RX4 := S
  have hl : lv_has ls 1 [(0, .int a1)] := hl
  obtain ⟨hsz, hP, hK, hD0, hX⟩ := hB
  subst hsz
  have hD := hD0.self (sz := s.heap.size)
  generalize hAe : va_A (([] : va_W)) s.heap.size = A at hD hX
  have hA : ∀ q : Nat, s.heap.size ≤ q → A q := fun q h => by rw [← hAe]; exact Or.inr h
  have hS0 : va_S (fun _ => False) s.heap s.heap [] := va_S.rf
  have hP : va_P (dC, dI) vwCl (([] : va_W)) s.heap := hP
  unfold p_X4_needForeseeable at hok
  refine lv_iload_n hx hb dX4_needForeseeable_0 rfl (lv_at hl 0 rfl) ?_
  refine lv_iconst (v := (1 : Int32)) hx hb dX4_needForeseeable_1 (by decide) ?_
  refine lv_icmp_lt (tgt := 11) hx hb dX4_needForeseeable_2 (by decide) (fun hc => ?_) (fun hc => ?_)
  · have hok := ip hok hc
    exact xtw_IAE S hlk hex hlt hX hS0 (xs_387 hX) (Option.some.inj hok).symm hl.1 (Nat.le_of_ble_eq_true rfl) dX4_needForeseeable_11 dX4_needForeseeable_14 dX4_needForeseeable_15 dX4_needForeseeable_18 dX4_needForeseeable_21 ⟨Nat.le_of_ble_eq_true rfl, Nat.le_of_ble_eq_true rfl, Nat.le_of_ble_eq_true rfl, Nat.le_of_ble_eq_true rfl⟩ ⟨Nat.le_of_ble_eq_true rfl, Nat.le_of_ble_eq_true rfl⟩
  · have hok := iq hok hc
    refine lv_iload_n hx hb dX4_needForeseeable_5 rfl (lv_at hl 0 rfl) ?_
    refine lv_bipush (v := (40 : Int32)) hx hb dX4_needForeseeable_6 (by decide) ?_
    refine lv_icmp_le (tgt := 22) hx hb dX4_needForeseeable_8 (by decide) (fun hc => ?_) (fun hc => ?_)
    · have hok := ip hok hc
      exact eYv S hr hlk _ (Option.some.inj hok).symm hS0 (Nat.le_of_ble_eq_true rfl) (Nat.le_of_ble_eq_true rfl) dX4_needForeseeable_22
    · have hok := iq hok hc
      exact xtw_IAE S hlk hex hlt hX hS0 (xs_387 hX) (Option.some.inj hok).symm hl.1 (Nat.le_of_ble_eq_true rfl) dX4_needForeseeable_11 dX4_needForeseeable_14 dX4_needForeseeable_15 dX4_needForeseeable_18 dX4_needForeseeable_21 ⟨Nat.le_of_ble_eq_true rfl, Nat.le_of_ble_eq_true rfl, Nat.le_of_ble_eq_true rfl, Nat.le_of_ble_eq_true rfl⟩ ⟨Nat.le_of_ble_eq_true rfl, Nat.le_of_ble_eq_true rfl⟩
theorem hd_X4_printedIn : yX4_printedIn.cls = RX4 ∧ yX4_printedIn.cls ≠ "java/lang/invoke/MethodHandle" ∧ yX4_printedIn.cls ≠ "java/lang/invoke/VarHandle" ∧ (parseMethodDescriptor yX4_printedIn.desc).map (fun d => d.parameters.length) = some 1 := by decide +kernel
def p_X4_printedIn (uH : tX1) (uC : tX0) (uT : tX0) (uI : tX2) (uM : tX3) (a1 : Int32) : Option (String ⊕ (Int32 × tX0)) :=
  bT (p_X4_needForeseeable a1) (fun v1 =>
  bd (p_X0_copy uT uC) (fun v2 =>
  bd (p_X0_passAndCountPrinted v2 uH a1) (fun v3 =>
  some (.inr (v3.1, v3.2)))))
set_option maxHeartbeats 4000000 in
set_option maxRecDepth 100000 in
theorem c_X4_printedIn (l : Launch) (hlt : l.stackTraces = false) (dC : Nat → ClassId) (dI : Nat → Nat → Nat) (cI cZ : ClassId) (n0 h0 h3 h4 h5 h6 c0 c8 c9 c10 c11 c12 c13 t0 t8 t9 t10 t11 t12 t13 i0 i1 i2 i3 i4 m0 m1 m2 : Nat) (sz : Nat) (sa : Nat → Nat) (uH : tX1) (uC : tX0) (uT : tX0) (uI : tX2) (uM : tX3) (a1 : Int32) {z : (String ⊕ (Int32 × tX0))} (hok : p_X4_printedIn uH uC uT uI uM a1 = some z) : vx_Met l yX4_printedIn (Cond.code yX4_printedIn cX4_printedIn 2 (some .int) :: lw_all) { frames := 7, cells := 1, slots := 6, locals := 112 } (prX (dC, dI) vwCl (TYS cI cZ) (wN cI cZ n0 h0 h3 h4 h5 h6 c0 c8 c9 c10 c11 c12 c13 t0 t8 t9 t10 t11 t12 t13 i0 i1 i2 i3 i4 m0 m1 m2 uH uC uT uI uM) sz sa [.ref n0, .int a1]) (va_Qi (fun (r : Int32) (a : (Int32 × tX0)) => z = .inr a ∧ r = a.1) (fun a t => va_P (dC, dI) vwCl (wN cI cZ n0 h0 h3 h4 h5 h6 c0 c8 c9 c10 c11 c12 c13 t0 t8 t9 t10 t11 t12 t13 i0 i1 i2 i3 i4 m0 m1 m2 uH uC a.2 uI uM) t.heap) (va_A (wN cI cZ n0 h0 h3 h4 h5 h6 c0 c8 c9 c10 c11 c12 c13 t0 t8 t9 t10 t11 t12 t13 i0 i1 i2 i3 i4 m0 m1 m2 uH uC uT uI uM) sz)) (vx_X (fun _ : Unit => True) (fun E _ _ => z = .inl E) (fun _ => False)) 1 6 (va_A (wN cI cZ n0 h0 h3 h4 h5 h6 c0 c8 c9 c10 c11 c12 c13 t0 t8 t9 t10 t11 t12 t13 i0 i1 i2 i3 i4 m0 m1 m2 uH uC uT uI uM) sz) := by
  refine oX (by decide) (Nat.le_of_ble_eq_true rfl) ?_
  intro p e s m args below meth c S hr hlk hex hB ls hl
  have hx := S.1
  have hb := S.2.1
  have hml := S.2.2.1
  have hown : s.vm.findClass RX4 = some m.cls := S.2.2.2.1
  have hts := S.2.2.2.2
  have S : CallFix p m c cX4_printedIn 2 s args lw_all RX4 := S
  have hl : lv_has ls 2 [(0, .ref n0), (1, .int a1)] := hl
  obtain ⟨hsz, hP, hK, hD0, hX⟩ := hB
  subst hsz
  have hD := hD0.self (sz := s.heap.size)
  generalize hAe : va_A (wN cI cZ n0 h0 h3 h4 h5 h6 c0 c8 c9 c10 c11 c12 c13 t0 t8 t9 t10 t11 t12 t13 i0 i1 i2 i3 i4 m0 m1 m2 uH uC uT uI uM) s.heap.size = A at hD hX ⊢
  have hA : ∀ q : Nat, s.heap.size ≤ q → A q := fun q h => by rw [← hAe]; exact Or.inr h
  have hS0 : va_S (fun _ => False) s.heap s.heap [] := va_S.rf
  have hP : va_P (dC, dI) vwCl (wN cI cZ n0 h0 h3 h4 h5 h6 c0 c8 c9 c10 c11 c12 c13 t0 t8 t9 t10 t11 t12 t13 i0 i1 i2 i3 i4 m0 m1 m2 uH uC uT uI uM) s.heap := hP
  unfold p_X4_printedIn at hok
  refine lv_iload_n hx hb dX4_printedIn_0 rfl (lv_at hl 1 rfl) ?_
  obtain ⟨w1, hc1, hok⟩ := bT_some hok
  refine cYSv [.int a1] S hK hP va_Pnil va_Dnil hS0 (va_S0 hS0) hA hX (c_X4_needForeseeable l hlt dC dI cI cZ _ sa a1 hc1) (lw_S qm_X4_222 qt_X4_needForeseeable qn_X4 qc_X4_needForeseeable) hd_X4_needForeseeable ⟨rfl, rfl⟩ ⟨Nat.le_of_ble_eq_true rfl, Nat.le_of_ble_eq_true rfl⟩ ⟨Nat.le_of_ble_eq_true rfl, Nat.le_of_ble_eq_true rfl⟩ rfl hl.1 (Nat.le_of_ble_eq_true rfl) rfl dX4_printedIn_1 (fun E ce q9 H1 locs1 hz hS1 hce hcv hcl => px hex hlk (bK_l hok hz) hS1 hce hcv hcl (Nat.le_of_ble_eq_true rfl) (Nat.le_of_ble_eq_true rfl)) (fun v1 H locs hz1 hP hS0 => ?_)
  have hok := bK_r hok hz1
  refine lv_aload_n hx hb dX4_printedIn_4 rfl (lv_at hl 0 rfl) ?_
  refine va_get (D := (dC, dI)) (ci := 4) (v := .ref t0) (C := RX4) (T := TX4) (N := 5) hx hb hts inX4 hown hK hP 0 rfl rfl 2 (by decide) (hts _ qf_X4_25) (fun _ h9 => h9) rfl dX4_printedIn_5 ?_
  refine lv_aload_n hx hb dX4_printedIn_8 rfl (lv_at hl 0 rfl) ?_
  refine va_get (D := (dC, dI)) (ci := 4) (v := .ref c0) (C := RX4) (T := TX4) (N := 5) hx hb hts inX4 hown hK hP 0 rfl rfl 1 (by decide) (hts _ qf_X4_21) (fun _ h9 => h9) rfl dX4_printedIn_9 ?_
  obtain ⟨v2, hc2, hok⟩ := bd_some hok
  have hS : va_S A s.heap _ _ := va_S0 hS0
  refine cUVv (ci := 0) (q0 := 0) [.ref c0] S hK (cP_TC hP) (cD_TC hD) hS hA (c_X0_copy l dC dI cI cZ t0 t8 t9 t10 t11 t12 t13 c0 c8 c9 c10 c11 c12 c13 h0 _ uT uC hc2) (lw_V qm_X4_218 qi_X0_copy qs_X0_copy qn_X0 qc_X0_copy) hd_X0_copy ⟨rfl, rfl⟩ ⟨Nat.le_of_ble_eq_true rfl, Nat.le_of_ble_eq_true rfl⟩ ⟨Nat.le_of_ble_eq_true rfl, Nat.le_of_ble_eq_true rfl⟩ rfl rfl rfl hl.1 (Nat.le_of_ble_eq_true rfl) rfl dX4_printedIn_12 (fun H1 hk9 h9 => cJ_TC hP hD hk9 h9) (D_N hD) (fun H locs hP hD hS => ?_)
  refine lv_aload_n hx hb dX4_printedIn_15 rfl (lv_at hl 0 rfl) ?_
  refine va_get (D := (dC, dI)) (ci := 4) (v := .ref t0) (C := RX4) (T := TX4) (N := 5) hx hb hts inX4 hown hK hP 0 rfl rfl 2 (by decide) (hts _ qf_X4_25) (fun _ h9 => h9) rfl dX4_printedIn_16 ?_
  refine lv_iload_n hx hb dX4_printedIn_19 rfl (lv_at hl 1 rfl) ?_
  obtain ⟨v3, hc3, hok⟩ := bd_some hok
  refine cUVi (ci := 0) (q0 := 0) [.int a1] S hK (cP_TH hP) (cD_TH hD) hS hA (c_X0_passAndCountPrinted l dC dI cI cZ t0 t8 t9 t10 t11 t12 t13 h0 h3 h4 h5 h6 _ v2 uH a1 hc3) (lw_V qm_X4_225 qi_X0_passAndCountPrinted qs_X0_passAndCountPrinted qn_X0 qc_X0_passAndCountPrinted) hd_X0_passAndCountPrinted ⟨rfl, rfl⟩ ⟨Nat.le_of_ble_eq_true rfl, Nat.le_of_ble_eq_true rfl⟩ ⟨Nat.le_of_ble_eq_true rfl, Nat.le_of_ble_eq_true rfl⟩ rfl rfl rfl hl.1 (Nat.le_of_ble_eq_true rfl) rfl dX4_printedIn_20 (fun H1 hk9 h9 => cJ_TH hP hD hk9 h9) (D_N hD) (fun H locs hP hD hS => ?_)
  exact eXi S hr hlk _ (Option.some.inj hok).symm rfl hP hS (Nat.le_of_ble_eq_true rfl) (Nat.le_of_ble_eq_true rfl) dX4_printedIn_23
theorem hd_X4_subscribersIn : yX4_subscribersIn.cls = RX4 ∧ yX4_subscribersIn.cls ≠ "java/lang/invoke/MethodHandle" ∧ yX4_subscribersIn.cls ≠ "java/lang/invoke/VarHandle" ∧ (parseMethodDescriptor yX4_subscribersIn.desc).map (fun d => d.parameters.length) = some 1 := by decide +kernel
def p_X4_subscribersIn (uH : tX1) (uC : tX0) (uT : tX0) (uI : tX2) (uM : tX3) (a1 : Int32) : Option (String ⊕ (Int32 × tX0)) :=
  bT (p_X4_needForeseeable a1) (fun v1 =>
  bd (p_X0_copy uT uC) (fun v2 =>
  bd (p_X0_passAndCountPrinted v2 uH a1) (fun v3 =>
  bd (p_X0_countSubscribers v3.2 uH) (fun v4 =>
  some (.inr (v4, v3.2))))))
set_option maxHeartbeats 4000000 in
set_option maxRecDepth 100000 in
theorem c_X4_subscribersIn (l : Launch) (hlt : l.stackTraces = false) (dC : Nat → ClassId) (dI : Nat → Nat → Nat) (cI cZ : ClassId) (n0 h0 h3 h4 h5 h6 c0 c8 c9 c10 c11 c12 c13 t0 t8 t9 t10 t11 t12 t13 i0 i1 i2 i3 i4 m0 m1 m2 : Nat) (sz : Nat) (sa : Nat → Nat) (uH : tX1) (uC : tX0) (uT : tX0) (uI : tX2) (uM : tX3) (a1 : Int32) {z : (String ⊕ (Int32 × tX0))} (hok : p_X4_subscribersIn uH uC uT uI uM a1 = some z) : vx_Met l yX4_subscribersIn (Cond.code yX4_subscribersIn cX4_subscribersIn 2 (some .int) :: lw_all) { frames := 7, cells := 1, slots := 6, locals := 112 } (prX (dC, dI) vwCl (TYS cI cZ) (wN cI cZ n0 h0 h3 h4 h5 h6 c0 c8 c9 c10 c11 c12 c13 t0 t8 t9 t10 t11 t12 t13 i0 i1 i2 i3 i4 m0 m1 m2 uH uC uT uI uM) sz sa [.ref n0, .int a1]) (va_Qi (fun (r : Int32) (a : (Int32 × tX0)) => z = .inr a ∧ r = a.1) (fun a t => va_P (dC, dI) vwCl (wN cI cZ n0 h0 h3 h4 h5 h6 c0 c8 c9 c10 c11 c12 c13 t0 t8 t9 t10 t11 t12 t13 i0 i1 i2 i3 i4 m0 m1 m2 uH uC a.2 uI uM) t.heap) (va_A (wN cI cZ n0 h0 h3 h4 h5 h6 c0 c8 c9 c10 c11 c12 c13 t0 t8 t9 t10 t11 t12 t13 i0 i1 i2 i3 i4 m0 m1 m2 uH uC uT uI uM) sz)) (vx_X (fun _ : Unit => True) (fun E _ _ => z = .inl E) (fun _ => False)) 1 6 (va_A (wN cI cZ n0 h0 h3 h4 h5 h6 c0 c8 c9 c10 c11 c12 c13 t0 t8 t9 t10 t11 t12 t13 i0 i1 i2 i3 i4 m0 m1 m2 uH uC uT uI uM) sz) := by
  refine oX (by decide) (Nat.le_of_ble_eq_true rfl) ?_
  intro p e s m args below meth c S hr hlk hex hB ls hl
  have hx := S.1
  have hb := S.2.1
  have hml := S.2.2.1
  have hown : s.vm.findClass RX4 = some m.cls := S.2.2.2.1
  have hts := S.2.2.2.2
  have S : CallFix p m c cX4_subscribersIn 2 s args lw_all RX4 := S
  have hl : lv_has ls 2 [(0, .ref n0), (1, .int a1)] := hl
  obtain ⟨hsz, hP, hK, hD0, hX⟩ := hB
  subst hsz
  have hD := hD0.self (sz := s.heap.size)
  generalize hAe : va_A (wN cI cZ n0 h0 h3 h4 h5 h6 c0 c8 c9 c10 c11 c12 c13 t0 t8 t9 t10 t11 t12 t13 i0 i1 i2 i3 i4 m0 m1 m2 uH uC uT uI uM) s.heap.size = A at hD hX ⊢
  have hA : ∀ q : Nat, s.heap.size ≤ q → A q := fun q h => by rw [← hAe]; exact Or.inr h
  have hS0 : va_S (fun _ => False) s.heap s.heap [] := va_S.rf
  have hP : va_P (dC, dI) vwCl (wN cI cZ n0 h0 h3 h4 h5 h6 c0 c8 c9 c10 c11 c12 c13 t0 t8 t9 t10 t11 t12 t13 i0 i1 i2 i3 i4 m0 m1 m2 uH uC uT uI uM) s.heap := hP
  unfold p_X4_subscribersIn at hok
  refine lv_iload_n hx hb dX4_subscribersIn_0 rfl (lv_at hl 1 rfl) ?_
  obtain ⟨w1, hc1, hok⟩ := bT_some hok
  refine cYSv [.int a1] S hK hP va_Pnil va_Dnil hS0 (va_S0 hS0) hA hX (c_X4_needForeseeable l hlt dC dI cI cZ _ sa a1 hc1) (lw_S qm_X4_222 qt_X4_needForeseeable qn_X4 qc_X4_needForeseeable) hd_X4_needForeseeable ⟨rfl, rfl⟩ ⟨Nat.le_of_ble_eq_true rfl, Nat.le_of_ble_eq_true rfl⟩ ⟨Nat.le_of_ble_eq_true rfl, Nat.le_of_ble_eq_true rfl⟩ rfl hl.1 (Nat.le_of_ble_eq_true rfl) rfl dX4_subscribersIn_1 (fun E ce q9 H1 locs1 hz hS1 hce hcv hcl => px hex hlk (bK_l hok hz) hS1 hce hcv hcl (Nat.le_of_ble_eq_true rfl) (Nat.le_of_ble_eq_true rfl)) (fun v1 H locs hz1 hP hS0 => ?_)
  have hok := bK_r hok hz1
  refine lv_aload_n hx hb dX4_subscribersIn_4 rfl (lv_at hl 0 rfl) ?_
  refine va_get (D := (dC, dI)) (ci := 4) (v := .ref t0) (C := RX4) (T := TX4) (N := 5) hx hb hts inX4 hown hK hP 0 rfl rfl 2 (by decide) (hts _ qf_X4_25) (fun _ h9 => h9) rfl dX4_subscribersIn_5 ?_
  refine lv_aload_n hx hb dX4_subscribersIn_8 rfl (lv_at hl 0 rfl) ?_
  refine va_get (D := (dC, dI)) (ci := 4) (v := .ref c0) (C := RX4) (T := TX4) (N := 5) hx hb hts inX4 hown hK hP 0 rfl rfl 1 (by decide) (hts _ qf_X4_21) (fun _ h9 => h9) rfl dX4_subscribersIn_9 ?_
  obtain ⟨v2, hc2, hok⟩ := bd_some hok
  have hS : va_S A s.heap _ _ := va_S0 hS0
  refine cUVv (ci := 0) (q0 := 0) [.ref c0] S hK (cP_TC hP) (cD_TC hD) hS hA (c_X0_copy l dC dI cI cZ t0 t8 t9 t10 t11 t12 t13 c0 c8 c9 c10 c11 c12 c13 h0 _ uT uC hc2) (lw_V qm_X4_218 qi_X0_copy qs_X0_copy qn_X0 qc_X0_copy) hd_X0_copy ⟨rfl, rfl⟩ ⟨Nat.le_of_ble_eq_true rfl, Nat.le_of_ble_eq_true rfl⟩ ⟨Nat.le_of_ble_eq_true rfl, Nat.le_of_ble_eq_true rfl⟩ rfl rfl rfl hl.1 (Nat.le_of_ble_eq_true rfl) rfl dX4_subscribersIn_12 (fun H1 hk9 h9 => cJ_TC hP hD hk9 h9) (D_N hD) (fun H locs hP hD hS => ?_)
  refine lv_aload_n hx hb dX4_subscribersIn_15 rfl (lv_at hl 0 rfl) ?_
  refine va_get (D := (dC, dI)) (ci := 4) (v := .ref t0) (C := RX4) (T := TX4) (N := 5) hx hb hts inX4 hown hK hP 0 rfl rfl 2 (by decide) (hts _ qf_X4_25) (fun _ h9 => h9) rfl dX4_subscribersIn_16 ?_
  refine lv_iload_n hx hb dX4_subscribersIn_19 rfl (lv_at hl 1 rfl) ?_
  obtain ⟨v3, hc3, hok⟩ := bd_some hok
  refine cUVi (ci := 0) (q0 := 0) [.int a1] S hK (cP_TH hP) (cD_TH hD) hS hA (c_X0_passAndCountPrinted l dC dI cI cZ t0 t8 t9 t10 t11 t12 t13 h0 h3 h4 h5 h6 _ v2 uH a1 hc3) (lw_V qm_X4_225 qi_X0_passAndCountPrinted qs_X0_passAndCountPrinted qn_X0 qc_X0_passAndCountPrinted) hd_X0_passAndCountPrinted ⟨rfl, rfl⟩ ⟨Nat.le_of_ble_eq_true rfl, Nat.le_of_ble_eq_true rfl⟩ ⟨Nat.le_of_ble_eq_true rfl, Nat.le_of_ble_eq_true rfl⟩ rfl rfl rfl hl.1 (Nat.le_of_ble_eq_true rfl) rfl dX4_subscribersIn_20 (fun H1 hk9 h9 => cJ_TH hP hD hk9 h9) (D_N hD) (fun H locs hP hD hS => ?_)
  refine lv_pop hx hb dX4_subscribersIn_23 rfl ?_
  refine lv_aload_n hx hb dX4_subscribersIn_24 rfl (lv_at hl 0 rfl) ?_
  refine va_get (D := (dC, dI)) (ci := 4) (v := .ref t0) (C := RX4) (T := TX4) (N := 5) hx hb hts inX4 hown hK hP 0 rfl rfl 2 (by decide) (hts _ qf_X4_25) (fun _ h9 => h9) rfl dX4_subscribersIn_25 ?_
  obtain ⟨v4, hc4, hok⟩ := bd_some hok
  refine cRVi (ci := 0) (q0 := 0) [] S hK (cP_TH hP) (c_X0_countSubscribers l dC dI cI cZ t0 t8 t9 t10 t11 t12 t13 h0 h3 h4 h5 h6 v3.2 uH hc4) (lw_V qm_X4_60 qi_X0_countSubscribers qs_X0_countSubscribers qn_X0 qc_X0_countSubscribers) hd_X0_countSubscribers ⟨rfl, rfl⟩ ⟨Nat.le_of_ble_eq_true rfl, Nat.le_of_ble_eq_true rfl⟩ ⟨Nat.le_of_ble_eq_true rfl, Nat.le_of_ble_eq_true rfl⟩ rfl rfl rfl hl.1 (Nat.le_of_ble_eq_true rfl) rfl dX4_subscribersIn_28 ?_
  exact eXi S hr hlk _ (Option.some.inj hok).symm rfl hP hS (Nat.le_of_ble_eq_true rfl) (Nat.le_of_ble_eq_true rfl) dX4_subscribersIn_31
theorem hd_X4_bestToCall : yX4_bestToCall.cls = RX4 ∧ yX4_bestToCall.cls ≠ "java/lang/invoke/MethodHandle" ∧ yX4_bestToCall.cls ≠ "java/lang/invoke/VarHandle" ∧ (parseMethodDescriptor yX4_bestToCall.desc).map (fun d => d.parameters.length) = some 1 := by decide +kernel
def p_X4_bestToCall_L11 : Nat → tX1 → tX0 → tX0 → tX2 → tX3 → Int32 → Int32 → Int32 → Int32 → Option (String ⊕ (Int32 × tX0))
  | 0, _, _, _, _, _, _, _, _, _ => none
  | n + 1, uH, uC, uT, uI, uM, l11_1, l11_2, l11_3, l11_4 =>
    if uH.1 ≤ l11_4 then
      some (.inr (l11_2, uT))
    else
      bd (p_X0_copy uT uC) (fun v2 =>
      gd l11_4 12 (
      bd (p_X0_passAndCountPrinted (v2.1, v2.2.1, v2.2.2.1, v2.2.2.2.1, v2.2.2.2.2.1, v2.2.2.2.2.2.1, v2.2.2.2.2.2.2.1, (upd v2.2.2.2.2.2.2.2.1 l11_4.toNatClampNeg (vp_nar .boolean (1 : Int32))), v2.2.2.2.2.2.2.2.2) uH l11_1) (fun v4 =>
      bd (p_X0_sumOfWarmths v4.2 uH) (fun v5 =>
      if v5 ≤ l11_3 then
        (p_X4_bestToCall_L11 n) uH uC v4.2 uI uM l11_1 l11_2 l11_3 (l11_4 + 1)
      else
        (p_X4_bestToCall_L11 n) uH uC v4.2 uI uM l11_1 l11_4 v5 (l11_4 + 1)))))
def p_X4_bestToCall (uH : tX1) (uC : tX0) (uT : tX0) (uI : tX2) (uM : tX3) (a1 : Int32) : Option (String ⊕ (Int32 × tX0)) :=
  bT (p_X4_needForeseeable a1) (fun v1 =>
  p_X4_bestToCall_L11 200 uH uC uT uI uM a1 (-1 : Int32) (-1 : Int32) (0 : Int32))
set_option maxHeartbeats 4000000 in
set_option maxRecDepth 100000 in
theorem c_X4_bestToCall (l : Launch) (hlt : l.stackTraces = false) (dC : Nat → ClassId) (dI : Nat → Nat → Nat) (cI cZ : ClassId) (n0 h0 h3 h4 h5 h6 c0 c8 c9 c10 c11 c12 c13 t0 t8 t9 t10 t11 t12 t13 i0 i1 i2 i3 i4 m0 m1 m2 : Nat) (sz : Nat) (sa : Nat → Nat) (uH : tX1) (uC : tX0) (uT : tX0) (uI : tX2) (uM : tX3) (a1 : Int32) {z : (String ⊕ (Int32 × tX0))} (hok : p_X4_bestToCall uH uC uT uI uM a1 = some z) : vx_Met l yX4_bestToCall (Cond.code yX4_bestToCall cX4_bestToCall 6 (some .int) :: lw_all) { frames := 7, cells := 1, slots := 6, locals := 112 } (prX (dC, dI) vwCl (TYS cI cZ) (wN cI cZ n0 h0 h3 h4 h5 h6 c0 c8 c9 c10 c11 c12 c13 t0 t8 t9 t10 t11 t12 t13 i0 i1 i2 i3 i4 m0 m1 m2 uH uC uT uI uM) sz sa [.ref n0, .int a1]) (va_Qi (fun (r : Int32) (a : (Int32 × tX0)) => z = .inr a ∧ r = a.1) (fun a t => va_P (dC, dI) vwCl (wN cI cZ n0 h0 h3 h4 h5 h6 c0 c8 c9 c10 c11 c12 c13 t0 t8 t9 t10 t11 t12 t13 i0 i1 i2 i3 i4 m0 m1 m2 uH uC a.2 uI uM) t.heap) (va_A (wN cI cZ n0 h0 h3 h4 h5 h6 c0 c8 c9 c10 c11 c12 c13 t0 t8 t9 t10 t11 t12 t13 i0 i1 i2 i3 i4 m0 m1 m2 uH uC uT uI uM) sz)) (vx_X (fun _ : Unit => True) (fun E _ _ => z = .inl E) (fun _ => False)) 1 6 (va_A (wN cI cZ n0 h0 h3 h4 h5 h6 c0 c8 c9 c10 c11 c12 c13 t0 t8 t9 t10 t11 t12 t13 i0 i1 i2 i3 i4 m0 m1 m2 uH uC uT uI uM) sz) := by
  refine oX (by decide) (Nat.le_of_ble_eq_true rfl) ?_
  intro p e s m args below meth c S hr hlk hex hB ls hl
  have hx := S.1
  have hb := S.2.1
  have hml := S.2.2.1
  have hown : s.vm.findClass RX4 = some m.cls := S.2.2.2.1
  have hts := S.2.2.2.2
  have S : CallFix p m c cX4_bestToCall 6 s args lw_all RX4 := S
  have hl : lv_has ls 6 [(0, .ref n0), (1, .int a1)] := hl
  obtain ⟨hsz, hP, hK, hD0, hX⟩ := hB
  subst hsz
  have hD := hD0.self (sz := s.heap.size)
  generalize hAe : va_A (wN cI cZ n0 h0 h3 h4 h5 h6 c0 c8 c9 c10 c11 c12 c13 t0 t8 t9 t10 t11 t12 t13 i0 i1 i2 i3 i4 m0 m1 m2 uH uC uT uI uM) s.heap.size = A at hD hX ⊢
  have hA : ∀ q : Nat, s.heap.size ≤ q → A q := fun q h => by rw [← hAe]; exact Or.inr h
  have hS0 : va_S (fun _ => False) s.heap s.heap [] := va_S.rf
  have hP : va_P (dC, dI) vwCl (wN cI cZ n0 h0 h3 h4 h5 h6 c0 c8 c9 c10 c11 c12 c13 t0 t8 t9 t10 t11 t12 t13 i0 i1 i2 i3 i4 m0 m1 m2 uH uC uT uI uM) s.heap := hP
  have L11 : ∀ n11 : Nat, ∀ (uT : tX0) (l11_1 : Int32) (l11_2 : Int32) (l11_3 : Int32) (l11_4 : Int32) (H : Heap) (locs : List Loc) (hP : va_P (dC, dI) vwCl (wN cI cZ n0 h0 h3 h4 h5 h6 c0 c8 c9 c10 c11 c12 c13 t0 t8 t9 t10 t11 t12 t13 i0 i1 i2 i3 i4 m0 m1 m2 uH uC uT uI uM) H) (hD : va_D A (wN cI cZ n0 h0 h3 h4 h5 h6 c0 c8 c9 c10 c11 c12 c13 t0 t8 t9 t10 t11 t12 t13 i0 i1 i2 i3 i4 m0 m1 m2 uH uC uT uI uM)) (hS : va_S A s.heap H locs) (ls : Array Slot) (hl : lv_has ls 6 [(0, .ref n0), (1, .int l11_1), (2, .int l11_2), (3, .int l11_3), (4, .int l11_4)]) (hok : p_X4_bestToCall_L11 n11 uH uC uT uI uM l11_1 l11_2 l11_3 l11_4 = some z), W p l e { frames := 7, cells := 1, slots := 6, locals := 112 } s m args below meth c H locs (0 + 1) (0 + 6) (vx_MQ below (va_Qi (fun (r : Int32) (a : (Int32 × tX0)) => z = .inr a ∧ r = a.1) (fun a t => va_P (dC, dI) vwCl (wN cI cZ n0 h0 h3 h4 h5 h6 c0 c8 c9 c10 c11 c12 c13 t0 t8 t9 t10 t11 t12 t13 i0 i1 i2 i3 i4 m0 m1 m2 uH uC a.2 uI uM) t.heap) A) (vx_X (fun _ : Unit => True) (fun E _ _ => z = .inl E) (fun _ => False)) args s 1 6 A) (F0 m 11 ls []) := by
    intro n11
    induction n11 with
    | zero =>
      intro uT l11_1 l11_2 l11_3 l11_4 H locs hP hD hS ls hl hok
      rw [p_X4_bestToCall_L11] at hok
      cases hok
    | succ n11 ih11 =>
      intro uT l11_1 l11_2 l11_3 l11_4 H locs hP hD hS ls hl hok
      rw [p_X4_bestToCall_L11] at hok
      refine lv_iload hx hb dX4_bestToCall_11 (lv_at hl 4 rfl) ?_
      refine lv_aload_n hx hb dX4_bestToCall_13 rfl (lv_at hl 0 rfl) ?_
      refine va_get (D := (dC, dI)) (ci := 4) (v := .ref h0) (C := RX4) (T := TX4) (N := 5) hx hb hts inX4 hown hK hP 0 rfl rfl 0 (by decide) (hts _ qf_X4_12) (fun _ h9 => h9) rfl dX4_bestToCall_14 ?_
      refine va_get (D := (dC, dI)) (ci := 1) (v := .int uH.1) (C := RX1) (T := TX1) (N := 7) hx hb hts inX1 hown hK hP 1 rfl rfl 0 (by decide) (hts _ qf_X4_148) (fun _ h9 => h9) rfl dX4_bestToCall_17 ?_
      refine lv_icmp_ge (tgt := 81) hx hb dX4_bestToCall_20 (by decide) (fun hc => ?_) (fun hc => ?_)
      · have hok := ip hok hc
        refine lv_iload_n hx hb dX4_bestToCall_81 rfl (lv_at hl 2 rfl) ?_
        exact eXi S hr hlk _ (Option.some.inj hok).symm rfl hP hS (Nat.le_of_ble_eq_true rfl) (Nat.le_of_ble_eq_true rfl) dX4_bestToCall_82
      · have hok := iq hok hc
        refine lv_aload_n hx hb dX4_bestToCall_23 rfl (lv_at hl 0 rfl) ?_
        refine va_get (D := (dC, dI)) (ci := 4) (v := .ref t0) (C := RX4) (T := TX4) (N := 5) hx hb hts inX4 hown hK hP 0 rfl rfl 2 (by decide) (hts _ qf_X4_25) (fun _ h9 => h9) rfl dX4_bestToCall_24 ?_
        refine lv_aload_n hx hb dX4_bestToCall_27 rfl (lv_at hl 0 rfl) ?_
        refine va_get (D := (dC, dI)) (ci := 4) (v := .ref c0) (C := RX4) (T := TX4) (N := 5) hx hb hts inX4 hown hK hP 0 rfl rfl 1 (by decide) (hts _ qf_X4_21) (fun _ h9 => h9) rfl dX4_bestToCall_28 ?_
        obtain ⟨v2, hc2, hok⟩ := bd_some hok
        refine cUVv (ci := 0) (q0 := 0) [.ref c0] S hK (cP_TC hP) (cD_TC hD) hS hA (c_X0_copy l dC dI cI cZ t0 t8 t9 t10 t11 t12 t13 c0 c8 c9 c10 c11 c12 c13 h0 _ uT uC hc2) (lw_V qm_X4_218 qi_X0_copy qs_X0_copy qn_X0 qc_X0_copy) hd_X0_copy ⟨rfl, rfl⟩ ⟨Nat.le_of_ble_eq_true rfl, Nat.le_of_ble_eq_true rfl⟩ ⟨Nat.le_of_ble_eq_true rfl, Nat.le_of_ble_eq_true rfl⟩ rfl rfl rfl hl.1 (Nat.le_of_ble_eq_true rfl) rfl dX4_bestToCall_31 (fun H1 hk9 h9 => cJ_TC hP hD hk9 h9) (D_N hD) (fun H locs hP hD hS => ?_)
        refine lv_aload_n hx hb dX4_bestToCall_34 rfl (lv_at hl 0 rfl) ?_
        refine va_get (D := (dC, dI)) (ci := 4) (v := .ref t0) (C := RX4) (T := TX4) (N := 5) hx hb hts inX4 hown hK hP 0 rfl rfl 2 (by decide) (hts _ qf_X4_25) (fun _ h9 => h9) rfl dX4_bestToCall_35 ?_
        refine va_get (D := (dC, dI)) (ci := 0) (v := .ref t8) (C := RX0) (T := TX0) (N := 14) hx hb hts inX0 hown hK hP 13 rfl rfl 8 (by decide) (hts _ qf_X4_122) (fun _ h9 => h9) rfl dX4_bestToCall_38 ?_
        refine lv_iload hx hb dX4_bestToCall_41 (lv_at hl 4 rfl) ?_
        refine lv_iconst (v := (1 : Int32)) hx hb dX4_bestToCall_43 (by decide) ?_
        obtain ⟨hi3, hok⟩ := gd_some hok
        refine va_zast hx hb hK hP hD hS 14 1 rfl rfl hi3 dX4_bestToCall_44 (fun H locs hP _ hS => ?_)
        have hP : va_P (dC, dI) vwCl (wN cI cZ n0 h0 h3 h4 h5 h6 c0 c8 c9 c10 c11 c12 c13 t0 t8 t9 t10 t11 t12 t13 i0 i1 i2 i3 i4 m0 m1 m2 uH uC (v2.1, v2.2.1, v2.2.2.1, v2.2.2.2.1, v2.2.2.2.2.1, v2.2.2.2.2.2.1, v2.2.2.2.2.2.2.1, (upd v2.2.2.2.2.2.2.2.1 l11_4.toNatClampNeg (vp_nar .boolean (1 : Int32))), v2.2.2.2.2.2.2.2.2) uI uM) H := hP
        have hD : va_D A (wN cI cZ n0 h0 h3 h4 h5 h6 c0 c8 c9 c10 c11 c12 c13 t0 t8 t9 t10 t11 t12 t13 i0 i1 i2 i3 i4 m0 m1 m2 uH uC (v2.1, v2.2.1, v2.2.2.1, v2.2.2.2.1, v2.2.2.2.2.1, v2.2.2.2.2.2.1, v2.2.2.2.2.2.2.1, (upd v2.2.2.2.2.2.2.2.1 l11_4.toNatClampNeg (vp_nar .boolean (1 : Int32))), v2.2.2.2.2.2.2.2.2) uI uM) := D_N hD
        refine lv_aload_n hx hb dX4_bestToCall_45 rfl (lv_at hl 0 rfl) ?_
        refine va_get (D := (dC, dI)) (ci := 4) (v := .ref t0) (C := RX4) (T := TX4) (N := 5) hx hb hts inX4 hown hK hP 0 rfl rfl 2 (by decide) (hts _ qf_X4_25) (fun _ h9 => h9) rfl dX4_bestToCall_46 ?_
        refine lv_iload_n hx hb dX4_bestToCall_49 rfl (lv_at hl 1 rfl) ?_
        obtain ⟨v4, hc4, hok⟩ := bd_some hok
        refine cUVi (ci := 0) (q0 := 0) [.int l11_1] S hK (cP_TH hP) (cD_TH hD) hS hA (c_X0_passAndCountPrinted l dC dI cI cZ t0 t8 t9 t10 t11 t12 t13 h0 h3 h4 h5 h6 _ (v2.1, v2.2.1, v2.2.2.1, v2.2.2.2.1, v2.2.2.2.2.1, v2.2.2.2.2.2.1, v2.2.2.2.2.2.2.1, (upd v2.2.2.2.2.2.2.2.1 l11_4.toNatClampNeg (vp_nar .boolean (1 : Int32))), v2.2.2.2.2.2.2.2.2) uH l11_1 hc4) (lw_V qm_X4_225 qi_X0_passAndCountPrinted qs_X0_passAndCountPrinted qn_X0 qc_X0_passAndCountPrinted) hd_X0_passAndCountPrinted ⟨rfl, rfl⟩ ⟨Nat.le_of_ble_eq_true rfl, Nat.le_of_ble_eq_true rfl⟩ ⟨Nat.le_of_ble_eq_true rfl, Nat.le_of_ble_eq_true rfl⟩ rfl rfl rfl hl.1 (Nat.le_of_ble_eq_true rfl) rfl dX4_bestToCall_50 (fun H1 hk9 h9 => cJ_TH hP hD hk9 h9) (D_N hD) (fun H locs hP hD hS => ?_)
        refine lv_pop hx hb dX4_bestToCall_53 rfl ?_
        refine lv_aload_n hx hb dX4_bestToCall_54 rfl (lv_at hl 0 rfl) ?_
        refine va_get (D := (dC, dI)) (ci := 4) (v := .ref t0) (C := RX4) (T := TX4) (N := 5) hx hb hts inX4 hown hK hP 0 rfl rfl 2 (by decide) (hts _ qf_X4_25) (fun _ h9 => h9) rfl dX4_bestToCall_55 ?_
        obtain ⟨v5, hc5, hok⟩ := bd_some hok
        refine cRVi (ci := 0) (q0 := 0) [] S hK (cP_TH hP) (c_X0_sumOfWarmths l dC dI cI cZ t0 t8 t9 t10 t11 t12 t13 h0 h3 h4 h5 h6 v4.2 uH hc5) (lw_V qm_X4_228 qi_X0_sumOfWarmths qs_X0_sumOfWarmths qn_X0 qc_X0_sumOfWarmths) hd_X0_sumOfWarmths ⟨rfl, rfl⟩ ⟨Nat.le_of_ble_eq_true rfl, Nat.le_of_ble_eq_true rfl⟩ ⟨Nat.le_of_ble_eq_true rfl, Nat.le_of_ble_eq_true rfl⟩ rfl rfl rfl hl.1 (Nat.le_of_ble_eq_true rfl) rfl dX4_bestToCall_58 ?_
        refine lv_istore (lv' := [(5, .int v5), (0, .ref n0), (1, .int l11_1), (2, .int l11_2), (3, .int l11_3), (4, .int l11_4)]) hx hb dX4_bestToCall_61 hl (by decide) rfl (fun ls hl => ?_)
        refine lv_iload hx hb dX4_bestToCall_63 (lv_at hl 0 rfl) ?_
        refine lv_iload_n hx hb dX4_bestToCall_65 rfl (lv_at hl 4 rfl) ?_
        refine lv_icmp_le (tgt := 75) hx hb dX4_bestToCall_66 (by decide) (fun hc => ?_) (fun hc => ?_)
        · have hok := ip hok hc
          refine lv_iinc (v := (l11_4 + 1)) (lv' := [(4, .int (l11_4 + 1)), (5, .int v5), (0, .ref n0), (1, .int l11_1), (2, .int l11_2), (3, .int l11_3)]) hx hb dX4_bestToCall_75 hl (k := 5) rfl rfl (by decide) rfl (fun ls hl => ?_)
          refine lv_goto (tgt := 11) hx hb dX4_bestToCall_78 (by decide) ?_
          exact ih11 v4.2 l11_1 l11_2 l11_3 (l11_4 + 1) _ _ hP hD hS _ (lv_sub hl [2, 3, 4, 5, 0] rfl) hok
        · have hok := iq hok hc
          refine lv_iload hx hb dX4_bestToCall_69 (lv_at hl 0 rfl) ?_
          refine lv_istore_n (lv' := [(3, .int v5), (5, .int v5), (0, .ref n0), (1, .int l11_1), (2, .int l11_2), (4, .int l11_4)]) hx hb dX4_bestToCall_71 rfl hl (by decide) rfl (fun ls hl => ?_)
          refine lv_iload hx hb dX4_bestToCall_72 (lv_at hl 5 rfl) ?_
          refine lv_istore_n (lv' := [(2, .int l11_4), (3, .int v5), (5, .int v5), (0, .ref n0), (1, .int l11_1), (4, .int l11_4)]) hx hb dX4_bestToCall_74 rfl hl (by decide) rfl (fun ls hl => ?_)
          refine lv_iinc (v := (l11_4 + 1)) (lv' := [(4, .int (l11_4 + 1)), (2, .int l11_4), (3, .int v5), (5, .int v5), (0, .ref n0), (1, .int l11_1)]) hx hb dX4_bestToCall_75 hl (k := 5) rfl rfl (by decide) rfl (fun ls hl => ?_)
          refine lv_goto (tgt := 11) hx hb dX4_bestToCall_78 (by decide) ?_
          exact ih11 v4.2 l11_1 l11_4 v5 (l11_4 + 1) _ _ hP hD hS _ (lv_sub hl [4, 5, 1, 2, 0] rfl) hok
  unfold p_X4_bestToCall at hok
  refine lv_iload_n hx hb dX4_bestToCall_0 rfl (lv_at hl 1 rfl) ?_
  obtain ⟨w1, hc1, hok⟩ := bT_some hok
  refine cYSv [.int a1] S hK hP va_Pnil va_Dnil hS0 (va_S0 hS0) hA hX (c_X4_needForeseeable l hlt dC dI cI cZ _ sa a1 hc1) (lw_S qm_X4_222 qt_X4_needForeseeable qn_X4 qc_X4_needForeseeable) hd_X4_needForeseeable ⟨rfl, rfl⟩ ⟨Nat.le_of_ble_eq_true rfl, Nat.le_of_ble_eq_true rfl⟩ ⟨Nat.le_of_ble_eq_true rfl, Nat.le_of_ble_eq_true rfl⟩ rfl hl.1 (Nat.le_of_ble_eq_true rfl) rfl dX4_bestToCall_1 (fun E ce q9 H1 locs1 hz hS1 hce hcv hcl => px hex hlk (bK_l hok hz) hS1 hce hcv hcl (Nat.le_of_ble_eq_true rfl) (Nat.le_of_ble_eq_true rfl)) (fun v1 H locs hz1 hP hS0 => ?_)
  have hok := bK_r hok hz1
  refine lv_iconst (v := (-1 : Int32)) hx hb dX4_bestToCall_4 (by decide) ?_
  refine lv_istore_n (lv' := [(2, .int (-1 : Int32)), (0, .ref n0), (1, .int a1)]) hx hb dX4_bestToCall_5 rfl hl (by decide) rfl (fun ls hl => ?_)
  refine lv_iconst (v := (-1 : Int32)) hx hb dX4_bestToCall_6 (by decide) ?_
  refine lv_istore_n (lv' := [(3, .int (-1 : Int32)), (2, .int (-1 : Int32)), (0, .ref n0), (1, .int a1)]) hx hb dX4_bestToCall_7 rfl hl (by decide) rfl (fun ls hl => ?_)
  refine lv_iconst (v := (0 : Int32)) hx hb dX4_bestToCall_8 (by decide) ?_
  refine lv_istore (lv' := [(4, .int (0 : Int32)), (3, .int (-1 : Int32)), (2, .int (-1 : Int32)), (0, .ref n0), (1, .int a1)]) hx hb dX4_bestToCall_9 hl (by decide) rfl (fun ls hl => ?_)
  have hS : va_S A s.heap _ _ := va_S0 hS0
  exact L11 200 uT a1 (-1 : Int32) (-1 : Int32) (0 : Int32) _ _ hP hD hS _ (lv_sub hl [3, 4, 2, 1, 0] rfl) hok
theorem hd_X4_bestToAllow : yX4_bestToAllow.cls = RX4 ∧ yX4_bestToAllow.cls ≠ "java/lang/invoke/MethodHandle" ∧ yX4_bestToAllow.cls ≠ "java/lang/invoke/VarHandle" ∧ (parseMethodDescriptor yX4_bestToAllow.desc).map (fun d => d.parameters.length) = some 1 := by decide +kernel
def p_X4_bestToAllow_L37 : Nat → tX1 → tX0 → tX0 → tX2 → tX3 → Int32 → Int32 → Int32 → Int32 → Option (String ⊕ (Int32 × tX0))
  | 0, _, _, _, _, _, _, _, _, _ => none
  | n + 1, uH, uC, uT, uI, uM, l37_1, l37_2, l37_3, l37_4 =>
    if (8 : Int32) ≤ l37_4 then
      some (.inr (l37_2, uT))
    else
      gd l37_4 8 (
      if (uC.2.2.2.2.2.2.2.2.2.2.1 l37_4.toNatClampNeg) = 0 then
        (p_X4_bestToAllow_L37 n) uH uC uT uI uM l37_1 l37_2 l37_3 (l37_4 + 1)
      else
        bd (p_X0_copy uT uC) (fun v6 =>
        bd (p_X0_passAndCountPrinted (v6.1, v6.2.1, v6.2.2.1, v6.2.2.2.1, v6.2.2.2.2.1, v6.2.2.2.2.2.1, v6.2.2.2.2.2.2.1, v6.2.2.2.2.2.2.2.1, v6.2.2.2.2.2.2.2.2.1, v6.2.2.2.2.2.2.2.2.2.1, (upd v6.2.2.2.2.2.2.2.2.2.2.1 l37_4.toNatClampNeg (vp_nar .boolean (0 : Int32))), v6.2.2.2.2.2.2.2.2.2.2.2) uH l37_1) (fun v7 =>
        bd (p_X0_countCut v7.2 uH) (fun v8 =>
        if l37_3 ≤ v8 then
          (p_X4_bestToAllow_L37 n) uH uC v7.2 uI uM l37_1 l37_2 l37_3 (l37_4 + 1)
        else
          (p_X4_bestToAllow_L37 n) uH uC v7.2 uI uM l37_1 l37_4 v8 (l37_4 + 1)))))
def p_X4_bestToAllow (uH : tX1) (uC : tX0) (uT : tX0) (uI : tX2) (uM : tX3) (a1 : Int32) : Option (String ⊕ (Int32 × tX0)) :=
  bT (p_X4_needForeseeable a1) (fun v1 =>
  bd (p_X0_copy uT uC) (fun v2 =>
  bd (p_X0_passAndCountPrinted v2 uH a1) (fun v3 =>
  bd (p_X0_countCut v3.2 uH) (fun v4 =>
  p_X4_bestToAllow_L37 200 uH uC v3.2 uI uM a1 (-1 : Int32) v4 (0 : Int32)))))
set_option maxHeartbeats 4000000 in
set_option maxRecDepth 100000 in
theorem c_X4_bestToAllow (l : Launch) (hlt : l.stackTraces = false) (dC : Nat → ClassId) (dI : Nat → Nat → Nat) (cI cZ : ClassId) (n0 h0 h3 h4 h5 h6 c0 c8 c9 c10 c11 c12 c13 t0 t8 t9 t10 t11 t12 t13 i0 i1 i2 i3 i4 m0 m1 m2 : Nat) (sz : Nat) (sa : Nat → Nat) (uH : tX1) (uC : tX0) (uT : tX0) (uI : tX2) (uM : tX3) (a1 : Int32) {z : (String ⊕ (Int32 × tX0))} (hok : p_X4_bestToAllow uH uC uT uI uM a1 = some z) : vx_Met l yX4_bestToAllow (Cond.code yX4_bestToAllow cX4_bestToAllow 6 (some .int) :: lw_all) { frames := 7, cells := 1, slots := 6, locals := 112 } (prX (dC, dI) vwCl (TYS cI cZ) (wN cI cZ n0 h0 h3 h4 h5 h6 c0 c8 c9 c10 c11 c12 c13 t0 t8 t9 t10 t11 t12 t13 i0 i1 i2 i3 i4 m0 m1 m2 uH uC uT uI uM) sz sa [.ref n0, .int a1]) (va_Qi (fun (r : Int32) (a : (Int32 × tX0)) => z = .inr a ∧ r = a.1) (fun a t => va_P (dC, dI) vwCl (wN cI cZ n0 h0 h3 h4 h5 h6 c0 c8 c9 c10 c11 c12 c13 t0 t8 t9 t10 t11 t12 t13 i0 i1 i2 i3 i4 m0 m1 m2 uH uC a.2 uI uM) t.heap) (va_A (wN cI cZ n0 h0 h3 h4 h5 h6 c0 c8 c9 c10 c11 c12 c13 t0 t8 t9 t10 t11 t12 t13 i0 i1 i2 i3 i4 m0 m1 m2 uH uC uT uI uM) sz)) (vx_X (fun _ : Unit => True) (fun E _ _ => z = .inl E) (fun _ => False)) 1 6 (va_A (wN cI cZ n0 h0 h3 h4 h5 h6 c0 c8 c9 c10 c11 c12 c13 t0 t8 t9 t10 t11 t12 t13 i0 i1 i2 i3 i4 m0 m1 m2 uH uC uT uI uM) sz) := by
  refine oX (by decide) (Nat.le_of_ble_eq_true rfl) ?_
  intro p e s m args below meth c S hr hlk hex hB ls hl
  have hx := S.1
  have hb := S.2.1
  have hml := S.2.2.1
  have hown : s.vm.findClass RX4 = some m.cls := S.2.2.2.1
  have hts := S.2.2.2.2
  have S : CallFix p m c cX4_bestToAllow 6 s args lw_all RX4 := S
  have hl : lv_has ls 6 [(0, .ref n0), (1, .int a1)] := hl
  obtain ⟨hsz, hP, hK, hD0, hX⟩ := hB
  subst hsz
  have hD := hD0.self (sz := s.heap.size)
  generalize hAe : va_A (wN cI cZ n0 h0 h3 h4 h5 h6 c0 c8 c9 c10 c11 c12 c13 t0 t8 t9 t10 t11 t12 t13 i0 i1 i2 i3 i4 m0 m1 m2 uH uC uT uI uM) s.heap.size = A at hD hX ⊢
  have hA : ∀ q : Nat, s.heap.size ≤ q → A q := fun q h => by rw [← hAe]; exact Or.inr h
  have hS0 : va_S (fun _ => False) s.heap s.heap [] := va_S.rf
  have hP : va_P (dC, dI) vwCl (wN cI cZ n0 h0 h3 h4 h5 h6 c0 c8 c9 c10 c11 c12 c13 t0 t8 t9 t10 t11 t12 t13 i0 i1 i2 i3 i4 m0 m1 m2 uH uC uT uI uM) s.heap := hP
  have L37 : ∀ n37 : Nat, ∀ (uT : tX0) (l37_1 : Int32) (l37_2 : Int32) (l37_3 : Int32) (l37_4 : Int32) (H : Heap) (locs : List Loc) (hP : va_P (dC, dI) vwCl (wN cI cZ n0 h0 h3 h4 h5 h6 c0 c8 c9 c10 c11 c12 c13 t0 t8 t9 t10 t11 t12 t13 i0 i1 i2 i3 i4 m0 m1 m2 uH uC uT uI uM) H) (hD : va_D A (wN cI cZ n0 h0 h3 h4 h5 h6 c0 c8 c9 c10 c11 c12 c13 t0 t8 t9 t10 t11 t12 t13 i0 i1 i2 i3 i4 m0 m1 m2 uH uC uT uI uM)) (hS : va_S A s.heap H locs) (ls : Array Slot) (hl : lv_has ls 6 [(0, .ref n0), (1, .int l37_1), (2, .int l37_2), (3, .int l37_3), (4, .int l37_4)]) (hok : p_X4_bestToAllow_L37 n37 uH uC uT uI uM l37_1 l37_2 l37_3 l37_4 = some z), W p l e { frames := 7, cells := 1, slots := 6, locals := 112 } s m args below meth c H locs (0 + 1) (0 + 6) (vx_MQ below (va_Qi (fun (r : Int32) (a : (Int32 × tX0)) => z = .inr a ∧ r = a.1) (fun a t => va_P (dC, dI) vwCl (wN cI cZ n0 h0 h3 h4 h5 h6 c0 c8 c9 c10 c11 c12 c13 t0 t8 t9 t10 t11 t12 t13 i0 i1 i2 i3 i4 m0 m1 m2 uH uC a.2 uI uM) t.heap) A) (vx_X (fun _ : Unit => True) (fun E _ _ => z = .inl E) (fun _ => False)) args s 1 6 A) (F0 m 37 ls []) := by
    intro n37
    induction n37 with
    | zero =>
      intro uT l37_1 l37_2 l37_3 l37_4 H locs hP hD hS ls hl hok
      rw [p_X4_bestToAllow_L37] at hok
      cases hok
    | succ n37 ih37 =>
      intro uT l37_1 l37_2 l37_3 l37_4 H locs hP hD hS ls hl hok
      rw [p_X4_bestToAllow_L37] at hok
      refine lv_iload hx hb dX4_bestToAllow_37 (lv_at hl 4 rfl) ?_
      refine lv_bipush (v := (8 : Int32)) hx hb dX4_bestToAllow_39 (by decide) ?_
      refine lv_icmp_ge (tgt := 118) hx hb dX4_bestToAllow_41 (by decide) (fun hc => ?_) (fun hc => ?_)
      · have hok := ip hok hc
        refine lv_iload_n hx hb dX4_bestToAllow_118 rfl (lv_at hl 2 rfl) ?_
        exact eXi S hr hlk _ (Option.some.inj hok).symm rfl hP hS (Nat.le_of_ble_eq_true rfl) (Nat.le_of_ble_eq_true rfl) dX4_bestToAllow_119
      · have hok := iq hok hc
        refine lv_aload_n hx hb dX4_bestToAllow_44 rfl (lv_at hl 0 rfl) ?_
        refine va_get (D := (dC, dI)) (ci := 4) (v := .ref c0) (C := RX4) (T := TX4) (N := 5) hx hb hts inX4 hown hK hP 0 rfl rfl 1 (by decide) (hts _ qf_X4_21) (fun _ h9 => h9) rfl dX4_bestToAllow_45 ?_
        refine va_get (D := (dC, dI)) (ci := 0) (v := .ref c11) (C := RX0) (T := TX0) (N := 14) hx hb hts inX0 hown hK hP 6 rfl rfl 11 (by decide) (hts _ qf_X4_89) (fun _ h9 => h9) rfl dX4_bestToAllow_48 ?_
        refine lv_iload hx hb dX4_bestToAllow_51 (lv_at hl 4 rfl) ?_
        obtain ⟨hi5, hok⟩ := gd_some hok
        refine va_zald hx hb hK hP 10 1 rfl rfl hi5 dX4_bestToAllow_53 ?_
        refine lv_if_ne (tgt := 60) hx hb dX4_bestToAllow_54 (by decide) (fun hc => ?_) (fun hc => ?_)
        · have hok := iq hok hc
          refine lv_aload_n hx hb dX4_bestToAllow_60 rfl (lv_at hl 0 rfl) ?_
          refine va_get (D := (dC, dI)) (ci := 4) (v := .ref t0) (C := RX4) (T := TX4) (N := 5) hx hb hts inX4 hown hK hP 0 rfl rfl 2 (by decide) (hts _ qf_X4_25) (fun _ h9 => h9) rfl dX4_bestToAllow_61 ?_
          refine lv_aload_n hx hb dX4_bestToAllow_64 rfl (lv_at hl 0 rfl) ?_
          refine va_get (D := (dC, dI)) (ci := 4) (v := .ref c0) (C := RX4) (T := TX4) (N := 5) hx hb hts inX4 hown hK hP 0 rfl rfl 1 (by decide) (hts _ qf_X4_21) (fun _ h9 => h9) rfl dX4_bestToAllow_65 ?_
          obtain ⟨v6, hc6, hok⟩ := bd_some hok
          refine cUVv (ci := 0) (q0 := 0) [.ref c0] S hK (cP_TC hP) (cD_TC hD) hS hA (c_X0_copy l dC dI cI cZ t0 t8 t9 t10 t11 t12 t13 c0 c8 c9 c10 c11 c12 c13 h0 _ uT uC hc6) (lw_V qm_X4_218 qi_X0_copy qs_X0_copy qn_X0 qc_X0_copy) hd_X0_copy ⟨rfl, rfl⟩ ⟨Nat.le_of_ble_eq_true rfl, Nat.le_of_ble_eq_true rfl⟩ ⟨Nat.le_of_ble_eq_true rfl, Nat.le_of_ble_eq_true rfl⟩ rfl rfl rfl hl.1 (Nat.le_of_ble_eq_true rfl) rfl dX4_bestToAllow_68 (fun H1 hk9 h9 => cJ_TC hP hD hk9 h9) (D_N hD) (fun H locs hP hD hS => ?_)
          refine lv_aload_n hx hb dX4_bestToAllow_71 rfl (lv_at hl 0 rfl) ?_
          refine va_get (D := (dC, dI)) (ci := 4) (v := .ref t0) (C := RX4) (T := TX4) (N := 5) hx hb hts inX4 hown hK hP 0 rfl rfl 2 (by decide) (hts _ qf_X4_25) (fun _ h9 => h9) rfl dX4_bestToAllow_72 ?_
          refine va_get (D := (dC, dI)) (ci := 0) (v := .ref t11) (C := RX0) (T := TX0) (N := 14) hx hb hts inX0 hown hK hP 13 rfl rfl 11 (by decide) (hts _ qf_X4_89) (fun _ h9 => h9) rfl dX4_bestToAllow_75 ?_
          refine lv_iload hx hb dX4_bestToAllow_78 (lv_at hl 4 rfl) ?_
          refine lv_iconst (v := (0 : Int32)) hx hb dX4_bestToAllow_80 (by decide) ?_
          refine va_zast hx hb hK hP hD hS 17 1 rfl rfl hi5 dX4_bestToAllow_81 (fun H locs hP _ hS => ?_)
          have hP : va_P (dC, dI) vwCl (wN cI cZ n0 h0 h3 h4 h5 h6 c0 c8 c9 c10 c11 c12 c13 t0 t8 t9 t10 t11 t12 t13 i0 i1 i2 i3 i4 m0 m1 m2 uH uC (v6.1, v6.2.1, v6.2.2.1, v6.2.2.2.1, v6.2.2.2.2.1, v6.2.2.2.2.2.1, v6.2.2.2.2.2.2.1, v6.2.2.2.2.2.2.2.1, v6.2.2.2.2.2.2.2.2.1, v6.2.2.2.2.2.2.2.2.2.1, (upd v6.2.2.2.2.2.2.2.2.2.2.1 l37_4.toNatClampNeg (vp_nar .boolean (0 : Int32))), v6.2.2.2.2.2.2.2.2.2.2.2) uI uM) H := hP
          have hD : va_D A (wN cI cZ n0 h0 h3 h4 h5 h6 c0 c8 c9 c10 c11 c12 c13 t0 t8 t9 t10 t11 t12 t13 i0 i1 i2 i3 i4 m0 m1 m2 uH uC (v6.1, v6.2.1, v6.2.2.1, v6.2.2.2.1, v6.2.2.2.2.1, v6.2.2.2.2.2.1, v6.2.2.2.2.2.2.1, v6.2.2.2.2.2.2.2.1, v6.2.2.2.2.2.2.2.2.1, v6.2.2.2.2.2.2.2.2.2.1, (upd v6.2.2.2.2.2.2.2.2.2.2.1 l37_4.toNatClampNeg (vp_nar .boolean (0 : Int32))), v6.2.2.2.2.2.2.2.2.2.2.2) uI uM) := D_N hD
          refine lv_aload_n hx hb dX4_bestToAllow_82 rfl (lv_at hl 0 rfl) ?_
          refine va_get (D := (dC, dI)) (ci := 4) (v := .ref t0) (C := RX4) (T := TX4) (N := 5) hx hb hts inX4 hown hK hP 0 rfl rfl 2 (by decide) (hts _ qf_X4_25) (fun _ h9 => h9) rfl dX4_bestToAllow_83 ?_
          refine lv_iload_n hx hb dX4_bestToAllow_86 rfl (lv_at hl 1 rfl) ?_
          obtain ⟨v7, hc7, hok⟩ := bd_some hok
          refine cUVi (ci := 0) (q0 := 0) [.int l37_1] S hK (cP_TH hP) (cD_TH hD) hS hA (c_X0_passAndCountPrinted l dC dI cI cZ t0 t8 t9 t10 t11 t12 t13 h0 h3 h4 h5 h6 _ (v6.1, v6.2.1, v6.2.2.1, v6.2.2.2.1, v6.2.2.2.2.1, v6.2.2.2.2.2.1, v6.2.2.2.2.2.2.1, v6.2.2.2.2.2.2.2.1, v6.2.2.2.2.2.2.2.2.1, v6.2.2.2.2.2.2.2.2.2.1, (upd v6.2.2.2.2.2.2.2.2.2.2.1 l37_4.toNatClampNeg (vp_nar .boolean (0 : Int32))), v6.2.2.2.2.2.2.2.2.2.2.2) uH l37_1 hc7) (lw_V qm_X4_225 qi_X0_passAndCountPrinted qs_X0_passAndCountPrinted qn_X0 qc_X0_passAndCountPrinted) hd_X0_passAndCountPrinted ⟨rfl, rfl⟩ ⟨Nat.le_of_ble_eq_true rfl, Nat.le_of_ble_eq_true rfl⟩ ⟨Nat.le_of_ble_eq_true rfl, Nat.le_of_ble_eq_true rfl⟩ rfl rfl rfl hl.1 (Nat.le_of_ble_eq_true rfl) rfl dX4_bestToAllow_87 (fun H1 hk9 h9 => cJ_TH hP hD hk9 h9) (D_N hD) (fun H locs hP hD hS => ?_)
          refine lv_pop hx hb dX4_bestToAllow_90 rfl ?_
          refine lv_aload_n hx hb dX4_bestToAllow_91 rfl (lv_at hl 0 rfl) ?_
          refine va_get (D := (dC, dI)) (ci := 4) (v := .ref t0) (C := RX4) (T := TX4) (N := 5) hx hb hts inX4 hown hK hP 0 rfl rfl 2 (by decide) (hts _ qf_X4_25) (fun _ h9 => h9) rfl dX4_bestToAllow_92 ?_
          obtain ⟨v8, hc8, hok⟩ := bd_some hok
          refine cRVi (ci := 0) (q0 := 0) [] S hK (cP_TH hP) (c_X0_countCut l dC dI cI cZ t0 t8 t9 t10 t11 t12 t13 h0 h3 h4 h5 h6 v7.2 uH hc8) (lw_V qm_X4_173 qi_X0_countCut qs_X0_countCut qn_X0 qc_X0_countCut) hd_X0_countCut ⟨rfl, rfl⟩ ⟨Nat.le_of_ble_eq_true rfl, Nat.le_of_ble_eq_true rfl⟩ ⟨Nat.le_of_ble_eq_true rfl, Nat.le_of_ble_eq_true rfl⟩ rfl rfl rfl hl.1 (Nat.le_of_ble_eq_true rfl) rfl dX4_bestToAllow_95 ?_
          refine lv_istore (lv' := [(5, .int v8), (0, .ref n0), (1, .int l37_1), (2, .int l37_2), (3, .int l37_3), (4, .int l37_4)]) hx hb dX4_bestToAllow_98 hl (by decide) rfl (fun ls hl => ?_)
          refine lv_iload hx hb dX4_bestToAllow_100 (lv_at hl 0 rfl) ?_
          refine lv_iload_n hx hb dX4_bestToAllow_102 rfl (lv_at hl 4 rfl) ?_
          refine lv_icmp_ge (tgt := 112) hx hb dX4_bestToAllow_103 (by decide) (fun hc => ?_) (fun hc => ?_)
          · have hok := ip hok hc
            refine lv_iinc (v := (l37_4 + 1)) (lv' := [(4, .int (l37_4 + 1)), (5, .int v8), (0, .ref n0), (1, .int l37_1), (2, .int l37_2), (3, .int l37_3)]) hx hb dX4_bestToAllow_112 hl (k := 5) rfl rfl (by decide) rfl (fun ls hl => ?_)
            refine lv_goto (tgt := 37) hx hb dX4_bestToAllow_115 (by decide) ?_
            exact ih37 v7.2 l37_1 l37_2 l37_3 (l37_4 + 1) _ _ hP hD hS _ (lv_sub hl [2, 3, 4, 5, 0] rfl) hok
          · have hok := iq hok hc
            refine lv_iload hx hb dX4_bestToAllow_106 (lv_at hl 0 rfl) ?_
            refine lv_istore_n (lv' := [(3, .int v8), (5, .int v8), (0, .ref n0), (1, .int l37_1), (2, .int l37_2), (4, .int l37_4)]) hx hb dX4_bestToAllow_108 rfl hl (by decide) rfl (fun ls hl => ?_)
            refine lv_iload hx hb dX4_bestToAllow_109 (lv_at hl 5 rfl) ?_
            refine lv_istore_n (lv' := [(2, .int l37_4), (3, .int v8), (5, .int v8), (0, .ref n0), (1, .int l37_1), (4, .int l37_4)]) hx hb dX4_bestToAllow_111 rfl hl (by decide) rfl (fun ls hl => ?_)
            refine lv_iinc (v := (l37_4 + 1)) (lv' := [(4, .int (l37_4 + 1)), (2, .int l37_4), (3, .int v8), (5, .int v8), (0, .ref n0), (1, .int l37_1)]) hx hb dX4_bestToAllow_112 hl (k := 5) rfl rfl (by decide) rfl (fun ls hl => ?_)
            refine lv_goto (tgt := 37) hx hb dX4_bestToAllow_115 (by decide) ?_
            exact ih37 v7.2 l37_1 l37_4 v8 (l37_4 + 1) _ _ hP hD hS _ (lv_sub hl [4, 5, 1, 2, 0] rfl) hok
        · have hok := ip hok hc
          refine lv_goto (tgt := 112) hx hb dX4_bestToAllow_57 (by decide) ?_
          refine lv_iinc (v := (l37_4 + 1)) (lv' := [(4, .int (l37_4 + 1)), (0, .ref n0), (1, .int l37_1), (2, .int l37_2), (3, .int l37_3)]) hx hb dX4_bestToAllow_112 hl (k := 4) rfl rfl (by decide) rfl (fun ls hl => ?_)
          refine lv_goto (tgt := 37) hx hb dX4_bestToAllow_115 (by decide) ?_
          exact ih37 uT l37_1 l37_2 l37_3 (l37_4 + 1) _ _ hP hD hS _ (lv_sub hl [1, 2, 3, 4, 0] rfl) hok
  unfold p_X4_bestToAllow at hok
  refine lv_iload_n hx hb dX4_bestToAllow_0 rfl (lv_at hl 1 rfl) ?_
  obtain ⟨w1, hc1, hok⟩ := bT_some hok
  refine cYSv [.int a1] S hK hP va_Pnil va_Dnil hS0 (va_S0 hS0) hA hX (c_X4_needForeseeable l hlt dC dI cI cZ _ sa a1 hc1) (lw_S qm_X4_222 qt_X4_needForeseeable qn_X4 qc_X4_needForeseeable) hd_X4_needForeseeable ⟨rfl, rfl⟩ ⟨Nat.le_of_ble_eq_true rfl, Nat.le_of_ble_eq_true rfl⟩ ⟨Nat.le_of_ble_eq_true rfl, Nat.le_of_ble_eq_true rfl⟩ rfl hl.1 (Nat.le_of_ble_eq_true rfl) rfl dX4_bestToAllow_1 (fun E ce q9 H1 locs1 hz hS1 hce hcv hcl => px hex hlk (bK_l hok hz) hS1 hce hcv hcl (Nat.le_of_ble_eq_true rfl) (Nat.le_of_ble_eq_true rfl)) (fun v1 H locs hz1 hP hS0 => ?_)
  have hok := bK_r hok hz1
  refine lv_aload_n hx hb dX4_bestToAllow_4 rfl (lv_at hl 0 rfl) ?_
  refine va_get (D := (dC, dI)) (ci := 4) (v := .ref t0) (C := RX4) (T := TX4) (N := 5) hx hb hts inX4 hown hK hP 0 rfl rfl 2 (by decide) (hts _ qf_X4_25) (fun _ h9 => h9) rfl dX4_bestToAllow_5 ?_
  refine lv_aload_n hx hb dX4_bestToAllow_8 rfl (lv_at hl 0 rfl) ?_
  refine va_get (D := (dC, dI)) (ci := 4) (v := .ref c0) (C := RX4) (T := TX4) (N := 5) hx hb hts inX4 hown hK hP 0 rfl rfl 1 (by decide) (hts _ qf_X4_21) (fun _ h9 => h9) rfl dX4_bestToAllow_9 ?_
  obtain ⟨v2, hc2, hok⟩ := bd_some hok
  have hS : va_S A s.heap _ _ := va_S0 hS0
  refine cUVv (ci := 0) (q0 := 0) [.ref c0] S hK (cP_TC hP) (cD_TC hD) hS hA (c_X0_copy l dC dI cI cZ t0 t8 t9 t10 t11 t12 t13 c0 c8 c9 c10 c11 c12 c13 h0 _ uT uC hc2) (lw_V qm_X4_218 qi_X0_copy qs_X0_copy qn_X0 qc_X0_copy) hd_X0_copy ⟨rfl, rfl⟩ ⟨Nat.le_of_ble_eq_true rfl, Nat.le_of_ble_eq_true rfl⟩ ⟨Nat.le_of_ble_eq_true rfl, Nat.le_of_ble_eq_true rfl⟩ rfl rfl rfl hl.1 (Nat.le_of_ble_eq_true rfl) rfl dX4_bestToAllow_12 (fun H1 hk9 h9 => cJ_TC hP hD hk9 h9) (D_N hD) (fun H locs hP hD hS => ?_)
  refine lv_aload_n hx hb dX4_bestToAllow_15 rfl (lv_at hl 0 rfl) ?_
  refine va_get (D := (dC, dI)) (ci := 4) (v := .ref t0) (C := RX4) (T := TX4) (N := 5) hx hb hts inX4 hown hK hP 0 rfl rfl 2 (by decide) (hts _ qf_X4_25) (fun _ h9 => h9) rfl dX4_bestToAllow_16 ?_
  refine lv_iload_n hx hb dX4_bestToAllow_19 rfl (lv_at hl 1 rfl) ?_
  obtain ⟨v3, hc3, hok⟩ := bd_some hok
  refine cUVi (ci := 0) (q0 := 0) [.int a1] S hK (cP_TH hP) (cD_TH hD) hS hA (c_X0_passAndCountPrinted l dC dI cI cZ t0 t8 t9 t10 t11 t12 t13 h0 h3 h4 h5 h6 _ v2 uH a1 hc3) (lw_V qm_X4_225 qi_X0_passAndCountPrinted qs_X0_passAndCountPrinted qn_X0 qc_X0_passAndCountPrinted) hd_X0_passAndCountPrinted ⟨rfl, rfl⟩ ⟨Nat.le_of_ble_eq_true rfl, Nat.le_of_ble_eq_true rfl⟩ ⟨Nat.le_of_ble_eq_true rfl, Nat.le_of_ble_eq_true rfl⟩ rfl rfl rfl hl.1 (Nat.le_of_ble_eq_true rfl) rfl dX4_bestToAllow_20 (fun H1 hk9 h9 => cJ_TH hP hD hk9 h9) (D_N hD) (fun H locs hP hD hS => ?_)
  refine lv_pop hx hb dX4_bestToAllow_23 rfl ?_
  refine lv_iconst (v := (-1 : Int32)) hx hb dX4_bestToAllow_24 (by decide) ?_
  refine lv_istore_n (lv' := [(2, .int (-1 : Int32)), (0, .ref n0), (1, .int a1)]) hx hb dX4_bestToAllow_25 rfl hl (by decide) rfl (fun ls hl => ?_)
  refine lv_aload_n hx hb dX4_bestToAllow_26 rfl (lv_at hl 1 rfl) ?_
  refine va_get (D := (dC, dI)) (ci := 4) (v := .ref t0) (C := RX4) (T := TX4) (N := 5) hx hb hts inX4 hown hK hP 0 rfl rfl 2 (by decide) (hts _ qf_X4_25) (fun _ h9 => h9) rfl dX4_bestToAllow_27 ?_
  obtain ⟨v4, hc4, hok⟩ := bd_some hok
  refine cRVi (ci := 0) (q0 := 0) [] S hK (cP_TH hP) (c_X0_countCut l dC dI cI cZ t0 t8 t9 t10 t11 t12 t13 h0 h3 h4 h5 h6 v3.2 uH hc4) (lw_V qm_X4_173 qi_X0_countCut qs_X0_countCut qn_X0 qc_X0_countCut) hd_X0_countCut ⟨rfl, rfl⟩ ⟨Nat.le_of_ble_eq_true rfl, Nat.le_of_ble_eq_true rfl⟩ ⟨Nat.le_of_ble_eq_true rfl, Nat.le_of_ble_eq_true rfl⟩ rfl rfl rfl hl.1 (Nat.le_of_ble_eq_true rfl) rfl dX4_bestToAllow_30 ?_
  refine lv_istore_n (lv' := [(3, .int v4), (2, .int (-1 : Int32)), (0, .ref n0), (1, .int a1)]) hx hb dX4_bestToAllow_33 rfl hl (by decide) rfl (fun ls hl => ?_)
  refine lv_iconst (v := (0 : Int32)) hx hb dX4_bestToAllow_34 (by decide) ?_
  refine lv_istore (lv' := [(4, .int (0 : Int32)), (3, .int v4), (2, .int (-1 : Int32)), (0, .ref n0), (1, .int a1)]) hx hb dX4_bestToAllow_35 hl (by decide) rfl (fun ls hl => ?_)
  exact L37 200 v3.2 a1 (-1 : Int32) v4 (0 : Int32) _ _ hP hD hS _ (lv_sub hl [3, 4, 2, 1, 0] rfl) hok
theorem hd_X4_meanWarmth : yX4_meanWarmth.cls = RX4 ∧ yX4_meanWarmth.cls ≠ "java/lang/invoke/MethodHandle" ∧ yX4_meanWarmth.cls ≠ "java/lang/invoke/VarHandle" ∧ (parseMethodDescriptor yX4_meanWarmth.desc).map (fun d => d.parameters.length) = some 0 := by decide +kernel
def p_X4_meanWarmth (uH : tX1) (uC : tX0) (uT : tX0) (uI : tX2) (uM : tX3) : Option UInt64 :=
  bd (p_X0_countSubscribers uC uH) (fun v1 =>
  if v1 = 0 then
    some FP.dconst0
  else
    bd (p_X0_sumOfWarmths uC uH) (fun v2 =>
    gq ((FP.ddiv (FP.i2d v2) (FP.i2d v1)) &&& 0x7fffffffffffffff ≤ 0x7ff0000000000000) (
    some (FP.ddiv (FP.i2d v2) (FP.i2d v1)))))
set_option maxHeartbeats 4000000 in
set_option maxRecDepth 100000 in
theorem c_X4_meanWarmth (l : Launch) (dC : Nat → ClassId) (dI : Nat → Nat → Nat) (cI cZ : ClassId) (n0 h0 h3 h4 h5 h6 c0 c8 c9 c10 c11 c12 c13 t0 t8 t9 t10 t11 t12 t13 i0 i1 i2 i3 i4 m0 m1 m2 : Nat) (uH : tX1) (uC : tX0) (uT : tX0) (uI : tX2) (uM : tX3) {z : UInt64} (hok : p_X4_meanWarmth uH uC uT uI uM = some z) : Met l yX4_meanWarmth (Cond.code yX4_meanWarmth cX4_meanWarmth 2 (some .double) :: lw_all) { frames := 1, cells := 0, slots := 0, locals := 22 } (prR (dC, dI) vwCl (TYS cI cZ) (wN cI cZ n0 h0 h3 h4 h5 h6 c0 c8 c9 c10 c11 c12 c13 t0 t8 t9 t10 t11 t12 t13 i0 i1 i2 i3 i4 m0 m1 m2 uH uC uT uI uM) [.ref n0]) (vp_Sd (fun r => r = z)) 0 0 (fun _ => False) := by
  refine oM (by decide) (Nat.le_of_ble_eq_true rfl) ?_
  intro p e s m args below meth c S hr hlk hnm hB ls hl
  have hx := S.1
  have hb := S.2.1
  have hml := S.2.2.1
  have hown : s.vm.findClass RX4 = some m.cls := S.2.2.2.1
  have hts := S.2.2.2.2
  have S : CallFix p m c cX4_meanWarmth 2 s args lw_all RX4 := S
  have hl : lv_has ls 2 [(0, .ref n0)] := hl
  obtain ⟨hP, hK⟩ := hB
  have hP : va_P (dC, dI) vwCl (wN cI cZ n0 h0 h3 h4 h5 h6 c0 c8 c9 c10 c11 c12 c13 t0 t8 t9 t10 t11 t12 t13 i0 i1 i2 i3 i4 m0 m1 m2 uH uC uT uI uM) s.heap := hP
  unfold p_X4_meanWarmth at hok
  refine lv_aload_n hx hb dX4_meanWarmth_0 rfl (lv_at hl 0 rfl) ?_
  refine va_get (D := (dC, dI)) (ci := 4) (v := .ref c0) (C := RX4) (T := TX4) (N := 5) hx hb hts inX4 hown hK hP 0 rfl rfl 1 (by decide) (hts _ qf_X4_21) (fun _ h9 => h9) rfl dX4_meanWarmth_1 ?_
  obtain ⟨v1, hc1, hok⟩ := bd_some hok
  refine cRVi (ci := 0) (q0 := 0) [] S hK (cP_CH hP) (c_X0_countSubscribers l dC dI cI cZ c0 c8 c9 c10 c11 c12 c13 h0 h3 h4 h5 h6 uC uH hc1) (lw_V qm_X4_60 qi_X0_countSubscribers qs_X0_countSubscribers qn_X0 qc_X0_countSubscribers) hd_X0_countSubscribers ⟨rfl, rfl⟩ ⟨Nat.le_of_ble_eq_true rfl, Nat.le_of_ble_eq_true rfl⟩ ⟨Nat.le_of_ble_eq_true rfl, Nat.le_of_ble_eq_true rfl⟩ rfl rfl rfl hl.1 (Nat.le_of_ble_eq_true rfl) rfl dX4_meanWarmth_4 ?_
  refine lv_istore_n (lv' := [(1, .int v1), (0, .ref n0)]) hx hb dX4_meanWarmth_7 rfl hl (by decide) rfl (fun ls hl => ?_)
  refine lv_iload_n hx hb dX4_meanWarmth_8 rfl (lv_at hl 0 rfl) ?_
  refine lv_if_ne (tgt := 16) hx hb dX4_meanWarmth_9 (by decide) (fun hc => ?_) (fun hc => ?_)
  · have hok := iq hok hc
    refine lv_aload_n hx hb dX4_meanWarmth_16 rfl (lv_at hl 1 rfl) ?_
    refine va_get (D := (dC, dI)) (ci := 4) (v := .ref c0) (C := RX4) (T := TX4) (N := 5) hx hb hts inX4 hown hK hP 0 rfl rfl 1 (by decide) (hts _ qf_X4_21) (fun _ h9 => h9) rfl dX4_meanWarmth_17 ?_
    obtain ⟨v2, hc2, hok⟩ := bd_some hok
    refine cRVi (ci := 0) (q0 := 0) [] S hK (cP_CH hP) (c_X0_sumOfWarmths l dC dI cI cZ c0 c8 c9 c10 c11 c12 c13 h0 h3 h4 h5 h6 uC uH hc2) (lw_V qm_X4_228 qi_X0_sumOfWarmths qs_X0_sumOfWarmths qn_X0 qc_X0_sumOfWarmths) hd_X0_sumOfWarmths ⟨rfl, rfl⟩ ⟨Nat.le_of_ble_eq_true rfl, Nat.le_of_ble_eq_true rfl⟩ ⟨Nat.le_of_ble_eq_true rfl, Nat.le_of_ble_eq_true rfl⟩ rfl rfl rfl hl.1 (Nat.le_of_ble_eq_true rfl) rfl dX4_meanWarmth_20 ?_
    refine lv_i2d hx hb dX4_meanWarmth_23 ?_
    refine lv_iload_n hx hb dX4_meanWarmth_24 rfl (lv_at hl 0 rfl) ?_
    refine lv_i2d hx hb dX4_meanWarmth_25 ?_
    obtain ⟨hn3, hok⟩ := gq_some hok
    refine lv_ddiv hx hb dX4_meanWarmth_26 hn3 ?_
    exact eRd S hr hlk (Option.some.inj hok) dX4_meanWarmth_27
  · have hok := ip hok hc
    refine lv_dconst0 hx hb dX4_meanWarmth_12 ?_
    refine lv_goto (tgt := 27) hx hb dX4_meanWarmth_13 (by decide) ?_
    exact eRd S hr hlk (Option.some.inj hok) dX4_meanWarmth_27
theorem hd_X4_bit : yX4_bit.cls ≠ "java/lang/invoke/MethodHandle" ∧ yX4_bit.cls ≠ "java/lang/invoke/VarHandle" ∧ (parseMethodDescriptor yX4_bit.desc).map (fun d => d.parameters.length) = some 1 := by decide +kernel
def p_X4_bit (a1 : Int32) : Option Int32 :=
  if a1 = 0 then
    some (0 : Int32)
  else
    some (1 : Int32)
set_option maxHeartbeats 4000000 in
set_option maxRecDepth 100000 in
theorem c_X4_bit (l : Launch) (dC : Nat → ClassId) (dI : Nat → Nat → Nat) (cI cZ : ClassId) (a1 : Int32) {z : Int32} (hok : p_X4_bit a1 = some z) : Met l yX4_bit (Cond.code yX4_bit cX4_bit 1 (some .int) :: lw_all) { frames := 0, cells := 0, slots := 0, locals := 0 } (prR (dC, dI) vwCl (TYS cI cZ) (([] : va_W)) [.int a1]) (vp_Si (fun r => r = z)) 0 0 (fun _ => False) := by
  refine oM (by decide) (Nat.le_of_ble_eq_true rfl) ?_
  intro p e s m args below meth c S hr hlk hnm hB ls hl
  have hx := S.1
  have hb := S.2.1
  have hml := S.2.2.1
  have hown : s.vm.findClass RX4 = some m.cls := S.2.2.2.1
  have hts := S.2.2.2.2
  have S : CallFix p m c cX4_bit 1 s args lw_all RX4 := S
  have hl : lv_has ls 1 [(0, .int a1)] := hl
  obtain ⟨hP, hK⟩ := hB
  have hP : va_P (dC, dI) vwCl (([] : va_W)) s.heap := hP
  unfold p_X4_bit at hok
  refine lv_iload_n hx hb dX4_bit_0 rfl (lv_at hl 0 rfl) ?_
  refine lv_if_eq (tgt := 8) hx hb dX4_bit_1 (by decide) (fun hc => ?_) (fun hc => ?_)
  · have hok := ip hok hc
    refine lv_iconst (v := (0 : Int32)) hx hb dX4_bit_8 (by decide) ?_
    exact eRi S hr hlk (Option.some.inj hok) dX4_bit_9
  · have hok := iq hok hc
    refine lv_iconst (v := (1 : Int32)) hx hb dX4_bit_4 (by decide) ?_
    refine lv_goto (tgt := 9) hx hb dX4_bit_5 (by decide) ?_
    exact eRi S hr hlk (Option.some.inj hok) dX4_bit_9
