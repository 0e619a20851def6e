theorem hd_X4_isCalled : yX4_isCalled.cls = RX4 ∧ yX4_isCalled.cls ≠ "java/lang/invoke/MethodHandle" ∧ yX4_isCalled.cls ≠ "java/lang/invoke/VarHandle" ∧ (parseMethodDescriptor yX4_isCalled.desc).map (fun d => d.parameters.length) = some 1 := by decide +kernel
def p_X4_isCalled (uH : tX1) (uC : tX0) (uT : tX0) (uI : tX2) (uM : tX3) (a1 : Int32) : Option Int32 :=
  bd (p_X4_needFloor uH uC uT uI uM a1) (fun v1 =>
  gd a1 12 (
  gq ((uC.2.2.2.2.2.2.2.1 a1.toNatClampNeg) &&& 1 = (uC.2.2.2.2.2.2.2.1 a1.toNatClampNeg)) (
  some (uC.2.2.2.2.2.2.2.1 a1.toNatClampNeg))))
set_option maxHeartbeats 4000000 in
set_option maxRecDepth 100000 in
theorem c_X4_isCalled (l : Launch) (dC : Nat → ClassId) (dI : Nat → Nat → Nat) (cI cZ : ClassId) (n0 h0 h3 h4 h5 h6 c0 c8 c9 c10 c11 c12 c13 t0 t8 t9 t10 t11 t12 t13 i0 i1 i2 i3 i4 m0 m1 m2 : Nat) (uH : tX1) (uC : tX0) (uT : tX0) (uI : tX2) (uM : tX3) (a1 : Int32) {z : Int32} (hok : p_X4_isCalled uH uC uT uI uM a1 = some z) : Met l yX4_isCalled (Cond.code yX4_isCalled cX4_isCalled 2 (some .boolean) :: lw_all) { frames := 1, cells := 0, slots := 0, locals := 21 } (prR (dC, dI) vwCl (TYS cI cZ) (wN cI cZ n0 h0 h3 h4 h5 h6 c0 c8 c9 c10 c11 c12 c13 t0 t8 t9 t10 t11 t12 t13 i0 i1 i2 i3 i4 m0 m1 m2 uH uC uT uI uM) [.ref n0, .int a1]) (vp_Si (fun r => r = z)) 0 0 (fun _ => False) := by
  refine oM (by decide) (Nat.le_of_ble_eq_true rfl) ?_
  intro p e s m args below meth c S hr hlk hnm hB ls hl
  have hx := S.1
  have hb := S.2.1
  have hml := S.2.2.1
  have hown : s.vm.findClass RX4 = some m.cls := S.2.2.2.1
  have hts := S.2.2.2.2
  have S : CallFix p m c cX4_isCalled 2 s args lw_all RX4 := S
  have hl : lv_has ls 2 [(0, .ref n0), (1, .int a1)] := hl
  obtain ⟨hP, hK⟩ := hB
  have hP : va_P (dC, dI) vwCl (wN cI cZ n0 h0 h3 h4 h5 h6 c0 c8 c9 c10 c11 c12 c13 t0 t8 t9 t10 t11 t12 t13 i0 i1 i2 i3 i4 m0 m1 m2 uH uC uT uI uM) s.heap := hP
  unfold p_X4_isCalled at hok
  refine lv_aload_n hx hb dX4_isCalled_0 rfl (lv_at hl 0 rfl) ?_
  refine lv_iload_n hx hb dX4_isCalled_1 rfl (lv_at hl 1 rfl) ?_
  obtain ⟨v1, hc1, hok⟩ := bd_some hok
  refine cRVv (ci := 4) (q0 := 0) [.int a1] S hK hP (c_X4_needFloor l dC dI cI cZ n0 h0 h3 h4 h5 h6 c0 c8 c9 c10 c11 c12 c13 t0 t8 t9 t10 t11 t12 t13 i0 i1 i2 i3 i4 m0 m1 m2 uH uC uT uI uM a1 hc1) (lw_V qm_X4_64 qi_X4_needFloor qs_X4_needFloor qn_X4 qc_X4_needFloor) hd_X4_needFloor ⟨rfl, rfl⟩ ⟨Nat.le_of_ble_eq_true rfl, Nat.le_of_ble_eq_true rfl⟩ ⟨Nat.le_of_ble_eq_true rfl, Nat.le_of_ble_eq_true rfl⟩ rfl rfl rfl hl.1 (Nat.le_of_ble_eq_true rfl) rfl dX4_isCalled_2 ?_
  refine lv_aload_n hx hb dX4_isCalled_5 rfl (lv_at hl 0 rfl) ?_
  refine va_get (D := (dC, dI)) (ci := 4) (v := .ref c0) (C := RX4) (T := TX4) (N := 5) hx hb hts inX4 hown hK hP 0 rfl rfl 1 (by decide) (hts _ qf_X4_21) (fun _ h9 => h9) rfl dX4_isCalled_6 ?_
  refine va_get (D := (dC, dI)) (ci := 0) (v := .ref c8) (C := RX0) (T := TX0) (N := 14) hx hb hts inX0 hown hK hP 6 rfl rfl 8 (by decide) (hts _ qf_X4_122) (fun _ h9 => h9) rfl dX4_isCalled_9 ?_
  refine lv_iload_n hx hb dX4_isCalled_12 rfl (lv_at hl 1 rfl) ?_
  obtain ⟨hi2, hok⟩ := gd_some hok
  refine va_zald hx hb hK hP 7 1 rfl rfl hi2 dX4_isCalled_13 ?_
  obtain ⟨hn3, hok⟩ := gq_some hok
  exact eRz S hr hlk hn3 (Option.some.inj hok) dX4_isCalled_14
theorem hd_X4_calls : yX4_calls.cls = RX4 ∧ yX4_calls.cls ≠ "java/lang/invoke/MethodHandle" ∧ yX4_calls.cls ≠ "java/lang/invoke/VarHandle" ∧ (parseMethodDescriptor yX4_calls.desc).map (fun d => d.parameters.length) = some 0 := by decide +kernel
def p_X4_calls (uH : tX1) (uC : tX0) (uT : tX0) (uI : tX2) (uM : tX3) : Option Int32 :=
  bd (p_X0_countCalled uC uH) (fun v1 =>
  some v1)
set_option maxHeartbeats 4000000 in
set_option maxRecDepth 100000 in
theorem c_X4_calls (l : Launch) (dC : Nat → ClassId) (dI : Nat → Nat → Nat) (cI cZ : ClassId) (n0 h0 h3 h4 h5 h6 c0 c8 c9 c10 c11 c12 c13 t0 t8 t9 t10 t11 t12 t13 i0 i1 i2 i3 i4 m0 m1 m2 : Nat) (uH : tX1) (uC : tX0) (uT : tX0) (uI : tX2) (uM : tX3) {z : Int32} (hok : p_X4_calls uH uC uT uI uM = some z) : Met l yX4_calls (Cond.code yX4_calls cX4_calls 1 (some .int) :: lw_all) { frames := 1, cells := 0, slots := 0, locals := 22 } (prR (dC, dI) vwCl (TYS cI cZ) (wN cI cZ n0 h0 h3 h4 h5 h6 c0 c8 c9 c10 c11 c12 c13 t0 t8 t9 t10 t11 t12 t13 i0 i1 i2 i3 i4 m0 m1 m2 uH uC uT uI uM) [.ref n0]) (vp_Si (fun r => r = z)) 0 0 (fun _ => False) := by
  refine oM (by decide) (Nat.le_of_ble_eq_true rfl) ?_
  intro p e s m args below meth c S hr hlk hnm hB ls hl
  have hx := S.1
  have hb := S.2.1
  have hml := S.2.2.1
  have hown : s.vm.findClass RX4 = some m.cls := S.2.2.2.1
  have hts := S.2.2.2.2
  have S : CallFix p m c cX4_calls 1 s args lw_all RX4 := S
  have hl : lv_has ls 1 [(0, .ref n0)] := hl
  obtain ⟨hP, hK⟩ := hB
  have hP : va_P (dC, dI) vwCl (wN cI cZ n0 h0 h3 h4 h5 h6 c0 c8 c9 c10 c11 c12 c13 t0 t8 t9 t10 t11 t12 t13 i0 i1 i2 i3 i4 m0 m1 m2 uH uC uT uI uM) s.heap := hP
  unfold p_X4_calls at hok
  refine lv_aload_n hx hb dX4_calls_0 rfl (lv_at hl 0 rfl) ?_
  refine va_get (D := (dC, dI)) (ci := 4) (v := .ref c0) (C := RX4) (T := TX4) (N := 5) hx hb hts inX4 hown hK hP 0 rfl rfl 1 (by decide) (hts _ qf_X4_21) (fun _ h9 => h9) rfl dX4_calls_1 ?_
  obtain ⟨v1, hc1, hok⟩ := bd_some hok
  refine cRVi (ci := 0) (q0 := 0) [] S hK (cP_CH hP) (c_X0_countCalled l dC dI cI cZ c0 c8 c9 c10 c11 c12 c13 h0 h3 h4 h5 h6 uC uH hc1) (lw_V qm_X4_154 qi_X0_countCalled qs_X0_countCalled qn_X0 qc_X0_countCalled) hd_X0_countCalled ⟨rfl, rfl⟩ ⟨Nat.le_of_ble_eq_true rfl, Nat.le_of_ble_eq_true rfl⟩ ⟨Nat.le_of_ble_eq_true rfl, Nat.le_of_ble_eq_true rfl⟩ rfl rfl rfl hl.1 (Nat.le_of_ble_eq_true rfl) rfl dX4_calls_4 ?_
  exact eRi S hr hlk (Option.some.inj hok) dX4_calls_7
theorem hd_X4_stuckFor : yX4_stuckFor.cls = RX4 ∧ yX4_stuckFor.cls ≠ "java/lang/invoke/MethodHandle" ∧ yX4_stuckFor.cls ≠ "java/lang/invoke/VarHandle" ∧ (parseMethodDescriptor yX4_stuckFor.desc).map (fun d => d.parameters.length) = some 0 := by decide +kernel
def p_X4_stuckFor (uH : tX1) (uC : tX0) (uT : tX0) (uI : tX2) (uM : tX3) : Option Int32 :=
  some uC.2.2.2.1
set_option maxHeartbeats 4000000 in
set_option maxRecDepth 100000 in
theorem c_X4_stuckFor (l : Launch) (dC : Nat → ClassId) (dI : Nat → Nat → Nat) (cI cZ : ClassId) (n0 h0 h3 h4 h5 h6 c0 c8 c9 c10 c11 c12 c13 t0 t8 t9 t10 t11 t12 t13 i0 i1 i2 i3 i4 m0 m1 m2 : Nat) (uH : tX1) (uC : tX0) (uT : tX0) (uI : tX2) (uM : tX3) {z : Int32} (hok : p_X4_stuckFor uH uC uT uI uM = some z) : Met l yX4_stuckFor (Cond.code yX4_stuckFor cX4_stuckFor 1 (some .int) :: lw_all) { frames := 0, cells := 0, slots := 0, locals := 0 } (prR (dC, dI) vwCl (TYS cI cZ) (wN cI cZ n0 h0 h3 h4 h5 h6 c0 c8 c9 c10 c11 c12 c13 t0 t8 t9 t10 t11 t12 t13 i0 i1 i2 i3 i4 m0 m1 m2 uH uC uT uI uM) [.ref n0]) (vp_Si (fun r => r = z)) 0 0 (fun _ => False) := by
  refine oM (by decide) (Nat.le_of_ble_eq_true rfl) ?_
  intro p e s m args below meth c S hr hlk hnm hB ls hl
  have hx := S.1
  have hb := S.2.1
  have hml := S.2.2.1
  have hown : s.vm.findClass RX4 = some m.cls := S.2.2.2.1
  have hts := S.2.2.2.2
  have S : CallFix p m c cX4_stuckFor 1 s args lw_all RX4 := S
  have hl : lv_has ls 1 [(0, .ref n0)] := hl
  obtain ⟨hP, hK⟩ := hB
  have hP : va_P (dC, dI) vwCl (wN cI cZ n0 h0 h3 h4 h5 h6 c0 c8 c9 c10 c11 c12 c13 t0 t8 t9 t10 t11 t12 t13 i0 i1 i2 i3 i4 m0 m1 m2 uH uC uT uI uM) s.heap := hP
  unfold p_X4_stuckFor at hok
  refine lv_aload_n hx hb dX4_stuckFor_0 rfl (lv_at hl 0 rfl) ?_
  refine va_get (D := (dC, dI)) (ci := 4) (v := .ref c0) (C := RX4) (T := TX4) (N := 5) hx hb hts inX4 hown hK hP 0 rfl rfl 1 (by decide) (hts _ qf_X4_21) (fun _ h9 => h9) rfl dX4_stuckFor_1 ?_
  refine va_get (D := (dC, dI)) (ci := 0) (v := .int uC.2.2.2.1) (C := RX0) (T := TX0) (N := 14) hx hb hts inX0 hown hK hP 6 rfl rfl 4 (by decide) (hts _ qf_X4_125) (fun _ h9 => h9) rfl dX4_stuckFor_4 ?_
  exact eRi S hr hlk (Option.some.inj hok) dX4_stuckFor_7
theorem hd_X4_wear : yX4_wear.cls = RX4 ∧ yX4_wear.cls ≠ "java/lang/invoke/MethodHandle" ∧ yX4_wear.cls ≠ "java/lang/invoke/VarHandle" ∧ (parseMethodDescriptor yX4_wear.desc).map (fun d => d.parameters.length) = some 0 := by decide +kernel
def p_X4_wear (uH : tX1) (uC : tX0) (uT : tX0) (uI : tX2) (uM : tX3) : Option Int32 :=
  some uC.2.2.2.2.1
set_option maxHeartbeats 4000000 in
set_option maxRecDepth 100000 in
theorem c_X4_wear (l : Launch) (dC : Nat → ClassId) (dI : Nat → Nat → Nat) (cI cZ : ClassId) (n0 h0 h3 h4 h5 h6 c0 c8 c9 c10 c11 c12 c13 t0 t8 t9 t10 t11 t12 t13 i0 i1 i2 i3 i4 m0 m1 m2 : Nat) (uH : tX1) (uC : tX0) (uT : tX0) (uI : tX2) (uM : tX3) {z : Int32} (hok : p_X4_wear uH uC uT uI uM = some z) : Met l yX4_wear (Cond.code yX4_wear cX4_wear 1 (some .int) :: lw_all) { frames := 0, cells := 0, slots := 0, locals := 0 } (prR (dC, dI) vwCl (TYS cI cZ) (wN cI cZ n0 h0 h3 h4 h5 h6 c0 c8 c9 c10 c11 c12 c13 t0 t8 t9 t10 t11 t12 t13 i0 i1 i2 i3 i4 m0 m1 m2 uH uC uT uI uM) [.ref n0]) (vp_Si (fun r => r = z)) 0 0 (fun _ => False) := by
  refine oM (by decide) (Nat.le_of_ble_eq_true rfl) ?_
  intro p e s m args below meth c S hr hlk hnm hB ls hl
  have hx := S.1
  have hb := S.2.1
  have hml := S.2.2.1
  have hown : s.vm.findClass RX4 = some m.cls := S.2.2.2.1
  have hts := S.2.2.2.2
  have S : CallFix p m c cX4_wear 1 s args lw_all RX4 := S
  have hl : lv_has ls 1 [(0, .ref n0)] := hl
  obtain ⟨hP, hK⟩ := hB
  have hP : va_P (dC, dI) vwCl (wN cI cZ n0 h0 h3 h4 h5 h6 c0 c8 c9 c10 c11 c12 c13 t0 t8 t9 t10 t11 t12 t13 i0 i1 i2 i3 i4 m0 m1 m2 uH uC uT uI uM) s.heap := hP
  unfold p_X4_wear at hok
  refine lv_aload_n hx hb dX4_wear_0 rfl (lv_at hl 0 rfl) ?_
  refine va_get (D := (dC, dI)) (ci := 4) (v := .ref c0) (C := RX4) (T := TX4) (N := 5) hx hb hts inX4 hown hK hP 0 rfl rfl 1 (by decide) (hts _ qf_X4_21) (fun _ h9 => h9) rfl dX4_wear_1 ?_
  refine va_get (D := (dC, dI)) (ci := 0) (v := .int uC.2.2.2.2.1) (C := RX0) (T := TX0) (N := 14) hx hb hts inX0 hown hK hP 6 rfl rfl 5 (by decide) (hts _ qf_X4_128) (fun _ h9 => h9) rfl dX4_wear_4 ?_
  exact eRi S hr hlk (Option.some.inj hok) dX4_wear_7
theorem hd_X4_limit : yX4_limit.cls = RX4 ∧ yX4_limit.cls ≠ "java/lang/invoke/MethodHandle" ∧ yX4_limit.cls ≠ "java/lang/invoke/VarHandle" ∧ (parseMethodDescriptor yX4_limit.desc).map (fun d => d.parameters.length) = some 0 := by decide +kernel
def p_X4_limit (uH : tX1) (uC : tX0) (uT : tX0) (uI : tX2) (uM : tX3) : Option Int32 :=
  some uH.2.1
set_option maxHeartbeats 4000000 in
set_option maxRecDepth 100000 in
theorem c_X4_limit (l : Launch) (dC : Nat → ClassId) (dI : Nat → Nat → Nat) (cI cZ : ClassId) (n0 h0 h3 h4 h5 h6 c0 c8 c9 c10 c11 c12 c13 t0 t8 t9 t10 t11 t12 t13 i0 i1 i2 i3 i4 m0 m1 m2 : Nat) (uH : tX1) (uC : tX0) (uT : tX0) (uI : tX2) (uM : tX3) {z : Int32} (hok : p_X4_limit uH uC uT uI uM = some z) : Met l yX4_limit (Cond.code yX4_limit cX4_limit 1 (some .int) :: lw_all) { frames := 0, cells := 0, slots := 0, locals := 0 } (prR (dC, dI) vwCl (TYS cI cZ) (wN cI cZ n0 h0 h3 h4 h5 h6 c0 c8 c9 c10 c11 c12 c13 t0 t8 t9 t10 t11 t12 t13 i0 i1 i2 i3 i4 m0 m1 m2 uH uC uT uI uM) [.ref n0]) (vp_Si (fun r => r = z)) 0 0 (fun _ => False) := by
  refine oM (by decide) (Nat.le_of_ble_eq_true rfl) ?_
  intro p e s m args below meth c S hr hlk hnm hB ls hl
  have hx := S.1
  have hb := S.2.1
  have hml := S.2.2.1
  have hown : s.vm.findClass RX4 = some m.cls := S.2.2.2.1
  have hts := S.2.2.2.2
  have S : CallFix p m c cX4_limit 1 s args lw_all RX4 := S
  have hl : lv_has ls 1 [(0, .ref n0)] := hl
  obtain ⟨hP, hK⟩ := hB
  have hP : va_P (dC, dI) vwCl (wN cI cZ n0 h0 h3 h4 h5 h6 c0 c8 c9 c10 c11 c12 c13 t0 t8 t9 t10 t11 t12 t13 i0 i1 i2 i3 i4 m0 m1 m2 uH uC uT uI uM) s.heap := hP
  unfold p_X4_limit at hok
  refine lv_aload_n hx hb dX4_limit_0 rfl (lv_at hl 0 rfl) ?_
  refine va_get (D := (dC, dI)) (ci := 4) (v := .ref h0) (C := RX4) (T := TX4) (N := 5) hx hb hts inX4 hown hK hP 0 rfl rfl 0 (by decide) (hts _ qf_X4_12) (fun _ h9 => h9) rfl dX4_limit_1 ?_
  refine va_get (D := (dC, dI)) (ci := 1) (v := .int uH.2.1) (C := RX1) (T := TX1) (N := 7) hx hb hts inX1 hown hK hP 1 rfl rfl 1 (by decide) (hts _ qf_X4_95) (fun _ h9 => h9) rfl dX4_limit_4 ?_
  exact eRi S hr hlk (Option.some.inj hok) dX4_limit_7
theorem hd_X4_suspense : yX4_suspense.cls = RX4 ∧ yX4_suspense.cls ≠ "java/lang/invoke/MethodHandle" ∧ yX4_suspense.cls ≠ "java/lang/invoke/VarHandle" ∧ (parseMethodDescriptor yX4_suspense.desc).map (fun d => d.parameters.length) = some 0 := by decide +kernel
def p_X4_suspense (uH : tX1) (uC : tX0) (uT : tX0) (uI : tX2) (uM : tX3) : Option Int32 :=
  some uC.2.2.2.2.2.1
set_option maxHeartbeats 4000000 in
set_option maxRecDepth 100000 in
theorem c_X4_suspense (l : Launch) (dC : Nat → ClassId) (dI : Nat → Nat → Nat) (cI cZ : ClassId) (n0 h0 h3 h4 h5 h6 c0 c8 c9 c10 c11 c12 c13 t0 t8 t9 t10 t11 t12 t13 i0 i1 i2 i3 i4 m0 m1 m2 : Nat) (uH : tX1) (uC : tX0) (uT : tX0) (uI : tX2) (uM : tX3) {z : Int32} (hok : p_X4_suspense uH uC uT uI uM = some z) : Met l yX4_suspense (Cond.code yX4_suspense cX4_suspense 1 (some .int) :: lw_all) { frames := 0, cells := 0, slots := 0, locals := 0 } (prR (dC, dI) vwCl (TYS cI cZ) (wN cI cZ n0 h0 h3 h4 h5 h6 c0 c8 c9 c10 c11 c12 c13 t0 t8 t9 t10 t11 t12 t13 i0 i1 i2 i3 i4 m0 m1 m2 uH uC uT uI uM) [.ref n0]) (vp_Si (fun r => r = z)) 0 0 (fun _ => False) := by
  refine oM (by decide) (Nat.le_of_ble_eq_true rfl) ?_
  intro p e s m args below meth c S hr hlk hnm hB ls hl
  have hx := S.1
  have hb := S.2.1
  have hml := S.2.2.1
  have hown : s.vm.findClass RX4 = some m.cls := S.2.2.2.1
  have hts := S.2.2.2.2
  have S : CallFix p m c cX4_suspense 1 s args lw_all RX4 := S
  have hl : lv_has ls 1 [(0, .ref n0)] := hl
  obtain ⟨hP, hK⟩ := hB
  have hP : va_P (dC, dI) vwCl (wN cI cZ n0 h0 h3 h4 h5 h6 c0 c8 c9 c10 c11 c12 c13 t0 t8 t9 t10 t11 t12 t13 i0 i1 i2 i3 i4 m0 m1 m2 uH uC uT uI uM) s.heap := hP
  unfold p_X4_suspense at hok
  refine lv_aload_n hx hb dX4_suspense_0 rfl (lv_at hl 0 rfl) ?_
  refine va_get (D := (dC, dI)) (ci := 4) (v := .ref c0) (C := RX4) (T := TX4) (N := 5) hx hb hts inX4 hown hK hP 0 rfl rfl 1 (by decide) (hts _ qf_X4_21) (fun _ h9 => h9) rfl dX4_suspense_1 ?_
  refine va_get (D := (dC, dI)) (ci := 0) (v := .int uC.2.2.2.2.2.1) (C := RX0) (T := TX0) (N := 14) hx hb hts inX0 hown hK hP 6 rfl rfl 6 (by decide) (hts _ qf_X4_157) (fun _ h9 => h9) rfl dX4_suspense_4 ?_
  exact eRi S hr hlk (Option.some.inj hok) dX4_suspense_7
theorem hd_X4_paragraphs : yX4_paragraphs.cls = RX4 ∧ yX4_paragraphs.cls ≠ "java/lang/invoke/MethodHandle" ∧ yX4_paragraphs.cls ≠ "java/lang/invoke/VarHandle" ∧ (parseMethodDescriptor yX4_paragraphs.desc).map (fun d => d.parameters.length) = some 1 := by decide +kernel
def p_X4_paragraphs (uH : tX1) (uC : tX0) (uT : tX0) (uI : tX2) (uM : tX3) (a1 : Int32) : Option Int32 :=
  bd (p_X4_needFloor uH uC uT uI uM a1) (fun v1 =>
  gd a1 12 (
  some (uH.2.2.2.1 a1.toNatClampNeg)))
set_option maxHeartbeats 4000000 in
set_option maxRecDepth 100000 in
theorem c_X4_paragraphs (l : Launch) (dC : Nat → ClassId) (dI : Nat → Nat → Nat) (cI cZ : ClassId) (n0 h0 h3 h4 h5 h6 c0 c8 c9 c10 c11 c12 c13 t0 t8 t9 t10 t11 t12 t13 i0 i1 i2 i3 i4 m0 m1 m2 : Nat) (uH : tX1) (uC : tX0) (uT : tX0) (uI : tX2) (uM : tX3) (a1 : Int32) {z : Int32} (hok : p_X4_paragraphs uH uC uT uI uM a1 = some z) : Met l yX4_paragraphs (Cond.code yX4_paragraphs cX4_paragraphs 2 (some .int) :: lw_all) { frames := 1, cells := 0, slots := 0, locals := 21 } (prR (dC, dI) vwCl (TYS cI cZ) (wN cI cZ n0 h0 h3 h4 h5 h6 c0 c8 c9 c10 c11 c12 c13 t0 t8 t9 t10 t11 t12 t13 i0 i1 i2 i3 i4 m0 m1 m2 uH uC uT uI uM) [.ref n0, .int a1]) (vp_Si (fun r => r = z)) 0 0 (fun _ => False) := by
  refine oM (by decide) (Nat.le_of_ble_eq_true rfl) ?_
  intro p e s m args below meth c S hr hlk hnm hB ls hl
  have hx := S.1
  have hb := S.2.1
  have hml := S.2.2.1
  have hown : s.vm.findClass RX4 = some m.cls := S.2.2.2.1
  have hts := S.2.2.2.2
  have S : CallFix p m c cX4_paragraphs 2 s args lw_all RX4 := S
  have hl : lv_has ls 2 [(0, .ref n0), (1, .int a1)] := hl
  obtain ⟨hP, hK⟩ := hB
  have hP : va_P (dC, dI) vwCl (wN cI cZ n0 h0 h3 h4 h5 h6 c0 c8 c9 c10 c11 c12 c13 t0 t8 t9 t10 t11 t12 t13 i0 i1 i2 i3 i4 m0 m1 m2 uH uC uT uI uM) s.heap := hP
  unfold p_X4_paragraphs at hok
  refine lv_aload_n hx hb dX4_paragraphs_0 rfl (lv_at hl 0 rfl) ?_
  refine lv_iload_n hx hb dX4_paragraphs_1 rfl (lv_at hl 1 rfl) ?_
  obtain ⟨v1, hc1, hok⟩ := bd_some hok
  refine cRVv (ci := 4) (q0 := 0) [.int a1] S hK hP (c_X4_needFloor l dC dI cI cZ n0 h0 h3 h4 h5 h6 c0 c8 c9 c10 c11 c12 c13 t0 t8 t9 t10 t11 t12 t13 i0 i1 i2 i3 i4 m0 m1 m2 uH uC uT uI uM a1 hc1) (lw_V qm_X4_64 qi_X4_needFloor qs_X4_needFloor qn_X4 qc_X4_needFloor) hd_X4_needFloor ⟨rfl, rfl⟩ ⟨Nat.le_of_ble_eq_true rfl, Nat.le_of_ble_eq_true rfl⟩ ⟨Nat.le_of_ble_eq_true rfl, Nat.le_of_ble_eq_true rfl⟩ rfl rfl rfl hl.1 (Nat.le_of_ble_eq_true rfl) rfl dX4_paragraphs_2 ?_
  refine lv_aload_n hx hb dX4_paragraphs_5 rfl (lv_at hl 0 rfl) ?_
  refine va_get (D := (dC, dI)) (ci := 4) (v := .ref h0) (C := RX4) (T := TX4) (N := 5) hx hb hts inX4 hown hK hP 0 rfl rfl 0 (by decide) (hts _ qf_X4_12) (fun _ h9 => h9) rfl dX4_paragraphs_6 ?_
  refine va_get (D := (dC, dI)) (ci := 1) (v := .ref h3) (C := RX1) (T := TX1) (N := 7) hx hb hts inX1 hown hK hP 1 rfl rfl 3 (by decide) (hts _ qf_X4_73) (fun _ h9 => h9) rfl dX4_paragraphs_9 ?_
  refine lv_iload_n hx hb dX4_paragraphs_12 rfl (lv_at hl 1 rfl) ?_
  obtain ⟨hi2, hok⟩ := gd_some hok
  refine va_iald hx hb hK hP 2 0 rfl rfl hi2 dX4_paragraphs_13 ?_
  exact eRi S hr hlk (Option.some.inj hok) dX4_paragraphs_14
theorem hd_X4_nextParagraph : yX4_nextParagraph.cls = RX4 ∧ yX4_nextParagraph.cls ≠ "java/lang/invoke/MethodHandle" ∧ yX4_nextParagraph.cls ≠ "java/lang/invoke/VarHandle" ∧ (parseMethodDescriptor yX4_nextParagraph.desc).map (fun d => d.parameters.length) = some 1 := by decide +kernel
def p_X4_nextParagraph (uH : tX1) (uC : tX0) (uT : tX0) (uI : tX2) (uM : tX3) (a1 : Int32) : Option Int32 :=
  bd (p_X4_needFloor uH uC uT uI uM a1) (fun v1 =>
  gd a1 12 (
  if (uH.2.2.2.1 a1.toNatClampNeg) ≤ (uC.2.2.2.2.2.2.2.2.1 a1.toNatClampNeg) then
    some (-1 : Int32)
  else
    some (uC.2.2.2.2.2.2.2.2.1 a1.toNatClampNeg)))
set_option maxHeartbeats 4000000 in
set_option maxRecDepth 100000 in
theorem c_X4_nextParagraph (l : Launch) (dC : Nat → ClassId) (dI : Nat → Nat → Nat) (cI cZ : ClassId) (n0 h0 h3 h4 h5 h6 c0 c8 c9 c10 c11 c12 c13 t0 t8 t9 t10 t11 t12 t13 i0 i1 i2 i3 i4 m0 m1 m2 : Nat) (uH : tX1) (uC : tX0) (uT : tX0) (uI : tX2) (uM : tX3) (a1 : Int32) {z : Int32} (hok : p_X4_nextParagraph uH uC uT uI uM a1 = some z) : Met l yX4_nextParagraph (Cond.code yX4_nextParagraph cX4_nextParagraph 2 (some .int) :: lw_all) { frames := 1, cells := 0, slots := 0, locals := 21 } (prR (dC, dI) vwCl (TYS cI cZ) (wN cI cZ n0 h0 h3 h4 h5 h6 c0 c8 c9 c10 c11 c12 c13 t0 t8 t9 t10 t11 t12 t13 i0 i1 i2 i3 i4 m0 m1 m2 uH uC uT uI uM) [.ref n0, .int a1]) (vp_Si (fun r => r = z)) 0 0 (fun _ => False) := by
  refine oM (by decide) (Nat.le_of_ble_eq_true rfl) ?_
  intro p e s m args below meth c S hr hlk hnm hB ls hl
  have hx := S.1
  have hb := S.2.1
  have hml := S.2.2.1
  have hown : s.vm.findClass RX4 = some m.cls := S.2.2.2.1
  have hts := S.2.2.2.2
  have S : CallFix p m c cX4_nextParagraph 2 s args lw_all RX4 := S
  have hl : lv_has ls 2 [(0, .ref n0), (1, .int a1)] := hl
  obtain ⟨hP, hK⟩ := hB
  have hP : va_P (dC, dI) vwCl (wN cI cZ n0 h0 h3 h4 h5 h6 c0 c8 c9 c10 c11 c12 c13 t0 t8 t9 t10 t11 t12 t13 i0 i1 i2 i3 i4 m0 m1 m2 uH uC uT uI uM) s.heap := hP
  unfold p_X4_nextParagraph at hok
  refine lv_aload_n hx hb dX4_nextParagraph_0 rfl (lv_at hl 0 rfl) ?_
  refine lv_iload_n hx hb dX4_nextParagraph_1 rfl (lv_at hl 1 rfl) ?_
  obtain ⟨v1, hc1, hok⟩ := bd_some hok
  refine cRVv (ci := 4) (q0 := 0) [.int a1] S hK hP (c_X4_needFloor l dC dI cI cZ n0 h0 h3 h4 h5 h6 c0 c8 c9 c10 c11 c12 c13 t0 t8 t9 t10 t11 t12 t13 i0 i1 i2 i3 i4 m0 m1 m2 uH uC uT uI uM a1 hc1) (lw_V qm_X4_64 qi_X4_needFloor qs_X4_needFloor qn_X4 qc_X4_needFloor) hd_X4_needFloor ⟨rfl, rfl⟩ ⟨Nat.le_of_ble_eq_true rfl, Nat.le_of_ble_eq_true rfl⟩ ⟨Nat.le_of_ble_eq_true rfl, Nat.le_of_ble_eq_true rfl⟩ rfl rfl rfl hl.1 (Nat.le_of_ble_eq_true rfl) rfl dX4_nextParagraph_2 ?_
  refine lv_aload_n hx hb dX4_nextParagraph_5 rfl (lv_at hl 0 rfl) ?_
  refine va_get (D := (dC, dI)) (ci := 4) (v := .ref c0) (C := RX4) (T := TX4) (N := 5) hx hb hts inX4 hown hK hP 0 rfl rfl 1 (by decide) (hts _ qf_X4_21) (fun _ h9 => h9) rfl dX4_nextParagraph_6 ?_
  refine va_get (D := (dC, dI)) (ci := 0) (v := .ref c9) (C := RX0) (T := TX0) (N := 14) hx hb hts inX0 hown hK hP 6 rfl rfl 9 (by decide) (hts _ qf_X4_142) (fun _ h9 => h9) rfl dX4_nextParagraph_9 ?_
  refine lv_iload_n hx hb dX4_nextParagraph_12 rfl (lv_at hl 1 rfl) ?_
  obtain ⟨hi2, hok⟩ := gd_some hok
  refine va_iald hx hb hK hP 8 0 rfl rfl hi2 dX4_nextParagraph_13 ?_
  refine lv_aload_n hx hb dX4_nextParagraph_14 rfl (lv_at hl 0 rfl) ?_
  refine va_get (D := (dC, dI)) (ci := 4) (v := .ref h0) (C := RX4) (T := TX4) (N := 5) hx hb hts inX4 hown hK hP 0 rfl rfl 0 (by decide) (hts _ qf_X4_12) (fun _ h9 => h9) rfl dX4_nextParagraph_15 ?_
  refine va_get (D := (dC, dI)) (ci := 1) (v := .ref h3) (C := RX1) (T := TX1) (N := 7) hx hb hts inX1 hown hK hP 1 rfl rfl 3 (by decide) (hts _ qf_X4_73) (fun _ h9 => h9) rfl dX4_nextParagraph_18 ?_
  refine lv_iload_n hx hb dX4_nextParagraph_21 rfl (lv_at hl 1 rfl) ?_
  refine va_iald hx hb hK hP 2 0 rfl rfl hi2 dX4_nextParagraph_22 ?_
  refine lv_icmp_ge (tgt := 38) hx hb dX4_nextParagraph_23 (by decide) (fun hc => ?_) (fun hc => ?_)
  · have hok := ip hok hc
    refine lv_iconst (v := (-1 : Int32)) hx hb dX4_nextParagraph_38 (by decide) ?_
    exact eRi S hr hlk (Option.some.inj hok) dX4_nextParagraph_39
  · have hok := iq hok hc
    refine lv_aload_n hx hb dX4_nextParagraph_26 rfl (lv_at hl 0 rfl) ?_
    refine va_get (D := (dC, dI)) (ci := 4) (v := .ref c0) (C := RX4) (T := TX4) (N := 5) hx hb hts inX4 hown hK hP 0 rfl rfl 1 (by decide) (hts _ qf_X4_21) (fun _ h9 => h9) rfl dX4_nextParagraph_27 ?_
    refine va_get (D := (dC, dI)) (ci := 0) (v := .ref c9) (C := RX0) (T := TX0) (N := 14) hx hb hts inX0 hown hK hP 6 rfl rfl 9 (by decide) (hts _ qf_X4_142) (fun _ h9 => h9) rfl dX4_nextParagraph_30 ?_
    refine lv_iload_n hx hb dX4_nextParagraph_33 rfl (lv_at hl 1 rfl) ?_
    refine va_iald hx hb hK hP 8 0 rfl rfl hi2 dX4_nextParagraph_34 ?_
    refine lv_goto (tgt := 39) hx hb dX4_nextParagraph_35 (by decide) ?_
    exact eRi S hr hlk (Option.some.inj hok) dX4_nextParagraph_39
