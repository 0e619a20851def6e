theorem hd_X4_needInstalment : yX4_needInstalment.cls = RX4 ∧ yX4_needInstalment.cls ≠ "java/lang/invoke/MethodHandle" ∧ yX4_needInstalment.cls ≠ "java/lang/invoke/VarHandle" ∧ (parseMethodDescriptor yX4_needInstalment.desc).map (fun d => d.parameters.length) = some 1 := by decide +kernel
def p_X4_needInstalment (uH : tX1) (uC : tX0) (uT : tX0) (uI : tX2) (uM : tX3) (a1 : Int32) : Option (Unit) :=
  if a1 < 0 then
    none
  else
    if a1 < uI.1 then
      some ()
    else
      none
set_option maxHeartbeats 4000000 in
set_option maxRecDepth 100000 in
theorem c_X4_needInstalment (l : Launch) (dC : Nat → ClassId) (dI : Nat → Nat → Nat) (cI cZ : ClassId) (n0 h0 h3 h4 h5 h6 c0 c8 c9 c10 c11 c12 c13 t0 t8 t9 t10 t11 t12 t13 i0 i1 i2 i3 i4 m0 m1 m2 : Nat) (uH : tX1) (uC : tX0) (uT : tX0) (uI : tX2) (uM : tX3) (a1 : Int32) {z : (Unit)} (hok : p_X4_needInstalment uH uC uT uI uM a1 = some z) : Met l yX4_needInstalment (Cond.code yX4_needInstalment cX4_needInstalment 2 none :: lw_all) { frames := 0, cells := 0, slots := 0, locals := 0 } (prR (dC, dI) vwCl (TYS cI cZ) (wN cI cZ n0 h0 h3 h4 h5 h6 c0 c8 c9 c10 c11 c12 c13 t0 t8 t9 t10 t11 t12 t13 i0 i1 i2 i3 i4 m0 m1 m2 uH uC uT uI uM) [.ref n0, .int a1]) (va_Sv (fun _ : Unit => True)) 0 0 (fun _ => False) := by
  refine oM (by decide) (Nat.le_of_ble_eq_true rfl) ?_
  intro p e s m args below meth c S hr hlk hnm hB ls hl
  have hx := S.1
  have hb := S.2.1
  have hml := S.2.2.1
  have hown : s.vm.findClass RX4 = some m.cls := S.2.2.2.1
  have hts := S.2.2.2.2
  have S : CallFix p m c cX4_needInstalment 2 s args lw_all RX4 := S
  have hl : lv_has ls 2 [(0, .ref n0), (1, .int a1)] := hl
  obtain ⟨hP, hK⟩ := hB
  have hP : va_P (dC, dI) vwCl (wN cI cZ n0 h0 h3 h4 h5 h6 c0 c8 c9 c10 c11 c12 c13 t0 t8 t9 t10 t11 t12 t13 i0 i1 i2 i3 i4 m0 m1 m2 uH uC uT uI uM) s.heap := hP
  unfold p_X4_needInstalment at hok
  refine lv_iload_n hx hb dX4_needInstalment_0 rfl (lv_at hl 1 rfl) ?_
  refine lv_if_lt (tgt := 15) hx hb dX4_needInstalment_1 (by decide) (fun hc => ?_) (fun hc => ?_)
  · have hok := ip hok hc
    cases hok
  · have hok := iq hok hc
    refine lv_iload_n hx hb dX4_needInstalment_4 rfl (lv_at hl 1 rfl) ?_
    refine lv_aload_n hx hb dX4_needInstalment_5 rfl (lv_at hl 0 rfl) ?_
    refine va_get (D := (dC, dI)) (ci := 4) (v := .ref i0) (C := RX4) (T := TX4) (N := 5) hx hb hts inX4 hown hK hP 0 rfl rfl 3 (by decide) (hts _ qf_X4_31) (fun _ h9 => h9) rfl dX4_needInstalment_6 ?_
    refine va_get (D := (dC, dI)) (ci := 2) (v := .int uI.1) (C := RX2) (T := TX2) (N := 5) hx hb hts inX2 hown hK hP 20 rfl rfl 0 (by decide) (hts _ qf_X4_56) (fun _ h9 => h9) rfl dX4_needInstalment_9 ?_
    refine lv_icmp_lt (tgt := 26) hx hb dX4_needInstalment_12 (by decide) (fun hc => ?_) (fun hc => ?_)
    · have hok := ip hok hc
      exact eRv S hr hlk dX4_needInstalment_26
    · have hok := iq hok hc
      cases hok
theorem hd_X4_floorIn : yX4_floorIn.cls = RX4 ∧ yX4_floorIn.cls ≠ "java/lang/invoke/MethodHandle" ∧ yX4_floorIn.cls ≠ "java/lang/invoke/VarHandle" ∧ (parseMethodDescriptor yX4_floorIn.desc).map (fun d => d.parameters.length) = some 1 := by decide +kernel
def p_X4_floorIn (uH : tX1) (uC : tX0) (uT : tX0) (uI : tX2) (uM : tX3) (a1 : Int32) : Option Int32 :=
  bd (p_X4_needInstalment uH uC uT uI uM a1) (fun v1 =>
  gd a1 108 (
  some (uI.2.1 a1.toNatClampNeg)))
set_option maxHeartbeats 4000000 in
set_option maxRecDepth 100000 in
theorem c_X4_floorIn (l : Launch) (dC : Nat → ClassId) (dI : Nat → Nat → Nat) (cI cZ : ClassId) (n0 h0 h3 h4 h5 h6 c0 c8 c9 c10 c11 c12 c13 t0 t8 t9 t10 t11 t12 t13 i0 i1 i2 i3 i4 m0 m1 m2 : Nat) (uH : tX1) (uC : tX0) (uT : tX0) (uI : tX2) (uM : tX3) (a1 : Int32) {z : Int32} (hok : p_X4_floorIn uH uC uT uI uM a1 = some z) : Met l yX4_floorIn (Cond.code yX4_floorIn cX4_floorIn 2 (some .int) :: lw_all) { frames := 1, cells := 0, slots := 0, locals := 21 } (prR (dC, dI) vwCl (TYS cI cZ) (wN cI cZ n0 h0 h3 h4 h5 h6 c0 c8 c9 c10 c11 c12 c13 t0 t8 t9 t10 t11 t12 t13 i0 i1 i2 i3 i4 m0 m1 m2 uH uC uT uI uM) [.ref n0, .int a1]) (vp_Si (fun r => r = z)) 0 0 (fun _ => False) := by
  refine oM (by decide) (Nat.le_of_ble_eq_true rfl) ?_
  intro p e s m args below meth c S hr hlk hnm hB ls hl
  have hx := S.1
  have hb := S.2.1
  have hml := S.2.2.1
  have hown : s.vm.findClass RX4 = some m.cls := S.2.2.2.1
  have hts := S.2.2.2.2
  have S : CallFix p m c cX4_floorIn 2 s args lw_all RX4 := S
  have hl : lv_has ls 2 [(0, .ref n0), (1, .int a1)] := hl
  obtain ⟨hP, hK⟩ := hB
  have hP : va_P (dC, dI) vwCl (wN cI cZ n0 h0 h3 h4 h5 h6 c0 c8 c9 c10 c11 c12 c13 t0 t8 t9 t10 t11 t12 t13 i0 i1 i2 i3 i4 m0 m1 m2 uH uC uT uI uM) s.heap := hP
  unfold p_X4_floorIn at hok
  refine lv_aload_n hx hb dX4_floorIn_0 rfl (lv_at hl 0 rfl) ?_
  refine lv_iload_n hx hb dX4_floorIn_1 rfl (lv_at hl 1 rfl) ?_
  obtain ⟨v1, hc1, hok⟩ := bd_some hok
  refine cRVv (ci := 4) (q0 := 0) [.int a1] S hK hP (c_X4_needInstalment l dC dI cI cZ n0 h0 h3 h4 h5 h6 c0 c8 c9 c10 c11 c12 c13 t0 t8 t9 t10 t11 t12 t13 i0 i1 i2 i3 i4 m0 m1 m2 uH uC uT uI uM a1 hc1) (lw_V qm_X4_180 qi_X4_needInstalment qs_X4_needInstalment qn_X4 qc_X4_needInstalment) hd_X4_needInstalment ⟨rfl, rfl⟩ ⟨Nat.le_of_ble_eq_true rfl, Nat.le_of_ble_eq_true rfl⟩ ⟨Nat.le_of_ble_eq_true rfl, Nat.le_of_ble_eq_true rfl⟩ rfl rfl rfl hl.1 (Nat.le_of_ble_eq_true rfl) rfl dX4_floorIn_2 ?_
  refine lv_aload_n hx hb dX4_floorIn_5 rfl (lv_at hl 0 rfl) ?_
  refine va_get (D := (dC, dI)) (ci := 4) (v := .ref i0) (C := RX4) (T := TX4) (N := 5) hx hb hts inX4 hown hK hP 0 rfl rfl 3 (by decide) (hts _ qf_X4_31) (fun _ h9 => h9) rfl dX4_floorIn_6 ?_
  refine va_get (D := (dC, dI)) (ci := 2) (v := .ref i1) (C := RX2) (T := TX2) (N := 5) hx hb hts inX2 hown hK hP 20 rfl rfl 1 (by decide) (hts _ qf_X4_183) (fun _ h9 => h9) rfl dX4_floorIn_9 ?_
  refine lv_iload_n hx hb dX4_floorIn_12 rfl (lv_at hl 1 rfl) ?_
  obtain ⟨hi2, hok⟩ := gd_some hok
  refine va_iald hx hb hK hP 21 0 rfl rfl hi2 dX4_floorIn_13 ?_
  exact eRi S hr hlk (Option.some.inj hok) dX4_floorIn_14
theorem hd_X4_paragraphIn : yX4_paragraphIn.cls = RX4 ∧ yX4_paragraphIn.cls ≠ "java/lang/invoke/MethodHandle" ∧ yX4_paragraphIn.cls ≠ "java/lang/invoke/VarHandle" ∧ (parseMethodDescriptor yX4_paragraphIn.desc).map (fun d => d.parameters.length) = some 1 := by decide +kernel
def p_X4_paragraphIn (uH : tX1) (uC : tX0) (uT : tX0) (uI : tX2) (uM : tX3) (a1 : Int32) : Option Int32 :=
  bd (p_X4_needInstalment uH uC uT uI uM a1) (fun v1 =>
  gd a1 108 (
  some (uI.2.2.1 a1.toNatClampNeg)))
set_option maxHeartbeats 4000000 in
set_option maxRecDepth 100000 in
theorem c_X4_paragraphIn (l : Launch) (dC : Nat → ClassId) (dI : Nat → Nat → Nat) (cI cZ : ClassId) (n0 h0 h3 h4 h5 h6 c0 c8 c9 c10 c11 c12 c13 t0 t8 t9 t10 t11 t12 t13 i0 i1 i2 i3 i4 m0 m1 m2 : Nat) (uH : tX1) (uC : tX0) (uT : tX0) (uI : tX2) (uM : tX3) (a1 : Int32) {z : Int32} (hok : p_X4_paragraphIn uH uC uT uI uM a1 = some z) : Met l yX4_paragraphIn (Cond.code yX4_paragraphIn cX4_paragraphIn 2 (some .int) :: lw_all) { frames := 1, cells := 0, slots := 0, locals := 21 } (prR (dC, dI) vwCl (TYS cI cZ) (wN cI cZ n0 h0 h3 h4 h5 h6 c0 c8 c9 c10 c11 c12 c13 t0 t8 t9 t10 t11 t12 t13 i0 i1 i2 i3 i4 m0 m1 m2 uH uC uT uI uM) [.ref n0, .int a1]) (vp_Si (fun r => r = z)) 0 0 (fun _ => False) := by
  refine oM (by decide) (Nat.le_of_ble_eq_true rfl) ?_
  intro p e s m args below meth c S hr hlk hnm hB ls hl
  have hx := S.1
  have hb := S.2.1
  have hml := S.2.2.1
  have hown : s.vm.findClass RX4 = some m.cls := S.2.2.2.1
  have hts := S.2.2.2.2
  have S : CallFix p m c cX4_paragraphIn 2 s args lw_all RX4 := S
  have hl : lv_has ls 2 [(0, .ref n0), (1, .int a1)] := hl
  obtain ⟨hP, hK⟩ := hB
  have hP : va_P (dC, dI) vwCl (wN cI cZ n0 h0 h3 h4 h5 h6 c0 c8 c9 c10 c11 c12 c13 t0 t8 t9 t10 t11 t12 t13 i0 i1 i2 i3 i4 m0 m1 m2 uH uC uT uI uM) s.heap := hP
  unfold p_X4_paragraphIn at hok
  refine lv_aload_n hx hb dX4_paragraphIn_0 rfl (lv_at hl 0 rfl) ?_
  refine lv_iload_n hx hb dX4_paragraphIn_1 rfl (lv_at hl 1 rfl) ?_
  obtain ⟨v1, hc1, hok⟩ := bd_some hok
  refine cRVv (ci := 4) (q0 := 0) [.int a1] S hK hP (c_X4_needInstalment l dC dI cI cZ n0 h0 h3 h4 h5 h6 c0 c8 c9 c10 c11 c12 c13 t0 t8 t9 t10 t11 t12 t13 i0 i1 i2 i3 i4 m0 m1 m2 uH uC uT uI uM a1 hc1) (lw_V qm_X4_180 qi_X4_needInstalment qs_X4_needInstalment qn_X4 qc_X4_needInstalment) hd_X4_needInstalment ⟨rfl, rfl⟩ ⟨Nat.le_of_ble_eq_true rfl, Nat.le_of_ble_eq_true rfl⟩ ⟨Nat.le_of_ble_eq_true rfl, Nat.le_of_ble_eq_true rfl⟩ rfl rfl rfl hl.1 (Nat.le_of_ble_eq_true rfl) rfl dX4_paragraphIn_2 ?_
  refine lv_aload_n hx hb dX4_paragraphIn_5 rfl (lv_at hl 0 rfl) ?_
  refine va_get (D := (dC, dI)) (ci := 4) (v := .ref i0) (C := RX4) (T := TX4) (N := 5) hx hb hts inX4 hown hK hP 0 rfl rfl 3 (by decide) (hts _ qf_X4_31) (fun _ h9 => h9) rfl dX4_paragraphIn_6 ?_
  refine va_get (D := (dC, dI)) (ci := 2) (v := .ref i2) (C := RX2) (T := TX2) (N := 5) hx hb hts inX2 hown hK hP 20 rfl rfl 2 (by decide) (hts _ qf_X4_185) (fun _ h9 => h9) rfl dX4_paragraphIn_9 ?_
  refine lv_iload_n hx hb dX4_paragraphIn_12 rfl (lv_at hl 1 rfl) ?_
  obtain ⟨hi2, hok⟩ := gd_some hok
  refine va_iald hx hb hK hP 22 0 rfl rfl hi2 dX4_paragraphIn_13 ?_
  exact eRi S hr hlk (Option.some.inj hok) dX4_paragraphIn_14
theorem hd_X4_thrillIn : yX4_thrillIn.cls = RX4 ∧ yX4_thrillIn.cls ≠ "java/lang/invoke/MethodHandle" ∧ yX4_thrillIn.cls ≠ "java/lang/invoke/VarHandle" ∧ (parseMethodDescriptor yX4_thrillIn.desc).map (fun d => d.parameters.length) = some 1 := by decide +kernel
def p_X4_thrillIn (uH : tX1) (uC : tX0) (uT : tX0) (uI : tX2) (uM : tX3) (a1 : Int32) : Option Int32 :=
  bd (p_X4_needInstalment uH uC uT uI uM a1) (fun v1 =>
  gd a1 108 (
  some (uI.2.2.2.1 a1.toNatClampNeg)))
set_option maxHeartbeats 4000000 in
set_option maxRecDepth 100000 in
theorem c_X4_thrillIn (l : Launch) (dC : Nat → ClassId) (dI : Nat → Nat → Nat) (cI cZ : ClassId) (n0 h0 h3 h4 h5 h6 c0 c8 c9 c10 c11 c12 c13 t0 t8 t9 t10 t11 t12 t13 i0 i1 i2 i3 i4 m0 m1 m2 : Nat) (uH : tX1) (uC : tX0) (uT : tX0) (uI : tX2) (uM : tX3) (a1 : Int32) {z : Int32} (hok : p_X4_thrillIn uH uC uT uI uM a1 = some z) : Met l yX4_thrillIn (Cond.code yX4_thrillIn cX4_thrillIn 2 (some .int) :: lw_all) { frames := 1, cells := 0, slots := 0, locals := 21 } (prR (dC, dI) vwCl (TYS cI cZ) (wN cI cZ n0 h0 h3 h4 h5 h6 c0 c8 c9 c10 c11 c12 c13 t0 t8 t9 t10 t11 t12 t13 i0 i1 i2 i3 i4 m0 m1 m2 uH uC uT uI uM) [.ref n0, .int a1]) (vp_Si (fun r => r = z)) 0 0 (fun _ => False) := by
  refine oM (by decide) (Nat.le_of_ble_eq_true rfl) ?_
  intro p e s m args below meth c S hr hlk hnm hB ls hl
  have hx := S.1
  have hb := S.2.1
  have hml := S.2.2.1
  have hown : s.vm.findClass RX4 = some m.cls := S.2.2.2.1
  have hts := S.2.2.2.2
  have S : CallFix p m c cX4_thrillIn 2 s args lw_all RX4 := S
  have hl : lv_has ls 2 [(0, .ref n0), (1, .int a1)] := hl
  obtain ⟨hP, hK⟩ := hB
  have hP : va_P (dC, dI) vwCl (wN cI cZ n0 h0 h3 h4 h5 h6 c0 c8 c9 c10 c11 c12 c13 t0 t8 t9 t10 t11 t12 t13 i0 i1 i2 i3 i4 m0 m1 m2 uH uC uT uI uM) s.heap := hP
  unfold p_X4_thrillIn at hok
  refine lv_aload_n hx hb dX4_thrillIn_0 rfl (lv_at hl 0 rfl) ?_
  refine lv_iload_n hx hb dX4_thrillIn_1 rfl (lv_at hl 1 rfl) ?_
  obtain ⟨v1, hc1, hok⟩ := bd_some hok
  refine cRVv (ci := 4) (q0 := 0) [.int a1] S hK hP (c_X4_needInstalment l dC dI cI cZ n0 h0 h3 h4 h5 h6 c0 c8 c9 c10 c11 c12 c13 t0 t8 t9 t10 t11 t12 t13 i0 i1 i2 i3 i4 m0 m1 m2 uH uC uT uI uM a1 hc1) (lw_V qm_X4_180 qi_X4_needInstalment qs_X4_needInstalment qn_X4 qc_X4_needInstalment) hd_X4_needInstalment ⟨rfl, rfl⟩ ⟨Nat.le_of_ble_eq_true rfl, Nat.le_of_ble_eq_true rfl⟩ ⟨Nat.le_of_ble_eq_true rfl, Nat.le_of_ble_eq_true rfl⟩ rfl rfl rfl hl.1 (Nat.le_of_ble_eq_true rfl) rfl dX4_thrillIn_2 ?_
  refine lv_aload_n hx hb dX4_thrillIn_5 rfl (lv_at hl 0 rfl) ?_
  refine va_get (D := (dC, dI)) (ci := 4) (v := .ref i0) (C := RX4) (T := TX4) (N := 5) hx hb hts inX4 hown hK hP 0 rfl rfl 3 (by decide) (hts _ qf_X4_31) (fun _ h9 => h9) rfl dX4_thrillIn_6 ?_
  refine va_get (D := (dC, dI)) (ci := 2) (v := .ref i3) (C := RX2) (T := TX2) (N := 5) hx hb hts inX2 hown hK hP 20 rfl rfl 3 (by decide) (hts _ qf_X4_188) (fun _ h9 => h9) rfl dX4_thrillIn_9 ?_
  refine lv_iload_n hx hb dX4_thrillIn_12 rfl (lv_at hl 1 rfl) ?_
  obtain ⟨hi2, hok⟩ := gd_some hok
  refine va_iald hx hb hK hP 23 0 rfl rfl hi2 dX4_thrillIn_13 ?_
  exact eRi S hr hlk (Option.some.inj hok) dX4_thrillIn_14
theorem hd_X4_hourIn : yX4_hourIn.cls = RX4 ∧ yX4_hourIn.cls ≠ "java/lang/invoke/MethodHandle" ∧ yX4_hourIn.cls ≠ "java/lang/invoke/VarHandle" ∧ (parseMethodDescriptor yX4_hourIn.desc).map (fun d => d.parameters.length) = some 1 := by decide +kernel
def p_X4_hourIn (uH : tX1) (uC : tX0) (uT : tX0) (uI : tX2) (uM : tX3) (a1 : Int32) : Option Int32 :=
  bd (p_X4_needInstalment uH uC uT uI uM a1) (fun v1 =>
  gd a1 108 (
  some (uI.2.2.2.2 a1.toNatClampNeg)))
set_option maxHeartbeats 4000000 in
set_option maxRecDepth 100000 in
theorem c_X4_hourIn (l : Launch) (dC : Nat → ClassId) (dI : Nat → Nat → Nat) (cI cZ : ClassId) (n0 h0 h3 h4 h5 h6 c0 c8 c9 c10 c11 c12 c13 t0 t8 t9 t10 t11 t12 t13 i0 i1 i2 i3 i4 m0 m1 m2 : Nat) (uH : tX1) (uC : tX0) (uT : tX0) (uI : tX2) (uM : tX3) (a1 : Int32) {z : Int32} (hok : p_X4_hourIn uH uC uT uI uM a1 = some z) : Met l yX4_hourIn (Cond.code yX4_hourIn cX4_hourIn 2 (some .int) :: lw_all) { frames := 1, cells := 0, slots := 0, locals := 21 } (prR (dC, dI) vwCl (TYS cI cZ) (wN cI cZ n0 h0 h3 h4 h5 h6 c0 c8 c9 c10 c11 c12 c13 t0 t8 t9 t10 t11 t12 t13 i0 i1 i2 i3 i4 m0 m1 m2 uH uC uT uI uM) [.ref n0, .int a1]) (vp_Si (fun r => r = z)) 0 0 (fun _ => False) := by
  refine oM (by decide) (Nat.le_of_ble_eq_true rfl) ?_
  intro p e s m args below meth c S hr hlk hnm hB ls hl
  have hx := S.1
  have hb := S.2.1
  have hml := S.2.2.1
  have hown : s.vm.findClass RX4 = some m.cls := S.2.2.2.1
  have hts := S.2.2.2.2
  have S : CallFix p m c cX4_hourIn 2 s args lw_all RX4 := S
  have hl : lv_has ls 2 [(0, .ref n0), (1, .int a1)] := hl
  obtain ⟨hP, hK⟩ := hB
  have hP : va_P (dC, dI) vwCl (wN cI cZ n0 h0 h3 h4 h5 h6 c0 c8 c9 c10 c11 c12 c13 t0 t8 t9 t10 t11 t12 t13 i0 i1 i2 i3 i4 m0 m1 m2 uH uC uT uI uM) s.heap := hP
  unfold p_X4_hourIn at hok
  refine lv_aload_n hx hb dX4_hourIn_0 rfl (lv_at hl 0 rfl) ?_
  refine lv_iload_n hx hb dX4_hourIn_1 rfl (lv_at hl 1 rfl) ?_
  obtain ⟨v1, hc1, hok⟩ := bd_some hok
  refine cRVv (ci := 4) (q0 := 0) [.int a1] S hK hP (c_X4_needInstalment l dC dI cI cZ n0 h0 h3 h4 h5 h6 c0 c8 c9 c10 c11 c12 c13 t0 t8 t9 t10 t11 t12 t13 i0 i1 i2 i3 i4 m0 m1 m2 uH uC uT uI uM a1 hc1) (lw_V qm_X4_180 qi_X4_needInstalment qs_X4_needInstalment qn_X4 qc_X4_needInstalment) hd_X4_needInstalment ⟨rfl, rfl⟩ ⟨Nat.le_of_ble_eq_true rfl, Nat.le_of_ble_eq_true rfl⟩ ⟨Nat.le_of_ble_eq_true rfl, Nat.le_of_ble_eq_true rfl⟩ rfl rfl rfl hl.1 (Nat.le_of_ble_eq_true rfl) rfl dX4_hourIn_2 ?_
  refine lv_aload_n hx hb dX4_hourIn_5 rfl (lv_at hl 0 rfl) ?_
  refine va_get (D := (dC, dI)) (ci := 4) (v := .ref i0) (C := RX4) (T := TX4) (N := 5) hx hb hts inX4 hown hK hP 0 rfl rfl 3 (by decide) (hts _ qf_X4_31) (fun _ h9 => h9) rfl dX4_hourIn_6 ?_
  refine va_get (D := (dC, dI)) (ci := 2) (v := .ref i4) (C := RX2) (T := TX2) (N := 5) hx hb hts inX2 hown hK hP 20 rfl rfl 4 (by decide) (hts _ qf_X4_191) (fun _ h9 => h9) rfl dX4_hourIn_9 ?_
  refine lv_iload_n hx hb dX4_hourIn_12 rfl (lv_at hl 1 rfl) ?_
  obtain ⟨hi2, hok⟩ := gd_some hok
  refine va_iald hx hb hK hP 24 0 rfl rfl hi2 dX4_hourIn_13 ?_
  exact eRi S hr hlk (Option.some.inj hok) dX4_hourIn_14
theorem hd_X4_mostThrilling : yX4_mostThrilling.cls = RX4 ∧ yX4_mostThrilling.cls ≠ "java/lang/invoke/MethodHandle" ∧ yX4_mostThrilling.cls ≠ "java/lang/invoke/VarHandle" ∧ (parseMethodDescriptor yX4_mostThrilling.desc).map (fun d => d.parameters.length) = some 0 := by decide +kernel
def p_X4_mostThrilling (uH : tX1) (uC : tX0) (uT : tX0) (uI : tX2) (uM : tX3) : Option Int32 :=
  bd (p_X2_findMostThrilling uI) (fun v1 =>
  some v1)
set_option maxHeartbeats 4000000 in
set_option maxRecDepth 100000 in
theorem c_X4_mostThrilling (l : Launch) (dC : Nat → ClassId) (dI : Nat → Nat → Nat) (cI cZ : ClassId) (n0 h0 h3 h4 h5 h6 c0 c8 c9 c10 c11 c12 c13 t0 t8 t9 t10 t11 t12 t13 i0 i1 i2 i3 i4 m0 m1 m2 : Nat) (uH : tX1) (uC : tX0) (uT : tX0) (uI : tX2) (uM : tX3) {z : Int32} (hok : p_X4_mostThrilling uH uC uT uI uM = some z) : Met l yX4_mostThrilling (Cond.code yX4_mostThrilling cX4_mostThrilling 1 (some .int) :: lw_all) { frames := 1, cells := 0, slots := 0, locals := 22 } (prR (dC, dI) vwCl (TYS cI cZ) (wN cI cZ n0 h0 h3 h4 h5 h6 c0 c8 c9 c10 c11 c12 c13 t0 t8 t9 t10 t11 t12 t13 i0 i1 i2 i3 i4 m0 m1 m2 uH uC uT uI uM) [.ref n0]) (vp_Si (fun r => r = z)) 0 0 (fun _ => False) := by
  refine oM (by decide) (Nat.le_of_ble_eq_true rfl) ?_
  intro p e s m args below meth c S hr hlk hnm hB ls hl
  have hx := S.1
  have hb := S.2.1
  have hml := S.2.2.1
  have hown : s.vm.findClass RX4 = some m.cls := S.2.2.2.1
  have hts := S.2.2.2.2
  have S : CallFix p m c cX4_mostThrilling 1 s args lw_all RX4 := S
  have hl : lv_has ls 1 [(0, .ref n0)] := hl
  obtain ⟨hP, hK⟩ := hB
  have hP : va_P (dC, dI) vwCl (wN cI cZ n0 h0 h3 h4 h5 h6 c0 c8 c9 c10 c11 c12 c13 t0 t8 t9 t10 t11 t12 t13 i0 i1 i2 i3 i4 m0 m1 m2 uH uC uT uI uM) s.heap := hP
  unfold p_X4_mostThrilling at hok
  refine lv_aload_n hx hb dX4_mostThrilling_0 rfl (lv_at hl 0 rfl) ?_
  refine va_get (D := (dC, dI)) (ci := 4) (v := .ref i0) (C := RX4) (T := TX4) (N := 5) hx hb hts inX4 hown hK hP 0 rfl rfl 3 (by decide) (hts _ qf_X4_31) (fun _ h9 => h9) rfl dX4_mostThrilling_1 ?_
  obtain ⟨v1, hc1, hok⟩ := bd_some hok
  refine cRVi (ci := 2) (q0 := 0) [] S hK (cP_I hP) (c_X2_findMostThrilling l dC dI cI cZ i0 i1 i2 i3 i4 uI hc1) (lw_V qm_X4_194 qi_X2_findMostThrilling qs_X2_findMostThrilling qn_X2 qc_X2_findMostThrilling) hd_X2_findMostThrilling ⟨rfl, rfl⟩ ⟨Nat.le_of_ble_eq_true rfl, Nat.le_of_ble_eq_true rfl⟩ ⟨Nat.le_of_ble_eq_true rfl, Nat.le_of_ble_eq_true rfl⟩ rfl rfl rfl hl.1 (Nat.le_of_ble_eq_true rfl) rfl dX4_mostThrilling_4 ?_
  exact eRi S hr hlk (Option.some.inj hok) dX4_mostThrilling_7
theorem hd_X4_longestWait : yX4_longestWait.cls = RX4 ∧ yX4_longestWait.cls ≠ "java/lang/invoke/MethodHandle" ∧ yX4_longestWait.cls ≠ "java/lang/invoke/VarHandle" ∧ (parseMethodDescriptor yX4_longestWait.desc).map (fun d => d.parameters.length) = some 0 := by decide +kernel
def p_X4_longestWait (uH : tX1) (uC : tX0) (uT : tX0) (uI : tX2) (uM : tX3) : Option Int32 :=
  bd (p_X2_findLongestWait uI) (fun v1 =>
  some v1)
set_option maxHeartbeats 4000000 in
set_option maxRecDepth 100000 in
theorem c_X4_longestWait (l : Launch) (dC : Nat → ClassId) (dI : Nat → Nat → Nat) (cI cZ : ClassId) (n0 h0 h3 h4 h5 h6 c0 c8 c9 c10 c11 c12 c13 t0 t8 t9 t10 t11 t12 t13 i0 i1 i2 i3 i4 m0 m1 m2 : Nat) (uH : tX1) (uC : tX0) (uT : tX0) (uI : tX2) (uM : tX3) {z : Int32} (hok : p_X4_longestWait uH uC uT uI uM = some z) : Met l yX4_longestWait (Cond.code yX4_longestWait cX4_longestWait 1 (some .int) :: lw_all) { frames := 2, cells := 0, slots := 0, locals := 43 } (prR (dC, dI) vwCl (TYS cI cZ) (wN cI cZ n0 h0 h3 h4 h5 h6 c0 c8 c9 c10 c11 c12 c13 t0 t8 t9 t10 t11 t12 t13 i0 i1 i2 i3 i4 m0 m1 m2 uH uC uT uI uM) [.ref n0]) (vp_Si (fun r => r = z)) 0 0 (fun _ => False) := by
  refine oM (by decide) (Nat.le_of_ble_eq_true rfl) ?_
  intro p e s m args below meth c S hr hlk hnm hB ls hl
  have hx := S.1
  have hb := S.2.1
  have hml := S.2.2.1
  have hown : s.vm.findClass RX4 = some m.cls := S.2.2.2.1
  have hts := S.2.2.2.2
  have S : CallFix p m c cX4_longestWait 1 s args lw_all RX4 := S
  have hl : lv_has ls 1 [(0, .ref n0)] := hl
  obtain ⟨hP, hK⟩ := hB
  have hP : va_P (dC, dI) vwCl (wN cI cZ n0 h0 h3 h4 h5 h6 c0 c8 c9 c10 c11 c12 c13 t0 t8 t9 t10 t11 t12 t13 i0 i1 i2 i3 i4 m0 m1 m2 uH uC uT uI uM) s.heap := hP
  unfold p_X4_longestWait at hok
  refine lv_aload_n hx hb dX4_longestWait_0 rfl (lv_at hl 0 rfl) ?_
  refine va_get (D := (dC, dI)) (ci := 4) (v := .ref i0) (C := RX4) (T := TX4) (N := 5) hx hb hts inX4 hown hK hP 0 rfl rfl 3 (by decide) (hts _ qf_X4_31) (fun _ h9 => h9) rfl dX4_longestWait_1 ?_
  obtain ⟨v1, hc1, hok⟩ := bd_some hok
  refine cRVi (ci := 2) (q0 := 0) [] S hK (cP_I hP) (c_X2_findLongestWait l dC dI cI cZ i0 i1 i2 i3 i4 uI hc1) (lw_V qm_X4_197 qi_X2_findLongestWait qs_X2_findLongestWait qn_X2 qc_X2_findLongestWait) hd_X2_findLongestWait ⟨rfl, rfl⟩ ⟨Nat.le_of_ble_eq_true rfl, Nat.le_of_ble_eq_true rfl⟩ ⟨Nat.le_of_ble_eq_true rfl, Nat.le_of_ble_eq_true rfl⟩ rfl rfl rfl hl.1 (Nat.le_of_ble_eq_true rfl) rfl dX4_longestWait_4 ?_
  exact eRi S hr hlk (Option.some.inj hok) dX4_longestWait_7
theorem hd_X4_climbs : yX4_climbs.cls = RX4 ∧ yX4_climbs.cls ≠ "java/lang/invoke/MethodHandle" ∧ yX4_climbs.cls ≠ "java/lang/invoke/VarHandle" ∧ (parseMethodDescriptor yX4_climbs.desc).map (fun d => d.parameters.length) = some 0 := by decide +kernel
def p_X4_climbs (uH : tX1) (uC : tX0) (uT : tX0) (uI : tX2) (uM : tX3) : Option Int32 :=
  bd (p_X2_countClimbs uI) (fun v1 =>
  some v1)
set_option maxHeartbeats 4000000 in
set_option maxRecDepth 100000 in
theorem c_X4_climbs (l : Launch) (dC : Nat → ClassId) (dI : Nat → Nat → Nat) (cI cZ : ClassId) (n0 h0 h3 h4 h5 h6 c0 c8 c9 c10 c11 c12 c13 t0 t8 t9 t10 t11 t12 t13 i0 i1 i2 i3 i4 m0 m1 m2 : Nat) (uH : tX1) (uC : tX0) (uT : tX0) (uI : tX2) (uM : tX3) {z : Int32} (hok : p_X4_climbs uH uC uT uI uM = some z) : Met l yX4_climbs (Cond.code yX4_climbs cX4_climbs 1 (some .int) :: lw_all) { frames := 1, cells := 0, slots := 0, locals := 22 } (prR (dC, dI) vwCl (TYS cI cZ) (wN cI cZ n0 h0 h3 h4 h5 h6 c0 c8 c9 c10 c11 c12 c13 t0 t8 t9 t10 t11 t12 t13 i0 i1 i2 i3 i4 m0 m1 m2 uH uC uT uI uM) [.ref n0]) (vp_Si (fun r => r = z)) 0 0 (fun _ => False) := by
  refine oM (by decide) (Nat.le_of_ble_eq_true rfl) ?_
  intro p e s m args below meth c S hr hlk hnm hB ls hl
  have hx := S.1
  have hb := S.2.1
  have hml := S.2.2.1
  have hown : s.vm.findClass RX4 = some m.cls := S.2.2.2.1
  have hts := S.2.2.2.2
  have S : CallFix p m c cX4_climbs 1 s args lw_all RX4 := S
  have hl : lv_has ls 1 [(0, .ref n0)] := hl
  obtain ⟨hP, hK⟩ := hB
  have hP : va_P (dC, dI) vwCl (wN cI cZ n0 h0 h3 h4 h5 h6 c0 c8 c9 c10 c11 c12 c13 t0 t8 t9 t10 t11 t12 t13 i0 i1 i2 i3 i4 m0 m1 m2 uH uC uT uI uM) s.heap := hP
  unfold p_X4_climbs at hok
  refine lv_aload_n hx hb dX4_climbs_0 rfl (lv_at hl 0 rfl) ?_
  refine va_get (D := (dC, dI)) (ci := 4) (v := .ref i0) (C := RX4) (T := TX4) (N := 5) hx hb hts inX4 hown hK hP 0 rfl rfl 3 (by decide) (hts _ qf_X4_31) (fun _ h9 => h9) rfl dX4_climbs_1 ?_
  obtain ⟨v1, hc1, hok⟩ := bd_some hok
  refine cRVi (ci := 2) (q0 := 0) [] S hK (cP_I hP) (c_X2_countClimbs l dC dI cI cZ i0 i1 i2 i3 i4 uI hc1) (lw_V qm_X4_200 qi_X2_countClimbs qs_X2_countClimbs qn_X2 qc_X2_countClimbs) hd_X2_countClimbs ⟨rfl, rfl⟩ ⟨Nat.le_of_ble_eq_true rfl, Nat.le_of_ble_eq_true rfl⟩ ⟨Nat.le_of_ble_eq_true rfl, Nat.le_of_ble_eq_true rfl⟩ rfl rfl rfl hl.1 (Nat.le_of_ble_eq_true rfl) rfl dX4_climbs_4 ?_
  exact eRi S hr hlk (Option.some.inj hok) dX4_climbs_7
