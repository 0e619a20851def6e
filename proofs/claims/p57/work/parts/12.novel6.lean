theorem hd_X4_needMirror : yX4_needMirror.cls = RX4 ∧ yX4_needMirror.cls ≠ "java/lang/invoke/MethodHandle" ∧ yX4_needMirror.cls ≠ "java/lang/invoke/VarHandle" ∧ (parseMethodDescriptor yX4_needMirror.desc).map (fun d => d.parameters.length) = some 1 := by decide +kernel
def p_X4_needMirror (uH : tX1) (uC : tX0) (uT : tX0) (uI : tX2) (uM : tX3) (a1 : Int32) : Option (Unit) :=
  if a1 < 0 then
    none
  else
    if a1 < uM.1 then
      some ()
    else
      none
set_option maxHeartbeats 4000000 in
set_option maxRecDepth 100000 in
theorem c_X4_needMirror (l : Launch) (dC : Nat → ClassId) (dI : Nat → Nat → Nat) (cI cZ : ClassId) (n0 h0 h3 h4 h5 h6 c0 c8 c9 c10 c11 c12 c13 t0 t8 t9 t10 t11 t12 t13 i0 i1 i2 i3 i4 m0 m1 m2 : Nat) (uH : tX1) (uC : tX0) (uT : tX0) (uI : tX2) (uM : tX3) (a1 : Int32) {z : (Unit)} (hok : p_X4_needMirror uH uC uT uI uM a1 = some z) : Met l yX4_needMirror (Cond.code yX4_needMirror cX4_needMirror 2 none :: lw_all) { frames := 0, cells := 0, slots := 0, locals := 0 } (prR (dC, dI) vwCl (TYS cI cZ) (wN cI cZ n0 h0 h3 h4 h5 h6 c0 c8 c9 c10 c11 c12 c13 t0 t8 t9 t10 t11 t12 t13 i0 i1 i2 i3 i4 m0 m1 m2 uH uC uT uI uM) [.ref n0, .int a1]) (va_Sv (fun _ : Unit => True)) 0 0 (fun _ => False) := by
  refine oM (by decide) (Nat.le_of_ble_eq_true rfl) ?_
  intro p e s m args below meth c S hr hlk hnm hB ls hl
  have hx := S.1
  have hb := S.2.1
  have hml := S.2.2.1
  have hown : s.vm.findClass RX4 = some m.cls := S.2.2.2.1
  have hts := S.2.2.2.2
  have S : CallFix p m c cX4_needMirror 2 s args lw_all RX4 := S
  have hl : lv_has ls 2 [(0, .ref n0), (1, .int a1)] := hl
  obtain ⟨hP, hK⟩ := hB
  have hP : va_P (dC, dI) vwCl (wN cI cZ n0 h0 h3 h4 h5 h6 c0 c8 c9 c10 c11 c12 c13 t0 t8 t9 t10 t11 t12 t13 i0 i1 i2 i3 i4 m0 m1 m2 uH uC uT uI uM) s.heap := hP
  unfold p_X4_needMirror at hok
  refine lv_iload_n hx hb dX4_needMirror_0 rfl (lv_at hl 1 rfl) ?_
  refine lv_if_lt (tgt := 15) hx hb dX4_needMirror_1 (by decide) (fun hc => ?_) (fun hc => ?_)
  · have hok := ip hok hc
    cases hok
  · have hok := iq hok hc
    refine lv_iload_n hx hb dX4_needMirror_4 rfl (lv_at hl 1 rfl) ?_
    refine lv_aload_n hx hb dX4_needMirror_5 rfl (lv_at hl 0 rfl) ?_
    refine va_get (D := (dC, dI)) (ci := 4) (v := .ref m0) (C := RX4) (T := TX4) (N := 5) hx hb hts inX4 hown hK hP 0 rfl rfl 4 (by decide) (hts _ qf_X4_38) (fun _ h9 => h9) rfl dX4_needMirror_6 ?_
    refine va_get (D := (dC, dI)) (ci := 3) (v := .int uM.1) (C := RX3) (T := TX3) (N := 3) hx hb hts inX3 hown hK hP 25 rfl rfl 0 (by decide) (hts _ qf_X4_116) (fun _ h9 => h9) rfl dX4_needMirror_9 ?_
    refine lv_icmp_lt (tgt := 26) hx hb dX4_needMirror_12 (by decide) (fun hc => ?_) (fun hc => ?_)
    · have hok := ip hok hc
      exact eRv S hr hlk dX4_needMirror_26
    · have hok := iq hok hc
      cases hok
theorem hd_X4_judge : yX4_judge.cls = RX4 ∧ yX4_judge.cls ≠ "java/lang/invoke/MethodHandle" ∧ yX4_judge.cls ≠ "java/lang/invoke/VarHandle" ∧ (parseMethodDescriptor yX4_judge.desc).map (fun d => d.parameters.length) = some 2 := by decide +kernel
def p_X4_judge (uH : tX1) (uC : tX0) (uT : tX0) (uI : tX2) (uM : tX3) (a1 : Int32) (a2 : Int32) : Option Int32 :=
  gd a2 108 (
  bd (p_X1_topicAt uH (uI.2.1 a2.toNatClampNeg) (uI.2.2.1 a2.toNatClampNeg)) (fun v2 =>
  bd (p_X3_judge uM a1 v2 (uI.2.2.2.1 a2.toNatClampNeg)) (fun v3 =>
  some v3)))
set_option maxHeartbeats 4000000 in
set_option maxRecDepth 100000 in
theorem c_X4_judge (l : Launch) (dC : Nat → ClassId) (dI : Nat → Nat → Nat) (cI cZ : ClassId) (n0 h0 h3 h4 h5 h6 c0 c8 c9 c10 c11 c12 c13 t0 t8 t9 t10 t11 t12 t13 i0 i1 i2 i3 i4 m0 m1 m2 : Nat) (uH : tX1) (uC : tX0) (uT : tX0) (uI : tX2) (uM : tX3) (a1 : Int32) (a2 : Int32) {z : Int32} (hok : p_X4_judge uH uC uT uI uM a1 a2 = some z) : Met l yX4_judge (Cond.code yX4_judge cX4_judge 4 (some .int) :: lw_all) { frames := 2, cells := 0, slots := 0, locals := 45 } (prR (dC, dI) vwCl (TYS cI cZ) (wN cI cZ n0 h0 h3 h4 h5 h6 c0 c8 c9 c10 c11 c12 c13 t0 t8 t9 t10 t11 t12 t13 i0 i1 i2 i3 i4 m0 m1 m2 uH uC uT uI uM) [.ref n0, .int a1, .int a2]) (vp_Si (fun r => r = z)) 0 0 (fun _ => False) := by
  refine oM (by decide) (Nat.le_of_ble_eq_true rfl) ?_
  intro p e s m args below meth c S hr hlk hnm hB ls hl
  have hx := S.1
  have hb := S.2.1
  have hml := S.2.2.1
  have hown : s.vm.findClass RX4 = some m.cls := S.2.2.2.1
  have hts := S.2.2.2.2
  have S : CallFix p m c cX4_judge 4 s args lw_all RX4 := S
  have hl : lv_has ls 4 [(0, .ref n0), (1, .int a1), (2, .int a2)] := hl
  obtain ⟨hP, hK⟩ := hB
  have hP : va_P (dC, dI) vwCl (wN cI cZ n0 h0 h3 h4 h5 h6 c0 c8 c9 c10 c11 c12 c13 t0 t8 t9 t10 t11 t12 t13 i0 i1 i2 i3 i4 m0 m1 m2 uH uC uT uI uM) s.heap := hP
  unfold p_X4_judge at hok
  refine lv_aload_n hx hb dX4_judge_0 rfl (lv_at hl 0 rfl) ?_
  refine va_get (D := (dC, dI)) (ci := 4) (v := .ref h0) (C := RX4) (T := TX4) (N := 5) hx hb hts inX4 hown hK hP 0 rfl rfl 0 (by decide) (hts _ qf_X4_12) (fun _ h9 => h9) rfl dX4_judge_1 ?_
  refine lv_aload_n hx hb dX4_judge_4 rfl (lv_at hl 0 rfl) ?_
  refine va_get (D := (dC, dI)) (ci := 4) (v := .ref i0) (C := RX4) (T := TX4) (N := 5) hx hb hts inX4 hown hK hP 0 rfl rfl 3 (by decide) (hts _ qf_X4_31) (fun _ h9 => h9) rfl dX4_judge_5 ?_
  refine va_get (D := (dC, dI)) (ci := 2) (v := .ref i1) (C := RX2) (T := TX2) (N := 5) hx hb hts inX2 hown hK hP 20 rfl rfl 1 (by decide) (hts _ qf_X4_183) (fun _ h9 => h9) rfl dX4_judge_8 ?_
  refine lv_iload_n hx hb dX4_judge_11 rfl (lv_at hl 2 rfl) ?_
  obtain ⟨hi1, hok⟩ := gd_some hok
  refine va_iald hx hb hK hP 21 0 rfl rfl hi1 dX4_judge_12 ?_
  refine lv_aload_n hx hb dX4_judge_13 rfl (lv_at hl 0 rfl) ?_
  refine va_get (D := (dC, dI)) (ci := 4) (v := .ref i0) (C := RX4) (T := TX4) (N := 5) hx hb hts inX4 hown hK hP 0 rfl rfl 3 (by decide) (hts _ qf_X4_31) (fun _ h9 => h9) rfl dX4_judge_14 ?_
  refine va_get (D := (dC, dI)) (ci := 2) (v := .ref i2) (C := RX2) (T := TX2) (N := 5) hx hb hts inX2 hown hK hP 20 rfl rfl 2 (by decide) (hts _ qf_X4_185) (fun _ h9 => h9) rfl dX4_judge_17 ?_
  refine lv_iload_n hx hb dX4_judge_20 rfl (lv_at hl 2 rfl) ?_
  refine va_iald hx hb hK hP 22 0 rfl rfl hi1 dX4_judge_21 ?_
  obtain ⟨v2, hc2, hok⟩ := bd_some hok
  refine cRVi (ci := 1) (q0 := 0) [.int (uI.2.1 a2.toNatClampNeg), .int (uI.2.2.1 a2.toNatClampNeg)] S hK (cP_H hP) (c_X1_topicAt l dC dI cI cZ h0 h3 h4 h5 h6 uH (uI.2.1 a2.toNatClampNeg) (uI.2.2.1 a2.toNatClampNeg) hc2) (lw_V qm_X4_164 qi_X1_topicAt qs_X1_topicAt qn_X1 qc_X1_topicAt) hd_X1_topicAt ⟨rfl, rfl⟩ ⟨Nat.le_of_ble_eq_true rfl, Nat.le_of_ble_eq_true rfl⟩ ⟨Nat.le_of_ble_eq_true rfl, Nat.le_of_ble_eq_true rfl⟩ rfl rfl rfl hl.1 (Nat.le_of_ble_eq_true rfl) rfl dX4_judge_22 ?_
  refine lv_istore_n (lv' := [(3, .int v2), (0, .ref n0), (1, .int a1), (2, .int a2)]) hx hb dX4_judge_25 rfl hl (by decide) rfl (fun ls hl => ?_)
  refine lv_aload_n hx hb dX4_judge_26 rfl (lv_at hl 1 rfl) ?_
  refine va_get (D := (dC, dI)) (ci := 4) (v := .ref m0) (C := RX4) (T := TX4) (N := 5) hx hb hts inX4 hown hK hP 0 rfl rfl 4 (by decide) (hts _ qf_X4_38) (fun _ h9 => h9) rfl dX4_judge_27 ?_
  refine lv_iload_n hx hb dX4_judge_30 rfl (lv_at hl 2 rfl) ?_
  refine lv_iload_n hx hb dX4_judge_31 rfl (lv_at hl 0 rfl) ?_
  refine lv_aload_n hx hb dX4_judge_32 rfl (lv_at hl 1 rfl) ?_
  refine va_get (D := (dC, dI)) (ci := 4) (v := .ref i0) (C := RX4) (T := TX4) (N := 5) hx hb hts inX4 hown hK hP 0 rfl rfl 3 (by decide) (hts _ qf_X4_31) (fun _ h9 => h9) rfl dX4_judge_33 ?_
  refine va_get (D := (dC, dI)) (ci := 2) (v := .ref i3) (C := RX2) (T := TX2) (N := 5) hx hb hts inX2 hown hK hP 20 rfl rfl 3 (by decide) (hts _ qf_X4_188) (fun _ h9 => h9) rfl dX4_judge_36 ?_
  refine lv_iload_n hx hb dX4_judge_39 rfl (lv_at hl 3 rfl) ?_
  refine va_iald hx hb hK hP 23 0 rfl rfl hi1 dX4_judge_40 ?_
  obtain ⟨v3, hc3, hok⟩ := bd_some hok
  refine cRVi (ci := 3) (q0 := 0) [.int a1, .int v2, .int (uI.2.2.2.1 a2.toNatClampNeg)] S hK (cP_M hP) (c_X3_judge l dC dI cI cZ m0 m1 m2 uM a1 v2 (uI.2.2.2.1 a2.toNatClampNeg) hc3) (lw_V qm_X4_370 qi_X3_judge qs_X3_judge qn_X3 qc_X3_judge) hd_X3_judge ⟨rfl, rfl⟩ ⟨Nat.le_of_ble_eq_true rfl, Nat.le_of_ble_eq_true rfl⟩ ⟨Nat.le_of_ble_eq_true rfl, Nat.le_of_ble_eq_true rfl⟩ rfl rfl rfl hl.1 (Nat.le_of_ble_eq_true rfl) rfl dX4_judge_41 ?_
  exact eRi S hr hlk (Option.some.inj hok) dX4_judge_44
theorem hd_X4_grade : yX4_grade.cls = RX4 ∧ yX4_grade.cls ≠ "java/lang/invoke/MethodHandle" ∧ yX4_grade.cls ≠ "java/lang/invoke/VarHandle" ∧ (parseMethodDescriptor yX4_grade.desc).map (fun d => d.parameters.length) = some 2 := by decide +kernel
def p_X4_grade (uH : tX1) (uC : tX0) (uT : tX0) (uI : tX2) (uM : tX3) (a1 : Int32) (a2 : Int32) : Option Int32 :=
  bd (p_X4_needMirror uH uC uT uI uM a1) (fun v1 =>
  bd (p_X4_needInstalment uH uC uT uI uM a2) (fun v2 =>
  bd (p_X4_judge uH uC uT uI uM a1 a2) (fun v3 =>
  some v3)))
set_option maxHeartbeats 4000000 in
set_option maxRecDepth 100000 in
theorem c_X4_grade (l : Launch) (dC : Nat → ClassId) (dI : Nat → Nat → Nat) (cI cZ : ClassId) (n0 h0 h3 h4 h5 h6 c0 c8 c9 c10 c11 c12 c13 t0 t8 t9 t10 t11 t12 t13 i0 i1 i2 i3 i4 m0 m1 m2 : Nat) (uH : tX1) (uC : tX0) (uT : tX0) (uI : tX2) (uM : tX3) (a1 : Int32) (a2 : Int32) {z : Int32} (hok : p_X4_grade uH uC uT uI uM a1 a2 = some z) : Met l yX4_grade (Cond.code yX4_grade cX4_grade 3 (some .int) :: lw_all) { frames := 3, cells := 0, slots := 0, locals := 68 } (prR (dC, dI) vwCl (TYS cI cZ) (wN cI cZ n0 h0 h3 h4 h5 h6 c0 c8 c9 c10 c11 c12 c13 t0 t8 t9 t10 t11 t12 t13 i0 i1 i2 i3 i4 m0 m1 m2 uH uC uT uI uM) [.ref n0, .int a1, .int a2]) (vp_Si (fun r => r = z)) 0 0 (fun _ => False) := by
  refine oM (by decide) (Nat.le_of_ble_eq_true rfl) ?_
  intro p e s m args below meth c S hr hlk hnm hB ls hl
  have hx := S.1
  have hb := S.2.1
  have hml := S.2.2.1
  have hown : s.vm.findClass RX4 = some m.cls := S.2.2.2.1
  have hts := S.2.2.2.2
  have S : CallFix p m c cX4_grade 3 s args lw_all RX4 := S
  have hl : lv_has ls 3 [(0, .ref n0), (1, .int a1), (2, .int a2)] := hl
  obtain ⟨hP, hK⟩ := hB
  have hP : va_P (dC, dI) vwCl (wN cI cZ n0 h0 h3 h4 h5 h6 c0 c8 c9 c10 c11 c12 c13 t0 t8 t9 t10 t11 t12 t13 i0 i1 i2 i3 i4 m0 m1 m2 uH uC uT uI uM) s.heap := hP
  unfold p_X4_grade at hok
  refine lv_aload_n hx hb dX4_grade_0 rfl (lv_at hl 0 rfl) ?_
  refine lv_iload_n hx hb dX4_grade_1 rfl (lv_at hl 1 rfl) ?_
  obtain ⟨v1, hc1, hok⟩ := bd_some hok
  refine cRVv (ci := 4) (q0 := 0) [.int a1] S hK hP (c_X4_needMirror l dC dI cI cZ n0 h0 h3 h4 h5 h6 c0 c8 c9 c10 c11 c12 c13 t0 t8 t9 t10 t11 t12 t13 i0 i1 i2 i3 i4 m0 m1 m2 uH uC uT uI uM a1 hc1) (lw_V qm_X4_209 qi_X4_needMirror qs_X4_needMirror qn_X4 qc_X4_needMirror) hd_X4_needMirror ⟨rfl, rfl⟩ ⟨Nat.le_of_ble_eq_true rfl, Nat.le_of_ble_eq_true rfl⟩ ⟨Nat.le_of_ble_eq_true rfl, Nat.le_of_ble_eq_true rfl⟩ rfl rfl rfl hl.1 (Nat.le_of_ble_eq_true rfl) rfl dX4_grade_2 ?_
  refine lv_aload_n hx hb dX4_grade_5 rfl (lv_at hl 0 rfl) ?_
  refine lv_iload_n hx hb dX4_grade_6 rfl (lv_at hl 2 rfl) ?_
  obtain ⟨v2, hc2, hok⟩ := bd_some hok
  refine cRVv (ci := 4) (q0 := 0) [.int a2] S hK hP (c_X4_needInstalment l dC dI cI cZ n0 h0 h3 h4 h5 h6 c0 c8 c9 c10 c11 c12 c13 t0 t8 t9 t10 t11 t12 t13 i0 i1 i2 i3 i4 m0 m1 m2 uH uC uT uI uM a2 hc2) (lw_V qm_X4_180 qi_X4_needInstalment qs_X4_needInstalment qn_X4 qc_X4_needInstalment) hd_X4_needInstalment ⟨rfl, rfl⟩ ⟨Nat.le_of_ble_eq_true rfl, Nat.le_of_ble_eq_true rfl⟩ ⟨Nat.le_of_ble_eq_true rfl, Nat.le_of_ble_eq_true rfl⟩ rfl rfl rfl hl.1 (Nat.le_of_ble_eq_true rfl) rfl dX4_grade_7 ?_
  refine lv_aload_n hx hb dX4_grade_10 rfl (lv_at hl 0 rfl) ?_
  refine lv_iload_n hx hb dX4_grade_11 rfl (lv_at hl 1 rfl) ?_
  refine lv_iload_n hx hb dX4_grade_12 rfl (lv_at hl 2 rfl) ?_
  obtain ⟨v3, hc3, hok⟩ := bd_some hok
  refine cRVi (ci := 4) (q0 := 0) [.int a1, .int a2] S hK hP (c_X4_judge l dC dI cI cZ n0 h0 h3 h4 h5 h6 c0 c8 c9 c10 c11 c12 c13 t0 t8 t9 t10 t11 t12 t13 i0 i1 i2 i3 i4 m0 m1 m2 uH uC uT uI uM a1 a2 hc3) (lw_V qm_X4_212 qi_X4_judge qs_X4_judge qn_X4 qc_X4_judge) hd_X4_judge ⟨rfl, rfl⟩ ⟨Nat.le_of_ble_eq_true rfl, Nat.le_of_ble_eq_true rfl⟩ ⟨Nat.le_of_ble_eq_true rfl, Nat.le_of_ble_eq_true rfl⟩ rfl rfl rfl hl.1 (Nat.le_of_ble_eq_true rfl) rfl dX4_grade_13 ?_
  exact eRi S hr hlk (Option.some.inj hok) dX4_grade_16
theorem hd_X4_sumOfGrades : yX4_sumOfGrades.cls = RX4 ∧ yX4_sumOfGrades.cls ≠ "java/lang/invoke/MethodHandle" ∧ yX4_sumOfGrades.cls ≠ "java/lang/invoke/VarHandle" ∧ (parseMethodDescriptor yX4_sumOfGrades.desc).map (fun d => d.parameters.length) = some 1 := by decide +kernel
def p_X4_sumOfGrades_L4 : Nat → tX1 → tX0 → tX0 → tX2 → tX3 → Int32 → Int32 → Int32 → Option Int32
  | 0, _, _, _, _, _, _, _, _ => none
  | n + 1, uH, uC, uT, uI, uM, l4_1, l4_2, l4_3 =>
    if uI.1 ≤ l4_3 then
      some l4_2
    else
      bd (p_X4_judge uH uC uT uI uM l4_1 l4_3) (fun v1 =>
      (p_X4_sumOfGrades_L4 n) uH uC uT uI uM l4_1 (l4_2 + v1) (l4_3 + 1))
def p_X4_sumOfGrades (uH : tX1) (uC : tX0) (uT : tX0) (uI : tX2) (uM : tX3) (a1 : Int32) : Option Int32 :=
  p_X4_sumOfGrades_L4 200 uH uC uT uI uM a1 (0 : Int32) (0 : Int32)
set_option maxHeartbeats 4000000 in
set_option maxRecDepth 100000 in
theorem c_X4_sumOfGrades (l : Launch) (dC : Nat → ClassId) (dI : Nat → Nat → Nat) (cI cZ : ClassId) (n0 h0 h3 h4 h5 h6 c0 c8 c9 c10 c11 c12 c13 t0 t8 t9 t10 t11 t12 t13 i0 i1 i2 i3 i4 m0 m1 m2 : Nat) (uH : tX1) (uC : tX0) (uT : tX0) (uI : tX2) (uM : tX3) (a1 : Int32) {z : Int32} (hok : p_X4_sumOfGrades uH uC uT uI uM a1 = some z) : Met l yX4_sumOfGrades (Cond.code yX4_sumOfGrades cX4_sumOfGrades 4 (some .int) :: lw_all) { frames := 3, cells := 0, slots := 0, locals := 68 } (prR (dC, dI) vwCl (TYS cI cZ) (wN cI cZ n0 h0 h3 h4 h5 h6 c0 c8 c9 c10 c11 c12 c13 t0 t8 t9 t10 t11 t12 t13 i0 i1 i2 i3 i4 m0 m1 m2 uH uC uT uI uM) [.ref n0, .int a1]) (vp_Si (fun r => r = z)) 0 0 (fun _ => False) := by
  refine oM (by decide) (Nat.le_of_ble_eq_true rfl) ?_
  intro p e s m args below meth c S hr hlk hnm hB ls hl
  have hx := S.1
  have hb := S.2.1
  have hml := S.2.2.1
  have hown : s.vm.findClass RX4 = some m.cls := S.2.2.2.1
  have hts := S.2.2.2.2
  have S : CallFix p m c cX4_sumOfGrades 4 s args lw_all RX4 := S
  have hl : lv_has ls 4 [(0, .ref n0), (1, .int a1)] := hl
  obtain ⟨hP, hK⟩ := hB
  have hP : va_P (dC, dI) vwCl (wN cI cZ n0 h0 h3 h4 h5 h6 c0 c8 c9 c10 c11 c12 c13 t0 t8 t9 t10 t11 t12 t13 i0 i1 i2 i3 i4 m0 m1 m2 uH uC uT uI uM) s.heap := hP
  have L4 : ∀ n4 : Nat, ∀ (l4_1 : Int32) (l4_2 : Int32) (l4_3 : Int32) (ls : Array Slot) (hl : lv_has ls 4 [(0, .ref n0), (1, .int l4_1), (2, .int l4_2), (3, .int l4_3)]) (hok : p_X4_sumOfGrades_L4 n4 uH uC uT uI uM l4_1 l4_2 l4_3 = some z), W p l e { frames := 3, cells := 0, slots := 0, locals := 68 } s m args below meth c s.heap [] 0 0 (MQ below (vp_Si (fun r => r = z)) args s 0 0 (fun _ => False)) (F0 m 4 ls []) := by
    intro n4
    induction n4 with
    | zero =>
      intro l4_1 l4_2 l4_3 ls hl hok
      rw [p_X4_sumOfGrades_L4] at hok
      cases hok
    | succ n4 ih4 =>
      intro l4_1 l4_2 l4_3 ls hl hok
      rw [p_X4_sumOfGrades_L4] at hok
      refine lv_iload_n hx hb dX4_sumOfGrades_4 rfl (lv_at hl 3 rfl) ?_
      refine lv_aload_n hx hb dX4_sumOfGrades_5 rfl (lv_at hl 0 rfl) ?_
      refine va_get (D := (dC, dI)) (ci := 4) (v := .ref i0) (C := RX4) (T := TX4) (N := 5) hx hb hts inX4 hown hK hP 0 rfl rfl 3 (by decide) (hts _ qf_X4_31) (fun _ h9 => h9) rfl dX4_sumOfGrades_6 ?_
      refine va_get (D := (dC, dI)) (ci := 2) (v := .int uI.1) (C := RX2) (T := TX2) (N := 5) hx hb hts inX2 hown hK hP 20 rfl rfl 0 (by decide) (hts _ qf_X4_56) (fun _ h9 => h9) rfl dX4_sumOfGrades_9 ?_
      refine lv_icmp_ge (tgt := 30) hx hb dX4_sumOfGrades_12 (by decide) (fun hc => ?_) (fun hc => ?_)
      · have hok := ip hok hc
        refine lv_iload_n hx hb dX4_sumOfGrades_30 rfl (lv_at hl 2 rfl) ?_
        exact eRi S hr hlk (Option.some.inj hok) dX4_sumOfGrades_31
      · have hok := iq hok hc
        refine lv_iload_n hx hb dX4_sumOfGrades_15 rfl (lv_at hl 2 rfl) ?_
        refine lv_aload_n hx hb dX4_sumOfGrades_16 rfl (lv_at hl 0 rfl) ?_
        refine lv_iload_n hx hb dX4_sumOfGrades_17 rfl (lv_at hl 1 rfl) ?_
        refine lv_iload_n hx hb dX4_sumOfGrades_18 rfl (lv_at hl 3 rfl) ?_
        obtain ⟨v1, hc1, hok⟩ := bd_some hok
        refine cRVi (ci := 4) (q0 := 0) [.int l4_1, .int l4_3] S hK hP (c_X4_judge l dC dI cI cZ n0 h0 h3 h4 h5 h6 c0 c8 c9 c10 c11 c12 c13 t0 t8 t9 t10 t11 t12 t13 i0 i1 i2 i3 i4 m0 m1 m2 uH uC uT uI uM l4_1 l4_3 hc1) (lw_V qm_X4_212 qi_X4_judge qs_X4_judge qn_X4 qc_X4_judge) hd_X4_judge ⟨rfl, rfl⟩ ⟨Nat.le_of_ble_eq_true rfl, Nat.le_of_ble_eq_true rfl⟩ ⟨Nat.le_of_ble_eq_true rfl, Nat.le_of_ble_eq_true rfl⟩ rfl rfl rfl hl.1 (Nat.le_of_ble_eq_true rfl) rfl dX4_sumOfGrades_19 ?_
        refine lv_iadd hx hb dX4_sumOfGrades_22 ?_
        refine lv_istore_n (lv' := [(2, .int (l4_2 + v1)), (0, .ref n0), (1, .int l4_1), (3, .int l4_3)]) hx hb dX4_sumOfGrades_23 rfl hl (by decide) rfl (fun ls hl => ?_)
        refine lv_iinc (v := (l4_3 + 1)) (lv' := [(3, .int (l4_3 + 1)), (2, .int (l4_2 + v1)), (0, .ref n0), (1, .int l4_1)]) hx hb dX4_sumOfGrades_24 hl (k := 3) rfl rfl (by decide) rfl (fun ls hl => ?_)
        refine lv_goto (tgt := 4) hx hb dX4_sumOfGrades_27 (by decide) ?_
        exact ih4 l4_1 (l4_2 + v1) (l4_3 + 1) _ (lv_sub hl [2, 3, 1, 0] rfl) hok
  unfold p_X4_sumOfGrades at hok
  refine lv_iconst (v := (0 : Int32)) hx hb dX4_sumOfGrades_0 (by decide) ?_
  refine lv_istore_n (lv' := [(2, .int (0 : Int32)), (0, .ref n0), (1, .int a1)]) hx hb dX4_sumOfGrades_1 rfl hl (by decide) rfl (fun ls hl => ?_)
  refine lv_iconst (v := (0 : Int32)) hx hb dX4_sumOfGrades_2 (by decide) ?_
  refine lv_istore_n (lv' := [(3, .int (0 : Int32)), (2, .int (0 : Int32)), (0, .ref n0), (1, .int a1)]) hx hb dX4_sumOfGrades_3 rfl hl (by decide) rfl (fun ls hl => ?_)
  exact L4 200 a1 (0 : Int32) (0 : Int32) _ (lv_sub hl [2, 3, 1, 0] rfl) hok
theorem hd_X4_gradesBy : yX4_gradesBy.cls = RX4 ∧ yX4_gradesBy.cls ≠ "java/lang/invoke/MethodHandle" ∧ yX4_gradesBy.cls ≠ "java/lang/invoke/VarHandle" ∧ (parseMethodDescriptor yX4_gradesBy.desc).map (fun d => d.parameters.length) = some 1 := by decide +kernel
def p_X4_gradesBy (uH : tX1) (uC : tX0) (uT : tX0) (uI : tX2) (uM : tX3) (a1 : Int32) : Option Int32 :=
  bd (p_X4_needMirror uH uC uT uI uM a1) (fun v1 =>
  bd (p_X4_sumOfGrades uH uC uT uI uM a1) (fun v2 =>
  some v2))
set_option maxHeartbeats 4000000 in
set_option maxRecDepth 100000 in
theorem c_X4_gradesBy (l : Launch) (dC : Nat → ClassId) (dI : Nat → Nat → Nat) (cI cZ : ClassId) (n0 h0 h3 h4 h5 h6 c0 c8 c9 c10 c11 c12 c13 t0 t8 t9 t10 t11 t12 t13 i0 i1 i2 i3 i4 m0 m1 m2 : Nat) (uH : tX1) (uC : tX0) (uT : tX0) (uI : tX2) (uM : tX3) (a1 : Int32) {z : Int32} (hok : p_X4_gradesBy uH uC uT uI uM a1 = some z) : Met l yX4_gradesBy (Cond.code yX4_gradesBy cX4_gradesBy 2 (some .int) :: lw_all) { frames := 4, cells := 0, slots := 0, locals := 91 } (prR (dC, dI) vwCl (TYS cI cZ) (wN cI cZ n0 h0 h3 h4 h5 h6 c0 c8 c9 c10 c11 c12 c13 t0 t8 t9 t10 t11 t12 t13 i0 i1 i2 i3 i4 m0 m1 m2 uH uC uT uI uM) [.ref n0, .int a1]) (vp_Si (fun r => r = z)) 0 0 (fun _ => False) := by
  refine oM (by decide) (Nat.le_of_ble_eq_true rfl) ?_
  intro p e s m args below meth c S hr hlk hnm hB ls hl
  have hx := S.1
  have hb := S.2.1
  have hml := S.2.2.1
  have hown : s.vm.findClass RX4 = some m.cls := S.2.2.2.1
  have hts := S.2.2.2.2
  have S : CallFix p m c cX4_gradesBy 2 s args lw_all RX4 := S
  have hl : lv_has ls 2 [(0, .ref n0), (1, .int a1)] := hl
  obtain ⟨hP, hK⟩ := hB
  have hP : va_P (dC, dI) vwCl (wN cI cZ n0 h0 h3 h4 h5 h6 c0 c8 c9 c10 c11 c12 c13 t0 t8 t9 t10 t11 t12 t13 i0 i1 i2 i3 i4 m0 m1 m2 uH uC uT uI uM) s.heap := hP
  unfold p_X4_gradesBy at hok
  refine lv_aload_n hx hb dX4_gradesBy_0 rfl (lv_at hl 0 rfl) ?_
  refine lv_iload_n hx hb dX4_gradesBy_1 rfl (lv_at hl 1 rfl) ?_
  obtain ⟨v1, hc1, hok⟩ := bd_some hok
  refine cRVv (ci := 4) (q0 := 0) [.int a1] S hK hP (c_X4_needMirror l dC dI cI cZ n0 h0 h3 h4 h5 h6 c0 c8 c9 c10 c11 c12 c13 t0 t8 t9 t10 t11 t12 t13 i0 i1 i2 i3 i4 m0 m1 m2 uH uC uT uI uM a1 hc1) (lw_V qm_X4_209 qi_X4_needMirror qs_X4_needMirror qn_X4 qc_X4_needMirror) hd_X4_needMirror ⟨rfl, rfl⟩ ⟨Nat.le_of_ble_eq_true rfl, Nat.le_of_ble_eq_true rfl⟩ ⟨Nat.le_of_ble_eq_true rfl, Nat.le_of_ble_eq_true rfl⟩ rfl rfl rfl hl.1 (Nat.le_of_ble_eq_true rfl) rfl dX4_gradesBy_2 ?_
  refine lv_aload_n hx hb dX4_gradesBy_5 rfl (lv_at hl 0 rfl) ?_
  refine lv_iload_n hx hb dX4_gradesBy_6 rfl (lv_at hl 1 rfl) ?_
  obtain ⟨v2, hc2, hok⟩ := bd_some hok
  refine cRVi (ci := 4) (q0 := 0) [.int a1] S hK hP (c_X4_sumOfGrades l dC dI cI cZ n0 h0 h3 h4 h5 h6 c0 c8 c9 c10 c11 c12 c13 t0 t8 t9 t10 t11 t12 t13 i0 i1 i2 i3 i4 m0 m1 m2 uH uC uT uI uM a1 hc2) (lw_V qm_X4_215 qi_X4_sumOfGrades qs_X4_sumOfGrades qn_X4 qc_X4_sumOfGrades) hd_X4_sumOfGrades ⟨rfl, rfl⟩ ⟨Nat.le_of_ble_eq_true rfl, Nat.le_of_ble_eq_true rfl⟩ ⟨Nat.le_of_ble_eq_true rfl, Nat.le_of_ble_eq_true rfl⟩ rfl rfl rfl hl.1 (Nat.le_of_ble_eq_true rfl) rfl dX4_gradesBy_7 ?_
  exact eRi S hr hlk (Option.some.inj hok) dX4_gradesBy_10
theorem hd_X4_favouriteOf : yX4_favouriteOf.cls = RX4 ∧ yX4_favouriteOf.cls ≠ "java/lang/invoke/MethodHandle" ∧ yX4_favouriteOf.cls ≠ "java/lang/invoke/VarHandle" ∧ (parseMethodDescriptor yX4_favouriteOf.desc).map (fun d => d.parameters.length) = some 1 := by decide +kernel
def p_X4_favouriteOf_L12 : Nat → tX1 → tX0 → tX0 → tX2 → tX3 → Int32 → Int32 → Int32 → Int32 → Option Int32
  | 0, _, _, _, _, _, _, _, _, _ => none
  | n + 1, uH, uC, uT, uI, uM, l12_1, l12_2, l12_3, l12_4 =>
    if uI.1 ≤ l12_4 then
      some l12_2
    else
      bd (p_X4_judge uH uC uT uI uM l12_1 l12_4) (fun v2 =>
      if v2 ≤ l12_3 then
        (p_X4_favouriteOf_L12 n) uH uC uT uI uM l12_1 l12_2 l12_3 (l12_4 + 1)
      else
        (p_X4_favouriteOf_L12 n) uH uC uT uI uM l12_1 l12_4 v2 (l12_4 + 1))
def p_X4_favouriteOf (uH : tX1) (uC : tX0) (uT : tX0) (uI : tX2) (uM : tX3) (a1 : Int32) : Option Int32 :=
  bd (p_X4_needMirror uH uC uT uI uM a1) (fun v1 =>
  p_X4_favouriteOf_L12 200 uH uC uT uI uM a1 (-1 : Int32) (-1 : Int32) (0 : Int32))
set_option maxHeartbeats 4000000 in
set_option maxRecDepth 100000 in
theorem c_X4_favouriteOf (l : Launch) (dC : Nat → ClassId) (dI : Nat → Nat → Nat) (cI cZ : ClassId) (n0 h0 h3 h4 h5 h6 c0 c8 c9 c10 c11 c12 c13 t0 t8 t9 t10 t11 t12 t13 i0 i1 i2 i3 i4 m0 m1 m2 : Nat) (uH : tX1) (uC : tX0) (uT : tX0) (uI : tX2) (uM : tX3) (a1 : Int32) {z : Int32} (hok : p_X4_favouriteOf uH uC uT uI uM a1 = some z) : Met l yX4_favouriteOf (Cond.code yX4_favouriteOf cX4_favouriteOf 6 (some .int) :: lw_all) { frames := 3, cells := 0, slots := 0, locals := 68 } (prR (dC, dI) vwCl (TYS cI cZ) (wN cI cZ n0 h0 h3 h4 h5 h6 c0 c8 c9 c10 c11 c12 c13 t0 t8 t9 t10 t11 t12 t13 i0 i1 i2 i3 i4 m0 m1 m2 uH uC uT uI uM) [.ref n0, .int a1]) (vp_Si (fun r => r = z)) 0 0 (fun _ => False) := by
  refine oM (by decide) (Nat.le_of_ble_eq_true rfl) ?_
  intro p e s m args below meth c S hr hlk hnm hB ls hl
  have hx := S.1
  have hb := S.2.1
  have hml := S.2.2.1
  have hown : s.vm.findClass RX4 = some m.cls := S.2.2.2.1
  have hts := S.2.2.2.2
  have S : CallFix p m c cX4_favouriteOf 6 s args lw_all RX4 := S
  have hl : lv_has ls 6 [(0, .ref n0), (1, .int a1)] := hl
  obtain ⟨hP, hK⟩ := hB
  have hP : va_P (dC, dI) vwCl (wN cI cZ n0 h0 h3 h4 h5 h6 c0 c8 c9 c10 c11 c12 c13 t0 t8 t9 t10 t11 t12 t13 i0 i1 i2 i3 i4 m0 m1 m2 uH uC uT uI uM) s.heap := hP
  have L12 : ∀ n12 : Nat, ∀ (l12_1 : Int32) (l12_2 : Int32) (l12_3 : Int32) (l12_4 : Int32) (ls : Array Slot) (hl : lv_has ls 6 [(0, .ref n0), (1, .int l12_1), (2, .int l12_2), (3, .int l12_3), (4, .int l12_4)]) (hok : p_X4_favouriteOf_L12 n12 uH uC uT uI uM l12_1 l12_2 l12_3 l12_4 = some z), W p l e { frames := 3, cells := 0, slots := 0, locals := 68 } s m args below meth c s.heap [] 0 0 (MQ below (vp_Si (fun r => r = z)) args s 0 0 (fun _ => False)) (F0 m 12 ls []) := by
    intro n12
    induction n12 with
    | zero =>
      intro l12_1 l12_2 l12_3 l12_4 ls hl hok
      rw [p_X4_favouriteOf_L12] at hok
      cases hok
    | succ n12 ih12 =>
      intro l12_1 l12_2 l12_3 l12_4 ls hl hok
      rw [p_X4_favouriteOf_L12] at hok
      refine lv_iload hx hb dX4_favouriteOf_12 (lv_at hl 4 rfl) ?_
      refine lv_aload_n hx hb dX4_favouriteOf_14 rfl (lv_at hl 0 rfl) ?_
      refine va_get (D := (dC, dI)) (ci := 4) (v := .ref i0) (C := RX4) (T := TX4) (N := 5) hx hb hts inX4 hown hK hP 0 rfl rfl 3 (by decide) (hts _ qf_X4_31) (fun _ h9 => h9) rfl dX4_favouriteOf_15 ?_
      refine va_get (D := (dC, dI)) (ci := 2) (v := .int uI.1) (C := RX2) (T := TX2) (N := 5) hx hb hts inX2 hown hK hP 20 rfl rfl 0 (by decide) (hts _ qf_X4_56) (fun _ h9 => h9) rfl dX4_favouriteOf_18 ?_
      refine lv_icmp_ge (tgt := 51) hx hb dX4_favouriteOf_21 (by decide) (fun hc => ?_) (fun hc => ?_)
      · have hok := ip hok hc
        refine lv_iload_n hx hb dX4_favouriteOf_51 rfl (lv_at hl 2 rfl) ?_
        exact eRi S hr hlk (Option.some.inj hok) dX4_favouriteOf_52
      · have hok := iq hok hc
        refine lv_aload_n hx hb dX4_favouriteOf_24 rfl (lv_at hl 0 rfl) ?_
        refine lv_iload_n hx hb dX4_favouriteOf_25 rfl (lv_at hl 1 rfl) ?_
        refine lv_iload hx hb dX4_favouriteOf_26 (lv_at hl 4 rfl) ?_
        obtain ⟨v2, hc2, hok⟩ := bd_some hok
        refine cRVi (ci := 4) (q0 := 0) [.int l12_1, .int l12_4] S hK hP (c_X4_judge l dC dI cI cZ n0 h0 h3 h4 h5 h6 c0 c8 c9 c10 c11 c12 c13 t0 t8 t9 t10 t11 t12 t13 i0 i1 i2 i3 i4 m0 m1 m2 uH uC uT uI uM l12_1 l12_4 hc2) (lw_V qm_X4_212 qi_X4_judge qs_X4_judge qn_X4 qc_X4_judge) hd_X4_judge ⟨rfl, rfl⟩ ⟨Nat.le_of_ble_eq_true rfl, Nat.le_of_ble_eq_true rfl⟩ ⟨Nat.le_of_ble_eq_true rfl, Nat.le_of_ble_eq_true rfl⟩ rfl rfl rfl hl.1 (Nat.le_of_ble_eq_true rfl) rfl dX4_favouriteOf_28 ?_
        refine lv_istore (lv' := [(5, .int v2), (0, .ref n0), (1, .int l12_1), (2, .int l12_2), (3, .int l12_3), (4, .int l12_4)]) hx hb dX4_favouriteOf_31 hl (by decide) rfl (fun ls hl => ?_)
        refine lv_iload hx hb dX4_favouriteOf_33 (lv_at hl 0 rfl) ?_
        refine lv_iload_n hx hb dX4_favouriteOf_35 rfl (lv_at hl 4 rfl) ?_
        refine lv_icmp_le (tgt := 45) hx hb dX4_favouriteOf_36 (by decide) (fun hc => ?_) (fun hc => ?_)
        · have hok := ip hok hc
          refine lv_iinc (v := (l12_4 + 1)) (lv' := [(4, .int (l12_4 + 1)), (5, .int v2), (0, .ref n0), (1, .int l12_1), (2, .int l12_2), (3, .int l12_3)]) hx hb dX4_favouriteOf_45 hl (k := 5) rfl rfl (by decide) rfl (fun ls hl => ?_)
          refine lv_goto (tgt := 12) hx hb dX4_favouriteOf_48 (by decide) ?_
          exact ih12 l12_1 l12_2 l12_3 (l12_4 + 1) _ (lv_sub hl [2, 3, 4, 5, 0] rfl) hok
        · have hok := iq hok hc
          refine lv_iload hx hb dX4_favouriteOf_39 (lv_at hl 0 rfl) ?_
          refine lv_istore_n (lv' := [(3, .int v2), (5, .int v2), (0, .ref n0), (1, .int l12_1), (2, .int l12_2), (4, .int l12_4)]) hx hb dX4_favouriteOf_41 rfl hl (by decide) rfl (fun ls hl => ?_)
          refine lv_iload hx hb dX4_favouriteOf_42 (lv_at hl 5 rfl) ?_
          refine lv_istore_n (lv' := [(2, .int l12_4), (3, .int v2), (5, .int v2), (0, .ref n0), (1, .int l12_1), (4, .int l12_4)]) hx hb dX4_favouriteOf_44 rfl hl (by decide) rfl (fun ls hl => ?_)
          refine lv_iinc (v := (l12_4 + 1)) (lv' := [(4, .int (l12_4 + 1)), (2, .int l12_4), (3, .int v2), (5, .int v2), (0, .ref n0), (1, .int l12_1)]) hx hb dX4_favouriteOf_45 hl (k := 5) rfl rfl (by decide) rfl (fun ls hl => ?_)
          refine lv_goto (tgt := 12) hx hb dX4_favouriteOf_48 (by decide) ?_
          exact ih12 l12_1 l12_4 v2 (l12_4 + 1) _ (lv_sub hl [4, 5, 1, 2, 0] rfl) hok
  unfold p_X4_favouriteOf at hok
  refine lv_aload_n hx hb dX4_favouriteOf_0 rfl (lv_at hl 0 rfl) ?_
  refine lv_iload_n hx hb dX4_favouriteOf_1 rfl (lv_at hl 1 rfl) ?_
  obtain ⟨v1, hc1, hok⟩ := bd_some hok
  refine cRVv (ci := 4) (q0 := 0) [.int a1] S hK hP (c_X4_needMirror l dC dI cI cZ n0 h0 h3 h4 h5 h6 c0 c8 c9 c10 c11 c12 c13 t0 t8 t9 t10 t11 t12 t13 i0 i1 i2 i3 i4 m0 m1 m2 uH uC uT uI uM a1 hc1) (lw_V qm_X4_209 qi_X4_needMirror qs_X4_needMirror qn_X4 qc_X4_needMirror) hd_X4_needMirror ⟨rfl, rfl⟩ ⟨Nat.le_of_ble_eq_true rfl, Nat.le_of_ble_eq_true rfl⟩ ⟨Nat.le_of_ble_eq_true rfl, Nat.le_of_ble_eq_true rfl⟩ rfl rfl rfl hl.1 (Nat.le_of_ble_eq_true rfl) rfl dX4_favouriteOf_2 ?_
  refine lv_iconst (v := (-1 : Int32)) hx hb dX4_favouriteOf_5 (by decide) ?_
  refine lv_istore_n (lv' := [(2, .int (-1 : Int32)), (0, .ref n0), (1, .int a1)]) hx hb dX4_favouriteOf_6 rfl hl (by decide) rfl (fun ls hl => ?_)
  refine lv_iconst (v := (-1 : Int32)) hx hb dX4_favouriteOf_7 (by decide) ?_
  refine lv_istore_n (lv' := [(3, .int (-1 : Int32)), (2, .int (-1 : Int32)), (0, .ref n0), (1, .int a1)]) hx hb dX4_favouriteOf_8 rfl hl (by decide) rfl (fun ls hl => ?_)
  refine lv_iconst (v := (0 : Int32)) hx hb dX4_favouriteOf_9 (by decide) ?_
  refine lv_istore (lv' := [(4, .int (0 : Int32)), (3, .int (-1 : Int32)), (2, .int (-1 : Int32)), (0, .ref n0), (1, .int a1)]) hx hb dX4_favouriteOf_10 hl (by decide) rfl (fun ls hl => ?_)
  exact L12 200 a1 (-1 : Int32) (-1 : Int32) (0 : Int32) _ (lv_sub hl [3, 4, 2, 1, 0] rfl) hok
theorem hd_X4_kindest : yX4_kindest.cls = RX4 ∧ yX4_kindest.cls ≠ "java/lang/invoke/MethodHandle" ∧ yX4_kindest.cls ≠ "java/lang/invoke/VarHandle" ∧ (parseMethodDescriptor yX4_kindest.desc).map (fun d => d.parameters.length) = some 0 := by decide +kernel
def p_X4_kindest_L6 : Nat → tX1 → tX0 → tX0 → tX2 → tX3 → Int32 → Int32 → Int32 → Option Int32
  | 0, _, _, _, _, _, _, _, _ => none
  | n + 1, uH, uC, uT, uI, uM, l6_1, l6_2, l6_3 =>
    if uM.1 ≤ l6_3 then
      some l6_1
    else
      bd (p_X4_sumOfGrades uH uC uT uI uM l6_3) (fun v1 =>
      if v1 ≤ l6_2 then
        (p_X4_kindest_L6 n) uH uC uT uI uM l6_1 l6_2 (l6_3 + 1)
      else
        (p_X4_kindest_L6 n) uH uC uT uI uM l6_3 v1 (l6_3 + 1))
def p_X4_kindest (uH : tX1) (uC : tX0) (uT : tX0) (uI : tX2) (uM : tX3) : Option Int32 :=
  p_X4_kindest_L6 200 uH uC uT uI uM (-1 : Int32) (-1 : Int32) (0 : Int32)
set_option maxHeartbeats 4000000 in
set_option maxRecDepth 100000 in
theorem c_X4_kindest (l : Launch) (dC : Nat → ClassId) (dI : Nat → Nat → Nat) (cI cZ : ClassId) (n0 h0 h3 h4 h5 h6 c0 c8 c9 c10 c11 c12 c13 t0 t8 t9 t10 t11 t12 t13 i0 i1 i2 i3 i4 m0 m1 m2 : Nat) (uH : tX1) (uC : tX0) (uT : tX0) (uI : tX2) (uM : tX3) {z : Int32} (hok : p_X4_kindest uH uC uT uI uM = some z) : Met l yX4_kindest (Cond.code yX4_kindest cX4_kindest 5 (some .int) :: lw_all) { frames := 4, cells := 0, slots := 0, locals := 91 } (prR (dC, dI) vwCl (TYS cI cZ) (wN cI cZ n0 h0 h3 h4 h5 h6 c0 c8 c9 c10 c11 c12 c13 t0 t8 t9 t10 t11 t12 t13 i0 i1 i2 i3 i4 m0 m1 m2 uH uC uT uI uM) [.ref n0]) (vp_Si (fun r => r = z)) 0 0 (fun _ => False) := by
  refine oM (by decide) (Nat.le_of_ble_eq_true rfl) ?_
  intro p e s m args below meth c S hr hlk hnm hB ls hl
  have hx := S.1
  have hb := S.2.1
  have hml := S.2.2.1
  have hown : s.vm.findClass RX4 = some m.cls := S.2.2.2.1
  have hts := S.2.2.2.2
  have S : CallFix p m c cX4_kindest 5 s args lw_all RX4 := S
  have hl : lv_has ls 5 [(0, .ref n0)] := hl
  obtain ⟨hP, hK⟩ := hB
  have hP : va_P (dC, dI) vwCl (wN cI cZ n0 h0 h3 h4 h5 h6 c0 c8 c9 c10 c11 c12 c13 t0 t8 t9 t10 t11 t12 t13 i0 i1 i2 i3 i4 m0 m1 m2 uH uC uT uI uM) s.heap := hP
  have L6 : ∀ n6 : Nat, ∀ (l6_1 : Int32) (l6_2 : Int32) (l6_3 : Int32) (ls : Array Slot) (hl : lv_has ls 5 [(0, .ref n0), (1, .int l6_1), (2, .int l6_2), (3, .int l6_3)]) (hok : p_X4_kindest_L6 n6 uH uC uT uI uM l6_1 l6_2 l6_3 = some z), W p l e { frames := 4, cells := 0, slots := 0, locals := 91 } s m args below meth c s.heap [] 0 0 (MQ below (vp_Si (fun r => r = z)) args s 0 0 (fun _ => False)) (F0 m 6 ls []) := by
    intro n6
    induction n6 with
    | zero =>
      intro l6_1 l6_2 l6_3 ls hl hok
      rw [p_X4_kindest_L6] at hok
      cases hok
    | succ n6 ih6 =>
      intro l6_1 l6_2 l6_3 ls hl hok
      rw [p_X4_kindest_L6] at hok
      refine lv_iload_n hx hb dX4_kindest_6 rfl (lv_at hl 3 rfl) ?_
      refine lv_aload_n hx hb dX4_kindest_7 rfl (lv_at hl 0 rfl) ?_
      refine va_get (D := (dC, dI)) (ci := 4) (v := .ref m0) (C := RX4) (T := TX4) (N := 5) hx hb hts inX4 hown hK hP 0 rfl rfl 4 (by decide) (hts _ qf_X4_38) (fun _ h9 => h9) rfl dX4_kindest_8 ?_
      refine va_get (D := (dC, dI)) (ci := 3) (v := .int uM.1) (C := RX3) (T := TX3) (N := 3) hx hb hts inX3 hown hK hP 25 rfl rfl 0 (by decide) (hts _ qf_X4_116) (fun _ h9 => h9) rfl dX4_kindest_11 ?_
      refine lv_icmp_ge (tgt := 41) hx hb dX4_kindest_14 (by decide) (fun hc => ?_) (fun hc => ?_)
      · have hok := ip hok hc
        refine lv_iload_n hx hb dX4_kindest_41 rfl (lv_at hl 1 rfl) ?_
        exact eRi S hr hlk (Option.some.inj hok) dX4_kindest_42
      · have hok := iq hok hc
        refine lv_aload_n hx hb dX4_kindest_17 rfl (lv_at hl 0 rfl) ?_
        refine lv_iload_n hx hb dX4_kindest_18 rfl (lv_at hl 3 rfl) ?_
        obtain ⟨v1, hc1, hok⟩ := bd_some hok
        refine cRVi (ci := 4) (q0 := 0) [.int l6_3] S hK hP (c_X4_sumOfGrades l dC dI cI cZ n0 h0 h3 h4 h5 h6 c0 c8 c9 c10 c11 c12 c13 t0 t8 t9 t10 t11 t12 t13 i0 i1 i2 i3 i4 m0 m1 m2 uH uC uT uI uM l6_3 hc1) (lw_V qm_X4_215 qi_X4_sumOfGrades qs_X4_sumOfGrades qn_X4 qc_X4_sumOfGrades) hd_X4_sumOfGrades ⟨rfl, rfl⟩ ⟨Nat.le_of_ble_eq_true rfl, Nat.le_of_ble_eq_true rfl⟩ ⟨Nat.le_of_ble_eq_true rfl, Nat.le_of_ble_eq_true rfl⟩ rfl rfl rfl hl.1 (Nat.le_of_ble_eq_true rfl) rfl dX4_kindest_19 ?_
        refine lv_istore (lv' := [(4, .int v1), (0, .ref n0), (1, .int l6_1), (2, .int l6_2), (3, .int l6_3)]) hx hb dX4_kindest_22 hl (by decide) rfl (fun ls hl => ?_)
        refine lv_iload hx hb dX4_kindest_24 (lv_at hl 0 rfl) ?_
        refine lv_iload_n hx hb dX4_kindest_26 rfl (lv_at hl 3 rfl) ?_
        refine lv_icmp_le (tgt := 35) hx hb dX4_kindest_27 (by decide) (fun hc => ?_) (fun hc => ?_)
        · have hok := ip hok hc
          refine lv_iinc (v := (l6_3 + 1)) (lv' := [(3, .int (l6_3 + 1)), (4, .int v1), (0, .ref n0), (1, .int l6_1), (2, .int l6_2)]) hx hb dX4_kindest_35 hl (k := 4) rfl rfl (by decide) rfl (fun ls hl => ?_)
          refine lv_goto (tgt := 6) hx hb dX4_kindest_38 (by decide) ?_
          exact ih6 l6_1 l6_2 (l6_3 + 1) _ (lv_sub hl [2, 3, 4, 0] rfl) hok
        · have hok := iq hok hc
          refine lv_iload hx hb dX4_kindest_30 (lv_at hl 0 rfl) ?_
          refine lv_istore_n (lv' := [(2, .int v1), (4, .int v1), (0, .ref n0), (1, .int l6_1), (3, .int l6_3)]) hx hb dX4_kindest_32 rfl hl (by decide) rfl (fun ls hl => ?_)
          refine lv_iload_n hx hb dX4_kindest_33 rfl (lv_at hl 4 rfl) ?_
          refine lv_istore_n (lv' := [(1, .int l6_3), (2, .int v1), (4, .int v1), (0, .ref n0), (3, .int l6_3)]) hx hb dX4_kindest_34 rfl hl (by decide) rfl (fun ls hl => ?_)
          refine lv_iinc (v := (l6_3 + 1)) (lv' := [(3, .int (l6_3 + 1)), (1, .int l6_3), (2, .int v1), (4, .int v1), (0, .ref n0)]) hx hb dX4_kindest_35 hl (k := 4) rfl rfl (by decide) rfl (fun ls hl => ?_)
          refine lv_goto (tgt := 6) hx hb dX4_kindest_38 (by decide) ?_
          exact ih6 l6_3 v1 (l6_3 + 1) _ (lv_sub hl [4, 1, 2, 0] rfl) hok
  unfold p_X4_kindest at hok
  refine lv_iconst (v := (-1 : Int32)) hx hb dX4_kindest_0 (by decide) ?_
  refine lv_istore_n (lv' := [(1, .int (-1 : Int32)), (0, .ref n0)]) hx hb dX4_kindest_1 rfl hl (by decide) rfl (fun ls hl => ?_)
  refine lv_iconst (v := (-1 : Int32)) hx hb dX4_kindest_2 (by decide) ?_
  refine lv_istore_n (lv' := [(2, .int (-1 : Int32)), (1, .int (-1 : Int32)), (0, .ref n0)]) hx hb dX4_kindest_3 rfl hl (by decide) rfl (fun ls hl => ?_)
  refine lv_iconst (v := (0 : Int32)) hx hb dX4_kindest_4 (by decide) ?_
  refine lv_istore_n (lv' := [(3, .int (0 : Int32)), (2, .int (-1 : Int32)), (1, .int (-1 : Int32)), (0, .ref n0)]) hx hb dX4_kindest_5 rfl hl (by decide) rfl (fun ls hl => ?_)
  exact L6 200 (-1 : Int32) (-1 : Int32) (0 : Int32) _ (lv_sub hl [3, 2, 1, 0] rfl) hok
theorem hd_X4_meanWarmth : yX4_meanWarmth.cls = RX4 ∧ yX4_meanWarmth.cls ≠ "java/lang/invoke/MethodHandle" ∧ yX4_meanWarmth.cls ≠ "java/lang/invoke/VarHandle" ∧ (parseMethodDescriptor yX4_meanWarmth.desc).map (fun d => d.parameters.length) = some 0 := by decide +kernel
def p_X4_meanWarmth (uH : tX1) (uC : tX0) (uT : tX0) (uI : tX2) (uM : tX3) : Option UInt64 :=
  bd (p_X0_countSubscribers uC uH) (fun v1 =>
  if v1 = 0 then
    some FP.dconst0
  else
    bd (p_X0_sumOfWarmths uC uH) (fun v2 =>
    gq ((FP.ddiv (FP.i2d v2) (FP.i2d v1)) &&& 0x7fffffffffffffff ≤ 0x7ff0000000000000) (
    some (FP.ddiv (FP.i2d v2) (FP.i2d v1)))))
set_option maxHeartbeats 4000000 in
set_option maxRecDepth 100000 in
theorem c_X4_meanWarmth (l : Launch) (dC : Nat → ClassId) (dI : Nat → Nat → Nat) (cI cZ : ClassId) (n0 h0 h3 h4 h5 h6 c0 c8 c9 c10 c11 c12 c13 t0 t8 t9 t10 t11 t12 t13 i0 i1 i2 i3 i4 m0 m1 m2 : Nat) (uH : tX1) (uC : tX0) (uT : tX0) (uI : tX2) (uM : tX3) {z : UInt64} (hok : p_X4_meanWarmth uH uC uT uI uM = some z) : Met l yX4_meanWarmth (Cond.code yX4_meanWarmth cX4_meanWarmth 2 (some .double) :: lw_all) { frames := 1, cells := 0, slots := 0, locals := 22 } (prR (dC, dI) vwCl (TYS cI cZ) (wN cI cZ n0 h0 h3 h4 h5 h6 c0 c8 c9 c10 c11 c12 c13 t0 t8 t9 t10 t11 t12 t13 i0 i1 i2 i3 i4 m0 m1 m2 uH uC uT uI uM) [.ref n0]) (vp_Sd (fun r => r = z)) 0 0 (fun _ => False) := by
  refine oM (by decide) (Nat.le_of_ble_eq_true rfl) ?_
  intro p e s m args below meth c S hr hlk hnm hB ls hl
  have hx := S.1
  have hb := S.2.1
  have hml := S.2.2.1
  have hown : s.vm.findClass RX4 = some m.cls := S.2.2.2.1
  have hts := S.2.2.2.2
  have S : CallFix p m c cX4_meanWarmth 2 s args lw_all RX4 := S
  have hl : lv_has ls 2 [(0, .ref n0)] := hl
  obtain ⟨hP, hK⟩ := hB
  have hP : va_P (dC, dI) vwCl (wN cI cZ n0 h0 h3 h4 h5 h6 c0 c8 c9 c10 c11 c12 c13 t0 t8 t9 t10 t11 t12 t13 i0 i1 i2 i3 i4 m0 m1 m2 uH uC uT uI uM) s.heap := hP
  unfold p_X4_meanWarmth at hok
  refine lv_aload_n hx hb dX4_meanWarmth_0 rfl (lv_at hl 0 rfl) ?_
  refine va_get (D := (dC, dI)) (ci := 4) (v := .ref c0) (C := RX4) (T := TX4) (N := 5) hx hb hts inX4 hown hK hP 0 rfl rfl 1 (by decide) (hts _ qf_X4_21) (fun _ h9 => h9) rfl dX4_meanWarmth_1 ?_
  obtain ⟨v1, hc1, hok⟩ := bd_some hok
  refine cRVi (ci := 0) (q0 := 0) [] S hK (cP_CH hP) (c_X0_countSubscribers l dC dI cI cZ c0 c8 c9 c10 c11 c12 c13 h0 h3 h4 h5 h6 uC uH hc1) (lw_V qm_X4_60 qi_X0_countSubscribers qs_X0_countSubscribers qn_X0 qc_X0_countSubscribers) hd_X0_countSubscribers ⟨rfl, rfl⟩ ⟨Nat.le_of_ble_eq_true rfl, Nat.le_of_ble_eq_true rfl⟩ ⟨Nat.le_of_ble_eq_true rfl, Nat.le_of_ble_eq_true rfl⟩ rfl rfl rfl hl.1 (Nat.le_of_ble_eq_true rfl) rfl dX4_meanWarmth_4 ?_
  refine lv_istore_n (lv' := [(1, .int v1), (0, .ref n0)]) hx hb dX4_meanWarmth_7 rfl hl (by decide) rfl (fun ls hl => ?_)
  refine lv_iload_n hx hb dX4_meanWarmth_8 rfl (lv_at hl 0 rfl) ?_
  refine lv_if_ne (tgt := 16) hx hb dX4_meanWarmth_9 (by decide) (fun hc => ?_) (fun hc => ?_)
  · have hok := iq hok hc
    refine lv_aload_n hx hb dX4_meanWarmth_16 rfl (lv_at hl 1 rfl) ?_
    refine va_get (D := (dC, dI)) (ci := 4) (v := .ref c0) (C := RX4) (T := TX4) (N := 5) hx hb hts inX4 hown hK hP 0 rfl rfl 1 (by decide) (hts _ qf_X4_21) (fun _ h9 => h9) rfl dX4_meanWarmth_17 ?_
    obtain ⟨v2, hc2, hok⟩ := bd_some hok
    refine cRVi (ci := 0) (q0 := 0) [] S hK (cP_CH hP) (c_X0_sumOfWarmths l dC dI cI cZ c0 c8 c9 c10 c11 c12 c13 h0 h3 h4 h5 h6 uC uH hc2) (lw_V qm_X4_228 qi_X0_sumOfWarmths qs_X0_sumOfWarmths qn_X0 qc_X0_sumOfWarmths) hd_X0_sumOfWarmths ⟨rfl, rfl⟩ ⟨Nat.le_of_ble_eq_true rfl, Nat.le_of_ble_eq_true rfl⟩ ⟨Nat.le_of_ble_eq_true rfl, Nat.le_of_ble_eq_true rfl⟩ rfl rfl rfl hl.1 (Nat.le_of_ble_eq_true rfl) rfl dX4_meanWarmth_20 ?_
    refine lv_i2d hx hb dX4_meanWarmth_23 ?_
    refine lv_iload_n hx hb dX4_meanWarmth_24 rfl (lv_at hl 0 rfl) ?_
    refine lv_i2d hx hb dX4_meanWarmth_25 ?_
    obtain ⟨hn3, hok⟩ := gq_some hok
    refine lv_ddiv hx hb dX4_meanWarmth_26 hn3 ?_
    exact eRd S hr hlk (Option.some.inj hok) dX4_meanWarmth_27
  · have hok := ip hok hc
    refine lv_dconst0 hx hb dX4_meanWarmth_12 ?_
    refine lv_goto (tgt := 27) hx hb dX4_meanWarmth_13 (by decide) ?_
    exact eRd S hr hlk (Option.some.inj hok) dX4_meanWarmth_27
