theorem hd_X4_needParagraph : yX4_needParagraph.cls = RX4 ∧ yX4_needParagraph.cls ≠ "java/lang/invoke/MethodHandle" ∧ yX4_needParagraph.cls ≠ "java/lang/invoke/VarHandle" ∧ (parseMethodDescriptor yX4_needParagraph.desc).map (fun d => d.parameters.length) = some 2 := by decide +kernel
def p_X4_needParagraph (uH : tX1) (uC : tX0) (uT : tX0) (uI : tX2) (uM : tX3) (a1 : Int32) (a2 : Int32) : Option (Unit) :=
  bd (p_X4_needFloor uH uC uT uI uM a1) (fun v1 =>
  if a2 < 0 then
    none
  else
    gd a1 12 (
    if a2 < (uH.2.2.2.1 a1.toNatClampNeg) then
      some ()
    else
      none))
set_option maxHeartbeats 4000000 in
set_option maxRecDepth 100000 in
theorem c_X4_needParagraph (l : Launch) (dC : Nat → ClassId) (dI : Nat → Nat → Nat) (cI cZ : ClassId) (n0 h0 h3 h4 h5 h6 c0 c8 c9 c10 c11 c12 c13 t0 t8 t9 t10 t11 t12 t13 i0 i1 i2 i3 i4 m0 m1 m2 : Nat) (uH : tX1) (uC : tX0) (uT : tX0) (uI : tX2) (uM : tX3) (a1 : Int32) (a2 : Int32) {z : (Unit)} (hok : p_X4_needParagraph uH uC uT uI uM a1 a2 = some z) : Met l yX4_needParagraph (Cond.code yX4_needParagraph cX4_needParagraph 3 none :: lw_all) { frames := 1, cells := 0, slots := 0, locals := 21 } (prR (dC, dI) vwCl (TYS cI cZ) (wN cI cZ n0 h0 h3 h4 h5 h6 c0 c8 c9 c10 c11 c12 c13 t0 t8 t9 t10 t11 t12 t13 i0 i1 i2 i3 i4 m0 m1 m2 uH uC uT uI uM) [.ref n0, .int a1, .int a2]) (va_Sv (fun _ : Unit => True)) 0 0 (fun _ => False) := by
  refine oM (by decide) (Nat.le_of_ble_eq_true rfl) ?_
  intro p e s m args below meth c S hr hlk hnm hB ls hl
  have hx := S.1
  have hb := S.2.1
  have hml := S.2.2.1
  have hown : s.vm.findClass RX4 = some m.cls := S.2.2.2.1
  have hts := S.2.2.2.2
  have S : CallFix p m c cX4_needParagraph 3 s args lw_all RX4 := S
  have hl : lv_has ls 3 [(0, .ref n0), (1, .int a1), (2, .int a2)] := hl
  obtain ⟨hP, hK⟩ := hB
  have hP : va_P (dC, dI) vwCl (wN cI cZ n0 h0 h3 h4 h5 h6 c0 c8 c9 c10 c11 c12 c13 t0 t8 t9 t10 t11 t12 t13 i0 i1 i2 i3 i4 m0 m1 m2 uH uC uT uI uM) s.heap := hP
  unfold p_X4_needParagraph at hok
  refine lv_aload_n hx hb dX4_needParagraph_0 rfl (lv_at hl 0 rfl) ?_
  refine lv_iload_n hx hb dX4_needParagraph_1 rfl (lv_at hl 1 rfl) ?_
  obtain ⟨v1, hc1, hok⟩ := bd_some hok
  refine cRVv (ci := 4) (q0 := 0) [.int a1] S hK hP (c_X4_needFloor l dC dI cI cZ n0 h0 h3 h4 h5 h6 c0 c8 c9 c10 c11 c12 c13 t0 t8 t9 t10 t11 t12 t13 i0 i1 i2 i3 i4 m0 m1 m2 uH uC uT uI uM a1 hc1) (lw_V qm_X4_64 qi_X4_needFloor qs_X4_needFloor qn_X4 qc_X4_needFloor) hd_X4_needFloor ⟨rfl, rfl⟩ ⟨Nat.le_of_ble_eq_true rfl, Nat.le_of_ble_eq_true rfl⟩ ⟨Nat.le_of_ble_eq_true rfl, Nat.le_of_ble_eq_true rfl⟩ rfl rfl rfl hl.1 (Nat.le_of_ble_eq_true rfl) rfl dX4_needParagraph_2 ?_
  refine lv_iload_n hx hb dX4_needParagraph_5 rfl (lv_at hl 2 rfl) ?_
  refine lv_if_lt (tgt := 22) hx hb dX4_needParagraph_6 (by decide) (fun hc => ?_) (fun hc => ?_)
  · have hok := ip hok hc
    cases hok
  · have hok := iq hok hc
    refine lv_iload_n hx hb dX4_needParagraph_9 rfl (lv_at hl 2 rfl) ?_
    refine lv_aload_n hx hb dX4_needParagraph_10 rfl (lv_at hl 0 rfl) ?_
    refine va_get (D := (dC, dI)) (ci := 4) (v := .ref h0) (C := RX4) (T := TX4) (N := 5) hx hb hts inX4 hown hK hP 0 rfl rfl 0 (by decide) (hts _ qf_X4_12) (fun _ h9 => h9) rfl dX4_needParagraph_11 ?_
    refine va_get (D := (dC, dI)) (ci := 1) (v := .ref h3) (C := RX1) (T := TX1) (N := 7) hx hb hts inX1 hown hK hP 1 rfl rfl 3 (by decide) (hts _ qf_X4_73) (fun _ h9 => h9) rfl dX4_needParagraph_14 ?_
    refine lv_iload_n hx hb dX4_needParagraph_17 rfl (lv_at hl 1 rfl) ?_
    obtain ⟨hi2, hok⟩ := gd_some hok
    refine va_iald hx hb hK hP 2 0 rfl rfl hi2 dX4_needParagraph_18 ?_
    refine lv_icmp_lt (tgt := 33) hx hb dX4_needParagraph_19 (by decide) (fun hc => ?_) (fun hc => ?_)
    · have hok := ip hok hc
      exact eRv S hr hlk dX4_needParagraph_33
    · have hok := iq hok hc
      cases hok
theorem hd_X4_topicOf : yX4_topicOf.cls = RX4 ∧ yX4_topicOf.cls ≠ "java/lang/invoke/MethodHandle" ∧ yX4_topicOf.cls ≠ "java/lang/invoke/VarHandle" ∧ (parseMethodDescriptor yX4_topicOf.desc).map (fun d => d.parameters.length) = some 2 := by decide +kernel
def p_X4_topicOf (uH : tX1) (uC : tX0) (uT : tX0) (uI : tX2) (uM : tX3) (a1 : Int32) (a2 : Int32) : Option Int32 :=
  bd (p_X4_needParagraph uH uC uT uI uM a1 a2) (fun v1 =>
  bd (p_X1_topicAt uH a1 a2) (fun v2 =>
  some v2))
set_option maxHeartbeats 4000000 in
set_option maxRecDepth 100000 in
theorem c_X4_topicOf (l : Launch) (dC : Nat → ClassId) (dI : Nat → Nat → Nat) (cI cZ : ClassId) (n0 h0 h3 h4 h5 h6 c0 c8 c9 c10 c11 c12 c13 t0 t8 t9 t10 t11 t12 t13 i0 i1 i2 i3 i4 m0 m1 m2 : Nat) (uH : tX1) (uC : tX0) (uT : tX0) (uI : tX2) (uM : tX3) (a1 : Int32) (a2 : Int32) {z : Int32} (hok : p_X4_topicOf uH uC uT uI uM a1 a2 = some z) : Met l yX4_topicOf (Cond.code yX4_topicOf cX4_topicOf 3 (some .int) :: lw_all) { frames := 2, cells := 0, slots := 0, locals := 43 } (prR (dC, dI) vwCl (TYS cI cZ) (wN cI cZ n0 h0 h3 h4 h5 h6 c0 c8 c9 c10 c11 c12 c13 t0 t8 t9 t10 t11 t12 t13 i0 i1 i2 i3 i4 m0 m1 m2 uH uC uT uI uM) [.ref n0, .int a1, .int a2]) (vp_Si (fun r => r = z)) 0 0 (fun _ => False) := by
  refine oM (by decide) (Nat.le_of_ble_eq_true rfl) ?_
  intro p e s m args below meth c S hr hlk hnm hB ls hl
  have hx := S.1
  have hb := S.2.1
  have hml := S.2.2.1
  have hown : s.vm.findClass RX4 = some m.cls := S.2.2.2.1
  have hts := S.2.2.2.2
  have S : CallFix p m c cX4_topicOf 3 s args lw_all RX4 := S
  have hl : lv_has ls 3 [(0, .ref n0), (1, .int a1), (2, .int a2)] := hl
  obtain ⟨hP, hK⟩ := hB
  have hP : va_P (dC, dI) vwCl (wN cI cZ n0 h0 h3 h4 h5 h6 c0 c8 c9 c10 c11 c12 c13 t0 t8 t9 t10 t11 t12 t13 i0 i1 i2 i3 i4 m0 m1 m2 uH uC uT uI uM) s.heap := hP
  unfold p_X4_topicOf at hok
  refine lv_aload_n hx hb dX4_topicOf_0 rfl (lv_at hl 0 rfl) ?_
  refine lv_iload_n hx hb dX4_topicOf_1 rfl (lv_at hl 1 rfl) ?_
  refine lv_iload_n hx hb dX4_topicOf_2 rfl (lv_at hl 2 rfl) ?_
  obtain ⟨v1, hc1, hok⟩ := bd_some hok
  refine cRVv (ci := 4) (q0 := 0) [.int a1, .int a2] S hK hP (c_X4_needParagraph l dC dI cI cZ n0 h0 h3 h4 h5 h6 c0 c8 c9 c10 c11 c12 c13 t0 t8 t9 t10 t11 t12 t13 i0 i1 i2 i3 i4 m0 m1 m2 uH uC uT uI uM a1 a2 hc1) (lw_V qm_X4_160 qi_X4_needParagraph qs_X4_needParagraph qn_X4 qc_X4_needParagraph) hd_X4_needParagraph ⟨rfl, rfl⟩ ⟨Nat.le_of_ble_eq_true rfl, Nat.le_of_ble_eq_true rfl⟩ ⟨Nat.le_of_ble_eq_true rfl, Nat.le_of_ble_eq_true rfl⟩ rfl rfl rfl hl.1 (Nat.le_of_ble_eq_true rfl) rfl dX4_topicOf_3 ?_
  refine lv_aload_n hx hb dX4_topicOf_6 rfl (lv_at hl 0 rfl) ?_
  refine va_get (D := (dC, dI)) (ci := 4) (v := .ref h0) (C := RX4) (T := TX4) (N := 5) hx hb hts inX4 hown hK hP 0 rfl rfl 0 (by decide) (hts _ qf_X4_12) (fun _ h9 => h9) rfl dX4_topicOf_7 ?_
  refine lv_iload_n hx hb dX4_topicOf_10 rfl (lv_at hl 1 rfl) ?_
  refine lv_iload_n hx hb dX4_topicOf_11 rfl (lv_at hl 2 rfl) ?_
  obtain ⟨v2, hc2, hok⟩ := bd_some hok
  refine cRVi (ci := 1) (q0 := 0) [.int a1, .int a2] S hK (cP_H hP) (c_X1_topicAt l dC dI cI cZ h0 h3 h4 h5 h6 uH a1 a2 hc2) (lw_V qm_X4_164 qi_X1_topicAt qs_X1_topicAt qn_X1 qc_X1_topicAt) hd_X1_topicAt ⟨rfl, rfl⟩ ⟨Nat.le_of_ble_eq_true rfl, Nat.le_of_ble_eq_true rfl⟩ ⟨Nat.le_of_ble_eq_true rfl, Nat.le_of_ble_eq_true rfl⟩ rfl rfl rfl hl.1 (Nat.le_of_ble_eq_true rfl) rfl dX4_topicOf_12 ?_
  exact eRi S hr hlk (Option.some.inj hok) dX4_topicOf_15
theorem hd_X4_thrillOf : yX4_thrillOf.cls = RX4 ∧ yX4_thrillOf.cls ≠ "java/lang/invoke/MethodHandle" ∧ yX4_thrillOf.cls ≠ "java/lang/invoke/VarHandle" ∧ (parseMethodDescriptor yX4_thrillOf.desc).map (fun d => d.parameters.length) = some 2 := by decide +kernel
def p_X4_thrillOf (uH : tX1) (uC : tX0) (uT : tX0) (uI : tX2) (uM : tX3) (a1 : Int32) (a2 : Int32) : Option Int32 :=
  bd (p_X4_needParagraph uH uC uT uI uM a1 a2) (fun v1 =>
  bd (p_X1_thrillAt uH a1 a2) (fun v2 =>
  some v2))
set_option maxHeartbeats 4000000 in
set_option maxRecDepth 100000 in
theorem c_X4_thrillOf (l : Launch) (dC : Nat → ClassId) (dI : Nat → Nat → Nat) (cI cZ : ClassId) (n0 h0 h3 h4 h5 h6 c0 c8 c9 c10 c11 c12 c13 t0 t8 t9 t10 t11 t12 t13 i0 i1 i2 i3 i4 m0 m1 m2 : Nat) (uH : tX1) (uC : tX0) (uT : tX0) (uI : tX2) (uM : tX3) (a1 : Int32) (a2 : Int32) {z : Int32} (hok : p_X4_thrillOf uH uC uT uI uM a1 a2 = some z) : Met l yX4_thrillOf (Cond.code yX4_thrillOf cX4_thrillOf 3 (some .int) :: lw_all) { frames := 2, cells := 0, slots := 0, locals := 43 } (prR (dC, dI) vwCl (TYS cI cZ) (wN cI cZ n0 h0 h3 h4 h5 h6 c0 c8 c9 c10 c11 c12 c13 t0 t8 t9 t10 t11 t12 t13 i0 i1 i2 i3 i4 m0 m1 m2 uH uC uT uI uM) [.ref n0, .int a1, .int a2]) (vp_Si (fun r => r = z)) 0 0 (fun _ => False) := by
  refine oM (by decide) (Nat.le_of_ble_eq_true rfl) ?_
  intro p e s m args below meth c S hr hlk hnm hB ls hl
  have hx := S.1
  have hb := S.2.1
  have hml := S.2.2.1
  have hown : s.vm.findClass RX4 = some m.cls := S.2.2.2.1
  have hts := S.2.2.2.2
  have S : CallFix p m c cX4_thrillOf 3 s args lw_all RX4 := S
  have hl : lv_has ls 3 [(0, .ref n0), (1, .int a1), (2, .int a2)] := hl
  obtain ⟨hP, hK⟩ := hB
  have hP : va_P (dC, dI) vwCl (wN cI cZ n0 h0 h3 h4 h5 h6 c0 c8 c9 c10 c11 c12 c13 t0 t8 t9 t10 t11 t12 t13 i0 i1 i2 i3 i4 m0 m1 m2 uH uC uT uI uM) s.heap := hP
  unfold p_X4_thrillOf at hok
  refine lv_aload_n hx hb dX4_thrillOf_0 rfl (lv_at hl 0 rfl) ?_
  refine lv_iload_n hx hb dX4_thrillOf_1 rfl (lv_at hl 1 rfl) ?_
  refine lv_iload_n hx hb dX4_thrillOf_2 rfl (lv_at hl 2 rfl) ?_
  obtain ⟨v1, hc1, hok⟩ := bd_some hok
  refine cRVv (ci := 4) (q0 := 0) [.int a1, .int a2] S hK hP (c_X4_needParagraph l dC dI cI cZ n0 h0 h3 h4 h5 h6 c0 c8 c9 c10 c11 c12 c13 t0 t8 t9 t10 t11 t12 t13 i0 i1 i2 i3 i4 m0 m1 m2 uH uC uT uI uM a1 a2 hc1) (lw_V qm_X4_160 qi_X4_needParagraph qs_X4_needParagraph qn_X4 qc_X4_needParagraph) hd_X4_needParagraph ⟨rfl, rfl⟩ ⟨Nat.le_of_ble_eq_true rfl, Nat.le_of_ble_eq_true rfl⟩ ⟨Nat.le_of_ble_eq_true rfl, Nat.le_of_ble_eq_true rfl⟩ rfl rfl rfl hl.1 (Nat.le_of_ble_eq_true rfl) rfl dX4_thrillOf_3 ?_
  refine lv_aload_n hx hb dX4_thrillOf_6 rfl (lv_at hl 0 rfl) ?_
  refine va_get (D := (dC, dI)) (ci := 4) (v := .ref h0) (C := RX4) (T := TX4) (N := 5) hx hb hts inX4 hown hK hP 0 rfl rfl 0 (by decide) (hts _ qf_X4_12) (fun _ h9 => h9) rfl dX4_thrillOf_7 ?_
  refine lv_iload_n hx hb dX4_thrillOf_10 rfl (lv_at hl 1 rfl) ?_
  refine lv_iload_n hx hb dX4_thrillOf_11 rfl (lv_at hl 2 rfl) ?_
  obtain ⟨v2, hc2, hok⟩ := bd_some hok
  refine cRVi (ci := 1) (q0 := 0) [.int a1, .int a2] S hK (cP_H hP) (c_X1_thrillAt l dC dI cI cZ h0 h3 h4 h5 h6 uH a1 a2 hc2) (lw_V qm_X4_167 qi_X1_thrillAt qs_X1_thrillAt qn_X1 qc_X1_thrillAt) hd_X1_thrillAt ⟨rfl, rfl⟩ ⟨Nat.le_of_ble_eq_true rfl, Nat.le_of_ble_eq_true rfl⟩ ⟨Nat.le_of_ble_eq_true rfl, Nat.le_of_ble_eq_true rfl⟩ rfl rfl rfl hl.1 (Nat.le_of_ble_eq_true rfl) rfl dX4_thrillOf_12 ?_
  exact eRi S hr hlk (Option.some.inj hok) dX4_thrillOf_15
theorem hd_X4_cutOn : yX4_cutOn.cls = RX4 ∧ yX4_cutOn.cls ≠ "java/lang/invoke/MethodHandle" ∧ yX4_cutOn.cls ≠ "java/lang/invoke/VarHandle" ∧ (parseMethodDescriptor yX4_cutOn.desc).map (fun d => d.parameters.length) = some 1 := by decide +kernel
def p_X4_cutOn (uH : tX1) (uC : tX0) (uT : tX0) (uI : tX2) (uM : tX3) (a1 : Int32) : Option Int32 :=
  bd (p_X4_needFloor uH uC uT uI uM a1) (fun v1 =>
  gd a1 12 (
  some (uC.2.2.2.2.2.2.2.2.2.1 a1.toNatClampNeg)))
set_option maxHeartbeats 4000000 in
set_option maxRecDepth 100000 in
theorem c_X4_cutOn (l : Launch) (dC : Nat → ClassId) (dI : Nat → Nat → Nat) (cI cZ : ClassId) (n0 h0 h3 h4 h5 h6 c0 c8 c9 c10 c11 c12 c13 t0 t8 t9 t10 t11 t12 t13 i0 i1 i2 i3 i4 m0 m1 m2 : Nat) (uH : tX1) (uC : tX0) (uT : tX0) (uI : tX2) (uM : tX3) (a1 : Int32) {z : Int32} (hok : p_X4_cutOn uH uC uT uI uM a1 = some z) : Met l yX4_cutOn (Cond.code yX4_cutOn cX4_cutOn 2 (some .int) :: lw_all) { frames := 1, cells := 0, slots := 0, locals := 21 } (prR (dC, dI) vwCl (TYS cI cZ) (wN cI cZ n0 h0 h3 h4 h5 h6 c0 c8 c9 c10 c11 c12 c13 t0 t8 t9 t10 t11 t12 t13 i0 i1 i2 i3 i4 m0 m1 m2 uH uC uT uI uM) [.ref n0, .int a1]) (vp_Si (fun r => r = z)) 0 0 (fun _ => False) := by
  refine oM (by decide) (Nat.le_of_ble_eq_true rfl) ?_
  intro p e s m args below meth c S hr hlk hnm hB ls hl
  have hx := S.1
  have hb := S.2.1
  have hml := S.2.2.1
  have hown : s.vm.findClass RX4 = some m.cls := S.2.2.2.1
  have hts := S.2.2.2.2
  have S : CallFix p m c cX4_cutOn 2 s args lw_all RX4 := S
  have hl : lv_has ls 2 [(0, .ref n0), (1, .int a1)] := hl
  obtain ⟨hP, hK⟩ := hB
  have hP : va_P (dC, dI) vwCl (wN cI cZ n0 h0 h3 h4 h5 h6 c0 c8 c9 c10 c11 c12 c13 t0 t8 t9 t10 t11 t12 t13 i0 i1 i2 i3 i4 m0 m1 m2 uH uC uT uI uM) s.heap := hP
  unfold p_X4_cutOn at hok
  refine lv_aload_n hx hb dX4_cutOn_0 rfl (lv_at hl 0 rfl) ?_
  refine lv_iload_n hx hb dX4_cutOn_1 rfl (lv_at hl 1 rfl) ?_
  obtain ⟨v1, hc1, hok⟩ := bd_some hok
  refine cRVv (ci := 4) (q0 := 0) [.int a1] S hK hP (c_X4_needFloor l dC dI cI cZ n0 h0 h3 h4 h5 h6 c0 c8 c9 c10 c11 c12 c13 t0 t8 t9 t10 t11 t12 t13 i0 i1 i2 i3 i4 m0 m1 m2 uH uC uT uI uM a1 hc1) (lw_V qm_X4_64 qi_X4_needFloor qs_X4_needFloor qn_X4 qc_X4_needFloor) hd_X4_needFloor ⟨rfl, rfl⟩ ⟨Nat.le_of_ble_eq_true rfl, Nat.le_of_ble_eq_true rfl⟩ ⟨Nat.le_of_ble_eq_true rfl, Nat.le_of_ble_eq_true rfl⟩ rfl rfl rfl hl.1 (Nat.le_of_ble_eq_true rfl) rfl dX4_cutOn_2 ?_
  refine lv_aload_n hx hb dX4_cutOn_5 rfl (lv_at hl 0 rfl) ?_
  refine va_get (D := (dC, dI)) (ci := 4) (v := .ref c0) (C := RX4) (T := TX4) (N := 5) hx hb hts inX4 hown hK hP 0 rfl rfl 1 (by decide) (hts _ qf_X4_21) (fun _ h9 => h9) rfl dX4_cutOn_6 ?_
  refine va_get (D := (dC, dI)) (ci := 0) (v := .ref c10) (C := RX0) (T := TX0) (N := 14) hx hb hts inX0 hown hK hP 6 rfl rfl 10 (by decide) (hts _ qf_X4_170) (fun _ h9 => h9) rfl dX4_cutOn_9 ?_
  refine lv_iload_n hx hb dX4_cutOn_12 rfl (lv_at hl 1 rfl) ?_
  obtain ⟨hi2, hok⟩ := gd_some hok
  refine va_iald hx hb hK hP 9 0 rfl rfl hi2 dX4_cutOn_13 ?_
  exact eRi S hr hlk (Option.some.inj hok) dX4_cutOn_14
theorem hd_X4_isForbidden : yX4_isForbidden.cls = RX4 ∧ yX4_isForbidden.cls ≠ "java/lang/invoke/MethodHandle" ∧ yX4_isForbidden.cls ≠ "java/lang/invoke/VarHandle" ∧ (parseMethodDescriptor yX4_isForbidden.desc).map (fun d => d.parameters.length) = some 1 := by decide +kernel
def p_X4_isForbidden (uH : tX1) (uC : tX0) (uT : tX0) (uI : tX2) (uM : tX3) (a1 : Int32) : Option Int32 :=
  bd (p_X4_needTopic a1) (fun v1 =>
  gd a1 8 (
  gq ((uC.2.2.2.2.2.2.2.2.2.2.1 a1.toNatClampNeg) &&& 1 = (uC.2.2.2.2.2.2.2.2.2.2.1 a1.toNatClampNeg)) (
  some (uC.2.2.2.2.2.2.2.2.2.2.1 a1.toNatClampNeg))))
set_option maxHeartbeats 4000000 in
set_option maxRecDepth 100000 in
theorem c_X4_isForbidden (l : Launch) (dC : Nat → ClassId) (dI : Nat → Nat → Nat) (cI cZ : ClassId) (n0 h0 h3 h4 h5 h6 c0 c8 c9 c10 c11 c12 c13 t0 t8 t9 t10 t11 t12 t13 i0 i1 i2 i3 i4 m0 m1 m2 : Nat) (uH : tX1) (uC : tX0) (uT : tX0) (uI : tX2) (uM : tX3) (a1 : Int32) {z : Int32} (hok : p_X4_isForbidden uH uC uT uI uM a1 = some z) : Met l yX4_isForbidden (Cond.code yX4_isForbidden cX4_isForbidden 2 (some .boolean) :: lw_all) { frames := 2, cells := 0, slots := 0, locals := 40 } (prR (dC, dI) vwCl (TYS cI cZ) (wN cI cZ n0 h0 h3 h4 h5 h6 c0 c8 c9 c10 c11 c12 c13 t0 t8 t9 t10 t11 t12 t13 i0 i1 i2 i3 i4 m0 m1 m2 uH uC uT uI uM) [.ref n0, .int a1]) (vp_Si (fun r => r = z)) 0 0 (fun _ => False) := by
  refine oM (by decide) (Nat.le_of_ble_eq_true rfl) ?_
  intro p e s m args below meth c S hr hlk hnm hB ls hl
  have hx := S.1
  have hb := S.2.1
  have hml := S.2.2.1
  have hown : s.vm.findClass RX4 = some m.cls := S.2.2.2.1
  have hts := S.2.2.2.2
  have S : CallFix p m c cX4_isForbidden 2 s args lw_all RX4 := S
  have hl : lv_has ls 2 [(0, .ref n0), (1, .int a1)] := hl
  obtain ⟨hP, hK⟩ := hB
  have hP : va_P (dC, dI) vwCl (wN cI cZ n0 h0 h3 h4 h5 h6 c0 c8 c9 c10 c11 c12 c13 t0 t8 t9 t10 t11 t12 t13 i0 i1 i2 i3 i4 m0 m1 m2 uH uC uT uI uM) s.heap := hP
  unfold p_X4_isForbidden at hok
  refine lv_iload_n hx hb dX4_isForbidden_0 rfl (lv_at hl 1 rfl) ?_
  obtain ⟨v1, hc1, hok⟩ := bd_some hok
  refine cRSv [.int a1] S hK va_Pnil (c_X4_needTopic l dC dI cI cZ a1 hc1) (lw_S qm_X4_86 qt_X4_needTopic qn_X4 qc_X4_needTopic) hd_X4_needTopic ⟨rfl, rfl⟩ ⟨Nat.le_of_ble_eq_true rfl, Nat.le_of_ble_eq_true rfl⟩ ⟨Nat.le_of_ble_eq_true rfl, Nat.le_of_ble_eq_true rfl⟩ rfl hl.1 (Nat.le_of_ble_eq_true rfl) rfl dX4_isForbidden_1 ?_
  refine lv_aload_n hx hb dX4_isForbidden_4 rfl (lv_at hl 0 rfl) ?_
  refine va_get (D := (dC, dI)) (ci := 4) (v := .ref c0) (C := RX4) (T := TX4) (N := 5) hx hb hts inX4 hown hK hP 0 rfl rfl 1 (by decide) (hts _ qf_X4_21) (fun _ h9 => h9) rfl dX4_isForbidden_5 ?_
  refine va_get (D := (dC, dI)) (ci := 0) (v := .ref c11) (C := RX0) (T := TX0) (N := 14) hx hb hts inX0 hown hK hP 6 rfl rfl 11 (by decide) (hts _ qf_X4_89) (fun _ h9 => h9) rfl dX4_isForbidden_8 ?_
  refine lv_iload_n hx hb dX4_isForbidden_11 rfl (lv_at hl 1 rfl) ?_
  obtain ⟨hi2, hok⟩ := gd_some hok
  refine va_zald hx hb hK hP 10 1 rfl rfl hi2 dX4_isForbidden_12 ?_
  obtain ⟨hn3, hok⟩ := gq_some hok
  exact eRz S hr hlk hn3 (Option.some.inj hok) dX4_isForbidden_13
theorem hd_X4_cuts : yX4_cuts.cls = RX4 ∧ yX4_cuts.cls ≠ "java/lang/invoke/MethodHandle" ∧ yX4_cuts.cls ≠ "java/lang/invoke/VarHandle" ∧ (parseMethodDescriptor yX4_cuts.desc).map (fun d => d.parameters.length) = some 0 := by decide +kernel
def p_X4_cuts (uH : tX1) (uC : tX0) (uT : tX0) (uI : tX2) (uM : tX3) : Option Int32 :=
  bd (p_X0_countCut uC uH) (fun v1 =>
  some v1)
set_option maxHeartbeats 4000000 in
set_option maxRecDepth 100000 in
theorem c_X4_cuts (l : Launch) (dC : Nat → ClassId) (dI : Nat → Nat → Nat) (cI cZ : ClassId) (n0 h0 h3 h4 h5 h6 c0 c8 c9 c10 c11 c12 c13 t0 t8 t9 t10 t11 t12 t13 i0 i1 i2 i3 i4 m0 m1 m2 : Nat) (uH : tX1) (uC : tX0) (uT : tX0) (uI : tX2) (uM : tX3) {z : Int32} (hok : p_X4_cuts uH uC uT uI uM = some z) : Met l yX4_cuts (Cond.code yX4_cuts cX4_cuts 1 (some .int) :: lw_all) { frames := 1, cells := 0, slots := 0, locals := 22 } (prR (dC, dI) vwCl (TYS cI cZ) (wN cI cZ n0 h0 h3 h4 h5 h6 c0 c8 c9 c10 c11 c12 c13 t0 t8 t9 t10 t11 t12 t13 i0 i1 i2 i3 i4 m0 m1 m2 uH uC uT uI uM) [.ref n0]) (vp_Si (fun r => r = z)) 0 0 (fun _ => False) := by
  refine oM (by decide) (Nat.le_of_ble_eq_true rfl) ?_
  intro p e s m args below meth c S hr hlk hnm hB ls hl
  have hx := S.1
  have hb := S.2.1
  have hml := S.2.2.1
  have hown : s.vm.findClass RX4 = some m.cls := S.2.2.2.1
  have hts := S.2.2.2.2
  have S : CallFix p m c cX4_cuts 1 s args lw_all RX4 := S
  have hl : lv_has ls 1 [(0, .ref n0)] := hl
  obtain ⟨hP, hK⟩ := hB
  have hP : va_P (dC, dI) vwCl (wN cI cZ n0 h0 h3 h4 h5 h6 c0 c8 c9 c10 c11 c12 c13 t0 t8 t9 t10 t11 t12 t13 i0 i1 i2 i3 i4 m0 m1 m2 uH uC uT uI uM) s.heap := hP
  unfold p_X4_cuts at hok
  refine lv_aload_n hx hb dX4_cuts_0 rfl (lv_at hl 0 rfl) ?_
  refine va_get (D := (dC, dI)) (ci := 4) (v := .ref c0) (C := RX4) (T := TX4) (N := 5) hx hb hts inX4 hown hK hP 0 rfl rfl 1 (by decide) (hts _ qf_X4_21) (fun _ h9 => h9) rfl dX4_cuts_1 ?_
  obtain ⟨v1, hc1, hok⟩ := bd_some hok
  refine cRVi (ci := 0) (q0 := 0) [] S hK (cP_CH hP) (c_X0_countCut l dC dI cI cZ c0 c8 c9 c10 c11 c12 c13 h0 h3 h4 h5 h6 uC uH hc1) (lw_V qm_X4_173 qi_X0_countCut qs_X0_countCut qn_X0 qc_X0_countCut) hd_X0_countCut ⟨rfl, rfl⟩ ⟨Nat.le_of_ble_eq_true rfl, Nat.le_of_ble_eq_true rfl⟩ ⟨Nat.le_of_ble_eq_true rfl, Nat.le_of_ble_eq_true rfl⟩ rfl rfl rfl hl.1 (Nat.le_of_ble_eq_true rfl) rfl dX4_cuts_4 ?_
  exact eRi S hr hlk (Option.some.inj hok) dX4_cuts_7
theorem hd_X4_toCome : yX4_toCome.cls = RX4 ∧ yX4_toCome.cls ≠ "java/lang/invoke/MethodHandle" ∧ yX4_toCome.cls ≠ "java/lang/invoke/VarHandle" ∧ (parseMethodDescriptor yX4_toCome.desc).map (fun d => d.parameters.length) = some 1 := by decide +kernel
def p_X4_toCome (uH : tX1) (uC : tX0) (uT : tX0) (uI : tX2) (uM : tX3) (a1 : Int32) : Option Int32 :=
  bd (p_X4_needTopic a1) (fun v1 =>
  bd (p_X0_countToCome uC uH a1) (fun v2 =>
  some v2))
set_option maxHeartbeats 4000000 in
set_option maxRecDepth 100000 in
theorem c_X4_toCome (l : Launch) (dC : Nat → ClassId) (dI : Nat → Nat → Nat) (cI cZ : ClassId) (n0 h0 h3 h4 h5 h6 c0 c8 c9 c10 c11 c12 c13 t0 t8 t9 t10 t11 t12 t13 i0 i1 i2 i3 i4 m0 m1 m2 : Nat) (uH : tX1) (uC : tX0) (uT : tX0) (uI : tX2) (uM : tX3) (a1 : Int32) {z : Int32} (hok : p_X4_toCome uH uC uT uI uM a1 = some z) : Met l yX4_toCome (Cond.code yX4_toCome cX4_toCome 2 (some .int) :: lw_all) { frames := 2, cells := 0, slots := 0, locals := 46 } (prR (dC, dI) vwCl (TYS cI cZ) (wN cI cZ n0 h0 h3 h4 h5 h6 c0 c8 c9 c10 c11 c12 c13 t0 t8 t9 t10 t11 t12 t13 i0 i1 i2 i3 i4 m0 m1 m2 uH uC uT uI uM) [.ref n0, .int a1]) (vp_Si (fun r => r = z)) 0 0 (fun _ => False) := by
  refine oM (by decide) (Nat.le_of_ble_eq_true rfl) ?_
  intro p e s m args below meth c S hr hlk hnm hB ls hl
  have hx := S.1
  have hb := S.2.1
  have hml := S.2.2.1
  have hown : s.vm.findClass RX4 = some m.cls := S.2.2.2.1
  have hts := S.2.2.2.2
  have S : CallFix p m c cX4_toCome 2 s args lw_all RX4 := S
  have hl : lv_has ls 2 [(0, .ref n0), (1, .int a1)] := hl
  obtain ⟨hP, hK⟩ := hB
  have hP : va_P (dC, dI) vwCl (wN cI cZ n0 h0 h3 h4 h5 h6 c0 c8 c9 c10 c11 c12 c13 t0 t8 t9 t10 t11 t12 t13 i0 i1 i2 i3 i4 m0 m1 m2 uH uC uT uI uM) s.heap := hP
  unfold p_X4_toCome at hok
  refine lv_iload_n hx hb dX4_toCome_0 rfl (lv_at hl 1 rfl) ?_
  obtain ⟨v1, hc1, hok⟩ := bd_some hok
  refine cRSv [.int a1] S hK va_Pnil (c_X4_needTopic l dC dI cI cZ a1 hc1) (lw_S qm_X4_86 qt_X4_needTopic qn_X4 qc_X4_needTopic) hd_X4_needTopic ⟨rfl, rfl⟩ ⟨Nat.le_of_ble_eq_true rfl, Nat.le_of_ble_eq_true rfl⟩ ⟨Nat.le_of_ble_eq_true rfl, Nat.le_of_ble_eq_true rfl⟩ rfl hl.1 (Nat.le_of_ble_eq_true rfl) rfl dX4_toCome_1 ?_
  refine lv_aload_n hx hb dX4_toCome_4 rfl (lv_at hl 0 rfl) ?_
  refine va_get (D := (dC, dI)) (ci := 4) (v := .ref c0) (C := RX4) (T := TX4) (N := 5) hx hb hts inX4 hown hK hP 0 rfl rfl 1 (by decide) (hts _ qf_X4_21) (fun _ h9 => h9) rfl dX4_toCome_5 ?_
  refine lv_iload_n hx hb dX4_toCome_8 rfl (lv_at hl 1 rfl) ?_
  obtain ⟨v2, hc2, hok⟩ := bd_some hok
  refine cRVi (ci := 0) (q0 := 0) [.int a1] S hK (cP_CH hP) (c_X0_countToCome l dC dI cI cZ c0 c8 c9 c10 c11 c12 c13 h0 h3 h4 h5 h6 uC uH a1 hc2) (lw_V qm_X4_176 qi_X0_countToCome qs_X0_countToCome qn_X0 qc_X0_countToCome) hd_X0_countToCome ⟨rfl, rfl⟩ ⟨Nat.le_of_ble_eq_true rfl, Nat.le_of_ble_eq_true rfl⟩ ⟨Nat.le_of_ble_eq_true rfl, Nat.le_of_ble_eq_true rfl⟩ rfl rfl rfl hl.1 (Nat.le_of_ble_eq_true rfl) rfl dX4_toCome_9 ?_
  exact eRi S hr hlk (Option.some.inj hok) dX4_toCome_12
theorem hd_X4_instalments : yX4_instalments.cls = RX4 ∧ yX4_instalments.cls ≠ "java/lang/invoke/MethodHandle" ∧ yX4_instalments.cls ≠ "java/lang/invoke/VarHandle" ∧ (parseMethodDescriptor yX4_instalments.desc).map (fun d => d.parameters.length) = some 0 := by decide +kernel
def p_X4_instalments (uH : tX1) (uC : tX0) (uT : tX0) (uI : tX2) (uM : tX3) : Option Int32 :=
  some uI.1
set_option maxHeartbeats 4000000 in
set_option maxRecDepth 100000 in
theorem c_X4_instalments (l : Launch) (dC : Nat → ClassId) (dI : Nat → Nat → Nat) (cI cZ : ClassId) (n0 h0 h3 h4 h5 h6 c0 c8 c9 c10 c11 c12 c13 t0 t8 t9 t10 t11 t12 t13 i0 i1 i2 i3 i4 m0 m1 m2 : Nat) (uH : tX1) (uC : tX0) (uT : tX0) (uI : tX2) (uM : tX3) {z : Int32} (hok : p_X4_instalments uH uC uT uI uM = some z) : Met l yX4_instalments (Cond.code yX4_instalments cX4_instalments 1 (some .int) :: lw_all) { frames := 0, cells := 0, slots := 0, locals := 0 } (prR (dC, dI) vwCl (TYS cI cZ) (wN cI cZ n0 h0 h3 h4 h5 h6 c0 c8 c9 c10 c11 c12 c13 t0 t8 t9 t10 t11 t12 t13 i0 i1 i2 i3 i4 m0 m1 m2 uH uC uT uI uM) [.ref n0]) (vp_Si (fun r => r = z)) 0 0 (fun _ => False) := by
  refine oM (by decide) (Nat.le_of_ble_eq_true rfl) ?_
  intro p e s m args below meth c S hr hlk hnm hB ls hl
  have hx := S.1
  have hb := S.2.1
  have hml := S.2.2.1
  have hown : s.vm.findClass RX4 = some m.cls := S.2.2.2.1
  have hts := S.2.2.2.2
  have S : CallFix p m c cX4_instalments 1 s args lw_all RX4 := S
  have hl : lv_has ls 1 [(0, .ref n0)] := hl
  obtain ⟨hP, hK⟩ := hB
  have hP : va_P (dC, dI) vwCl (wN cI cZ n0 h0 h3 h4 h5 h6 c0 c8 c9 c10 c11 c12 c13 t0 t8 t9 t10 t11 t12 t13 i0 i1 i2 i3 i4 m0 m1 m2 uH uC uT uI uM) s.heap := hP
  unfold p_X4_instalments at hok
  refine lv_aload_n hx hb dX4_instalments_0 rfl (lv_at hl 0 rfl) ?_
  refine va_get (D := (dC, dI)) (ci := 4) (v := .ref i0) (C := RX4) (T := TX4) (N := 5) hx hb hts inX4 hown hK hP 0 rfl rfl 3 (by decide) (hts _ qf_X4_31) (fun _ h9 => h9) rfl dX4_instalments_1 ?_
  refine va_get (D := (dC, dI)) (ci := 2) (v := .int uI.1) (C := RX2) (T := TX2) (N := 5) hx hb hts inX2 hown hK hP 20 rfl rfl 0 (by decide) (hts _ qf_X4_56) (fun _ h9 => h9) rfl dX4_instalments_4 ?_
  exact eRi S hr hlk (Option.some.inj hok) dX4_instalments_7
