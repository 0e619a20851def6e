theorem hd_X4_readers : yX4_readers.cls = RX4 ∧ yX4_readers.cls ≠ "java/lang/invoke/MethodHandle" ∧ yX4_readers.cls ≠ "java/lang/invoke/VarHandle" ∧ (parseMethodDescriptor yX4_readers.desc).map (fun d => d.parameters.length) = some 0 := by decide +kernel
def p_X4_readers (uH : tX1) (uC : tX0) (uT : tX0) (uI : tX2) (uM : tX3) : Option Int32 :=
  some uH.2.2.1
set_option maxHeartbeats 4000000 in
set_option maxRecDepth 100000 in
theorem c_X4_readers (l : Launch) (dC : Nat → ClassId) (dI : Nat → Nat → Nat) (cI cZ : ClassId) (n0 h0 h3 h4 h5 h6 c0 c8 c9 c10 c11 c12 c13 t0 t8 t9 t10 t11 t12 t13 i0 i1 i2 i3 i4 m0 m1 m2 : Nat) (uH : tX1) (uC : tX0) (uT : tX0) (uI : tX2) (uM : tX3) {z : Int32} (hok : p_X4_readers uH uC uT uI uM = some z) : Met l yX4_readers (Cond.code yX4_readers cX4_readers 1 (some .int) :: lw_all) { frames := 0, cells := 0, slots := 0, locals := 0 } (prR (dC, dI) vwCl (TYS cI cZ) (wN cI cZ n0 h0 h3 h4 h5 h6 c0 c8 c9 c10 c11 c12 c13 t0 t8 t9 t10 t11 t12 t13 i0 i1 i2 i3 i4 m0 m1 m2 uH uC uT uI uM) [.ref n0]) (vp_Si (fun r => r = z)) 0 0 (fun _ => False) := by
  refine oM (by decide) (Nat.le_of_ble_eq_true rfl) ?_
  intro p e s m args below meth c S hr hlk hnm hB ls hl
  have hx := S.1
  have hb := S.2.1
  have hml := S.2.2.1
  have hown : s.vm.findClass RX4 = some m.cls := S.2.2.2.1
  have hts := S.2.2.2.2
  have S : CallFix p m c cX4_readers 1 s args lw_all RX4 := S
  have hl : lv_has ls 1 [(0, .ref n0)] := hl
  obtain ⟨hP, hK⟩ := hB
  have hP : va_P (dC, dI) vwCl (wN cI cZ n0 h0 h3 h4 h5 h6 c0 c8 c9 c10 c11 c12 c13 t0 t8 t9 t10 t11 t12 t13 i0 i1 i2 i3 i4 m0 m1 m2 uH uC uT uI uM) s.heap := hP
  unfold p_X4_readers at hok
  refine lv_aload_n hx hb dX4_readers_0 rfl (lv_at hl 0 rfl) ?_
  refine va_get (D := (dC, dI)) (ci := 4) (v := .ref h0) (C := RX4) (T := TX4) (N := 5) hx hb hts inX4 hown hK hP 0 rfl rfl 0 (by decide) (hts _ qf_X4_12) (fun _ h9 => h9) rfl dX4_readers_1 ?_
  refine va_get (D := (dC, dI)) (ci := 1) (v := .int uH.2.2.1) (C := RX1) (T := TX1) (N := 7) hx hb hts inX1 hown hK hP 1 rfl rfl 2 (by decide) (hts _ qf_X4_100) (fun _ h9 => h9) rfl dX4_readers_4 ?_
  exact eRi S hr hlk (Option.some.inj hok) dX4_readers_7
theorem hd_X4_subscribers : yX4_subscribers.cls = RX4 ∧ yX4_subscribers.cls ≠ "java/lang/invoke/MethodHandle" ∧ yX4_subscribers.cls ≠ "java/lang/invoke/VarHandle" ∧ (parseMethodDescriptor yX4_subscribers.desc).map (fun d => d.parameters.length) = some 0 := by decide +kernel
def p_X4_subscribers (uH : tX1) (uC : tX0) (uT : tX0) (uI : tX2) (uM : tX3) : Option Int32 :=
  bd (p_X0_countSubscribers uC uH) (fun v1 =>
  some v1)
set_option maxHeartbeats 4000000 in
set_option maxRecDepth 100000 in
theorem c_X4_subscribers (l : Launch) (dC : Nat → ClassId) (dI : Nat → Nat → Nat) (cI cZ : ClassId) (n0 h0 h3 h4 h5 h6 c0 c8 c9 c10 c11 c12 c13 t0 t8 t9 t10 t11 t12 t13 i0 i1 i2 i3 i4 m0 m1 m2 : Nat) (uH : tX1) (uC : tX0) (uT : tX0) (uI : tX2) (uM : tX3) {z : Int32} (hok : p_X4_subscribers uH uC uT uI uM = some z) : Met l yX4_subscribers (Cond.code yX4_subscribers cX4_subscribers 1 (some .int) :: lw_all) { frames := 1, cells := 0, slots := 0, locals := 22 } (prR (dC, dI) vwCl (TYS cI cZ) (wN cI cZ n0 h0 h3 h4 h5 h6 c0 c8 c9 c10 c11 c12 c13 t0 t8 t9 t10 t11 t12 t13 i0 i1 i2 i3 i4 m0 m1 m2 uH uC uT uI uM) [.ref n0]) (vp_Si (fun r => r = z)) 0 0 (fun _ => False) := by
  refine oM (by decide) (Nat.le_of_ble_eq_true rfl) ?_
  intro p e s m args below meth c S hr hlk hnm hB ls hl
  have hx := S.1
  have hb := S.2.1
  have hml := S.2.2.1
  have hown : s.vm.findClass RX4 = some m.cls := S.2.2.2.1
  have hts := S.2.2.2.2
  have S : CallFix p m c cX4_subscribers 1 s args lw_all RX4 := S
  have hl : lv_has ls 1 [(0, .ref n0)] := hl
  obtain ⟨hP, hK⟩ := hB
  have hP : va_P (dC, dI) vwCl (wN cI cZ n0 h0 h3 h4 h5 h6 c0 c8 c9 c10 c11 c12 c13 t0 t8 t9 t10 t11 t12 t13 i0 i1 i2 i3 i4 m0 m1 m2 uH uC uT uI uM) s.heap := hP
  unfold p_X4_subscribers at hok
  refine lv_aload_n hx hb dX4_subscribers_0 rfl (lv_at hl 0 rfl) ?_
  refine va_get (D := (dC, dI)) (ci := 4) (v := .ref c0) (C := RX4) (T := TX4) (N := 5) hx hb hts inX4 hown hK hP 0 rfl rfl 1 (by decide) (hts _ qf_X4_21) (fun _ h9 => h9) rfl dX4_subscribers_1 ?_
  obtain ⟨v1, hc1, hok⟩ := bd_some hok
  refine cRVi (ci := 0) (q0 := 0) [] S hK (cP_CH hP) (c_X0_countSubscribers l dC dI cI cZ c0 c8 c9 c10 c11 c12 c13 h0 h3 h4 h5 h6 uC uH hc1) (lw_V qm_X4_60 qi_X0_countSubscribers qs_X0_countSubscribers qn_X0 qc_X0_countSubscribers) hd_X0_countSubscribers ⟨rfl, rfl⟩ ⟨Nat.le_of_ble_eq_true rfl, Nat.le_of_ble_eq_true rfl⟩ ⟨Nat.le_of_ble_eq_true rfl, Nat.le_of_ble_eq_true rfl⟩ rfl rfl rfl hl.1 (Nat.le_of_ble_eq_true rfl) rfl dX4_subscribers_4 ?_
  exact eRi S hr hlk (Option.some.inj hok) dX4_subscribers_7
theorem hd_X4_needReader : yX4_needReader.cls = RX4 ∧ yX4_needReader.cls ≠ "java/lang/invoke/MethodHandle" ∧ yX4_needReader.cls ≠ "java/lang/invoke/VarHandle" ∧ (parseMethodDescriptor yX4_needReader.desc).map (fun d => d.parameters.length) = some 1 := by decide +kernel
def p_X4_needReader (uH : tX1) (uC : tX0) (uT : tX0) (uI : tX2) (uM : tX3) (a1 : Int32) : Option (Unit) :=
  if a1 < 0 then
    none
  else
    if a1 < uH.2.2.1 then
      some ()
    else
      none
set_option maxHeartbeats 4000000 in
set_option maxRecDepth 100000 in
theorem c_X4_needReader (l : Launch) (dC : Nat → ClassId) (dI : Nat → Nat → Nat) (cI cZ : ClassId) (n0 h0 h3 h4 h5 h6 c0 c8 c9 c10 c11 c12 c13 t0 t8 t9 t10 t11 t12 t13 i0 i1 i2 i3 i4 m0 m1 m2 : Nat) (uH : tX1) (uC : tX0) (uT : tX0) (uI : tX2) (uM : tX3) (a1 : Int32) {z : (Unit)} (hok : p_X4_needReader uH uC uT uI uM a1 = some z) : Met l yX4_needReader (Cond.code yX4_needReader cX4_needReader 2 none :: lw_all) { frames := 0, cells := 0, slots := 0, locals := 0 } (prR (dC, dI) vwCl (TYS cI cZ) (wN cI cZ n0 h0 h3 h4 h5 h6 c0 c8 c9 c10 c11 c12 c13 t0 t8 t9 t10 t11 t12 t13 i0 i1 i2 i3 i4 m0 m1 m2 uH uC uT uI uM) [.ref n0, .int a1]) (va_Sv (fun _ : Unit => True)) 0 0 (fun _ => False) := by
  refine oM (by decide) (Nat.le_of_ble_eq_true rfl) ?_
  intro p e s m args below meth c S hr hlk hnm hB ls hl
  have hx := S.1
  have hb := S.2.1
  have hml := S.2.2.1
  have hown : s.vm.findClass RX4 = some m.cls := S.2.2.2.1
  have hts := S.2.2.2.2
  have S : CallFix p m c cX4_needReader 2 s args lw_all RX4 := S
  have hl : lv_has ls 2 [(0, .ref n0), (1, .int a1)] := hl
  obtain ⟨hP, hK⟩ := hB
  have hP : va_P (dC, dI) vwCl (wN cI cZ n0 h0 h3 h4 h5 h6 c0 c8 c9 c10 c11 c12 c13 t0 t8 t9 t10 t11 t12 t13 i0 i1 i2 i3 i4 m0 m1 m2 uH uC uT uI uM) s.heap := hP
  unfold p_X4_needReader at hok
  refine lv_iload_n hx hb dX4_needReader_0 rfl (lv_at hl 1 rfl) ?_
  refine lv_if_lt (tgt := 15) hx hb dX4_needReader_1 (by decide) (fun hc => ?_) (fun hc => ?_)
  · have hok := ip hok hc
    cases hok
  · have hok := iq hok hc
    refine lv_iload_n hx hb dX4_needReader_4 rfl (lv_at hl 1 rfl) ?_
    refine lv_aload_n hx hb dX4_needReader_5 rfl (lv_at hl 0 rfl) ?_
    refine va_get (D := (dC, dI)) (ci := 4) (v := .ref h0) (C := RX4) (T := TX4) (N := 5) hx hb hts inX4 hown hK hP 0 rfl rfl 0 (by decide) (hts _ qf_X4_12) (fun _ h9 => h9) rfl dX4_needReader_6 ?_
    refine va_get (D := (dC, dI)) (ci := 1) (v := .int uH.2.2.1) (C := RX1) (T := TX1) (N := 7) hx hb hts inX1 hown hK hP 1 rfl rfl 2 (by decide) (hts _ qf_X4_100) (fun _ h9 => h9) rfl dX4_needReader_9 ?_
    refine lv_icmp_lt (tgt := 26) hx hb dX4_needReader_12 (by decide) (fun hc => ?_) (fun hc => ?_)
    · have hok := ip hok hc
      exact eRv S hr hlk dX4_needReader_26
    · have hok := iq hok hc
      cases hok
theorem hd_X4_tasteOf : yX4_tasteOf.cls = RX4 ∧ yX4_tasteOf.cls ≠ "java/lang/invoke/MethodHandle" ∧ yX4_tasteOf.cls ≠ "java/lang/invoke/VarHandle" ∧ (parseMethodDescriptor yX4_tasteOf.desc).map (fun d => d.parameters.length) = some 1 := by decide +kernel
def p_X4_tasteOf (uH : tX1) (uC : tX0) (uT : tX0) (uI : tX2) (uM : tX3) (a1 : Int32) : Option Int32 :=
  bd (p_X4_needReader uH uC uT uI uM a1) (fun v1 =>
  gd a1 8 (
  some (uH.2.2.2.2.2.2 a1.toNatClampNeg)))
set_option maxHeartbeats 4000000 in
set_option maxRecDepth 100000 in
theorem c_X4_tasteOf (l : Launch) (dC : Nat → ClassId) (dI : Nat → Nat → Nat) (cI cZ : ClassId) (n0 h0 h3 h4 h5 h6 c0 c8 c9 c10 c11 c12 c13 t0 t8 t9 t10 t11 t12 t13 i0 i1 i2 i3 i4 m0 m1 m2 : Nat) (uH : tX1) (uC : tX0) (uT : tX0) (uI : tX2) (uM : tX3) (a1 : Int32) {z : Int32} (hok : p_X4_tasteOf uH uC uT uI uM a1 = some z) : Met l yX4_tasteOf (Cond.code yX4_tasteOf cX4_tasteOf 2 (some .int) :: lw_all) { frames := 1, cells := 0, slots := 0, locals := 21 } (prR (dC, dI) vwCl (TYS cI cZ) (wN cI cZ n0 h0 h3 h4 h5 h6 c0 c8 c9 c10 c11 c12 c13 t0 t8 t9 t10 t11 t12 t13 i0 i1 i2 i3 i4 m0 m1 m2 uH uC uT uI uM) [.ref n0, .int a1]) (vp_Si (fun r => r = z)) 0 0 (fun _ => False) := by
  refine oM (by decide) (Nat.le_of_ble_eq_true rfl) ?_
  intro p e s m args below meth c S hr hlk hnm hB ls hl
  have hx := S.1
  have hb := S.2.1
  have hml := S.2.2.1
  have hown : s.vm.findClass RX4 = some m.cls := S.2.2.2.1
  have hts := S.2.2.2.2
  have S : CallFix p m c cX4_tasteOf 2 s args lw_all RX4 := S
  have hl : lv_has ls 2 [(0, .ref n0), (1, .int a1)] := hl
  obtain ⟨hP, hK⟩ := hB
  have hP : va_P (dC, dI) vwCl (wN cI cZ n0 h0 h3 h4 h5 h6 c0 c8 c9 c10 c11 c12 c13 t0 t8 t9 t10 t11 t12 t13 i0 i1 i2 i3 i4 m0 m1 m2 uH uC uT uI uM) s.heap := hP
  unfold p_X4_tasteOf at hok
  refine lv_aload_n hx hb dX4_tasteOf_0 rfl (lv_at hl 0 rfl) ?_
  refine lv_iload_n hx hb dX4_tasteOf_1 rfl (lv_at hl 1 rfl) ?_
  obtain ⟨v1, hc1, hok⟩ := bd_some hok
  refine cRVv (ci := 4) (q0 := 0) [.int a1] S hK hP (c_X4_needReader l dC dI cI cZ n0 h0 h3 h4 h5 h6 c0 c8 c9 c10 c11 c12 c13 t0 t8 t9 t10 t11 t12 t13 i0 i1 i2 i3 i4 m0 m1 m2 uH uC uT uI uM a1 hc1) (lw_V qm_X4_203 qi_X4_needReader qs_X4_needReader qn_X4 qc_X4_needReader) hd_X4_needReader ⟨rfl, rfl⟩ ⟨Nat.le_of_ble_eq_true rfl, Nat.le_of_ble_eq_true rfl⟩ ⟨Nat.le_of_ble_eq_true rfl, Nat.le_of_ble_eq_true rfl⟩ rfl rfl rfl hl.1 (Nat.le_of_ble_eq_true rfl) rfl dX4_tasteOf_2 ?_
  refine lv_aload_n hx hb dX4_tasteOf_5 rfl (lv_at hl 0 rfl) ?_
  refine va_get (D := (dC, dI)) (ci := 4) (v := .ref h0) (C := RX4) (T := TX4) (N := 5) hx hb hts inX4 hown hK hP 0 rfl rfl 0 (by decide) (hts _ qf_X4_12) (fun _ h9 => h9) rfl dX4_tasteOf_6 ?_
  refine va_get (D := (dC, dI)) (ci := 1) (v := .ref h6) (C := RX1) (T := TX1) (N := 7) hx hb hts inX1 hown hK hP 1 rfl rfl 6 (by decide) (hts _ qf_X4_105) (fun _ h9 => h9) rfl dX4_tasteOf_9 ?_
  refine lv_iload_n hx hb dX4_tasteOf_12 rfl (lv_at hl 1 rfl) ?_
  obtain ⟨hi2, hok⟩ := gd_some hok
  refine va_iald hx hb hK hP 5 0 rfl rfl hi2 dX4_tasteOf_13 ?_
  exact eRi S hr hlk (Option.some.inj hok) dX4_tasteOf_14
theorem hd_X4_warmthOf : yX4_warmthOf.cls = RX4 ∧ yX4_warmthOf.cls ≠ "java/lang/invoke/MethodHandle" ∧ yX4_warmthOf.cls ≠ "java/lang/invoke/VarHandle" ∧ (parseMethodDescriptor yX4_warmthOf.desc).map (fun d => d.parameters.length) = some 1 := by decide +kernel
def p_X4_warmthOf (uH : tX1) (uC : tX0) (uT : tX0) (uI : tX2) (uM : tX3) (a1 : Int32) : Option Int32 :=
  bd (p_X4_needReader uH uC uT uI uM a1) (fun v1 =>
  gd a1 8 (
  if (uC.2.2.2.2.2.2.2.2.2.2.2.2 a1.toNatClampNeg) = 0 then
    some (0 : Int32)
  else
    some (uC.2.2.2.2.2.2.2.2.2.2.2.1 a1.toNatClampNeg)))
set_option maxHeartbeats 4000000 in
set_option maxRecDepth 100000 in
theorem c_X4_warmthOf (l : Launch) (dC : Nat → ClassId) (dI : Nat → Nat → Nat) (cI cZ : ClassId) (n0 h0 h3 h4 h5 h6 c0 c8 c9 c10 c11 c12 c13 t0 t8 t9 t10 t11 t12 t13 i0 i1 i2 i3 i4 m0 m1 m2 : Nat) (uH : tX1) (uC : tX0) (uT : tX0) (uI : tX2) (uM : tX3) (a1 : Int32) {z : Int32} (hok : p_X4_warmthOf uH uC uT uI uM a1 = some z) : Met l yX4_warmthOf (Cond.code yX4_warmthOf cX4_warmthOf 2 (some .int) :: lw_all) { frames := 1, cells := 0, slots := 0, locals := 21 } (prR (dC, dI) vwCl (TYS cI cZ) (wN cI cZ n0 h0 h3 h4 h5 h6 c0 c8 c9 c10 c11 c12 c13 t0 t8 t9 t10 t11 t12 t13 i0 i1 i2 i3 i4 m0 m1 m2 uH uC uT uI uM) [.ref n0, .int a1]) (vp_Si (fun r => r = z)) 0 0 (fun _ => False) := by
  refine oM (by decide) (Nat.le_of_ble_eq_true rfl) ?_
  intro p e s m args below meth c S hr hlk hnm hB ls hl
  have hx := S.1
  have hb := S.2.1
  have hml := S.2.2.1
  have hown : s.vm.findClass RX4 = some m.cls := S.2.2.2.1
  have hts := S.2.2.2.2
  have S : CallFix p m c cX4_warmthOf 2 s args lw_all RX4 := S
  have hl : lv_has ls 2 [(0, .ref n0), (1, .int a1)] := hl
  obtain ⟨hP, hK⟩ := hB
  have hP : va_P (dC, dI) vwCl (wN cI cZ n0 h0 h3 h4 h5 h6 c0 c8 c9 c10 c11 c12 c13 t0 t8 t9 t10 t11 t12 t13 i0 i1 i2 i3 i4 m0 m1 m2 uH uC uT uI uM) s.heap := hP
  unfold p_X4_warmthOf at hok
  refine lv_aload_n hx hb dX4_warmthOf_0 rfl (lv_at hl 0 rfl) ?_
  refine lv_iload_n hx hb dX4_warmthOf_1 rfl (lv_at hl 1 rfl) ?_
  obtain ⟨v1, hc1, hok⟩ := bd_some hok
  refine cRVv (ci := 4) (q0 := 0) [.int a1] S hK hP (c_X4_needReader l dC dI cI cZ n0 h0 h3 h4 h5 h6 c0 c8 c9 c10 c11 c12 c13 t0 t8 t9 t10 t11 t12 t13 i0 i1 i2 i3 i4 m0 m1 m2 uH uC uT uI uM a1 hc1) (lw_V qm_X4_203 qi_X4_needReader qs_X4_needReader qn_X4 qc_X4_needReader) hd_X4_needReader ⟨rfl, rfl⟩ ⟨Nat.le_of_ble_eq_true rfl, Nat.le_of_ble_eq_true rfl⟩ ⟨Nat.le_of_ble_eq_true rfl, Nat.le_of_ble_eq_true rfl⟩ rfl rfl rfl hl.1 (Nat.le_of_ble_eq_true rfl) rfl dX4_warmthOf_2 ?_
  refine lv_aload_n hx hb dX4_warmthOf_5 rfl (lv_at hl 0 rfl) ?_
  refine va_get (D := (dC, dI)) (ci := 4) (v := .ref c0) (C := RX4) (T := TX4) (N := 5) hx hb hts inX4 hown hK hP 0 rfl rfl 1 (by decide) (hts _ qf_X4_21) (fun _ h9 => h9) rfl dX4_warmthOf_6 ?_
  refine va_get (D := (dC, dI)) (ci := 0) (v := .ref c13) (C := RX0) (T := TX0) (N := 14) hx hb hts inX0 hown hK hP 6 rfl rfl 13 (by decide) (hts _ qf_X4_111) (fun _ h9 => h9) rfl dX4_warmthOf_9 ?_
  refine lv_iload_n hx hb dX4_warmthOf_12 rfl (lv_at hl 1 rfl) ?_
  obtain ⟨hi2, hok⟩ := gd_some hok
  refine va_zald hx hb hK hP 12 1 rfl rfl hi2 dX4_warmthOf_13 ?_
  refine lv_if_eq (tgt := 29) hx hb dX4_warmthOf_14 (by decide) (fun hc => ?_) (fun hc => ?_)
  · have hok := ip hok hc
    refine lv_iconst (v := (0 : Int32)) hx hb dX4_warmthOf_29 (by decide) ?_
    exact eRi S hr hlk (Option.some.inj hok) dX4_warmthOf_30
  · have hok := iq hok hc
    refine lv_aload_n hx hb dX4_warmthOf_17 rfl (lv_at hl 0 rfl) ?_
    refine va_get (D := (dC, dI)) (ci := 4) (v := .ref c0) (C := RX4) (T := TX4) (N := 5) hx hb hts inX4 hown hK hP 0 rfl rfl 1 (by decide) (hts _ qf_X4_21) (fun _ h9 => h9) rfl dX4_warmthOf_18 ?_
    refine va_get (D := (dC, dI)) (ci := 0) (v := .ref c12) (C := RX0) (T := TX0) (N := 14) hx hb hts inX0 hown hK hP 6 rfl rfl 12 (by decide) (hts _ qf_X4_108) (fun _ h9 => h9) rfl dX4_warmthOf_21 ?_
    refine lv_iload_n hx hb dX4_warmthOf_24 rfl (lv_at hl 1 rfl) ?_
    refine va_iald hx hb hK hP 11 0 rfl rfl hi2 dX4_warmthOf_25 ?_
    refine lv_goto (tgt := 30) hx hb dX4_warmthOf_26 (by decide) ?_
    exact eRi S hr hlk (Option.some.inj hok) dX4_warmthOf_30
theorem hd_X4_isSubscriber : yX4_isSubscriber.cls = RX4 ∧ yX4_isSubscriber.cls ≠ "java/lang/invoke/MethodHandle" ∧ yX4_isSubscriber.cls ≠ "java/lang/invoke/VarHandle" ∧ (parseMethodDescriptor yX4_isSubscriber.desc).map (fun d => d.parameters.length) = some 1 := by decide +kernel
def p_X4_isSubscriber (uH : tX1) (uC : tX0) (uT : tX0) (uI : tX2) (uM : tX3) (a1 : Int32) : Option Int32 :=
  bd (p_X4_needReader uH uC uT uI uM a1) (fun v1 =>
  gd a1 8 (
  gq ((uC.2.2.2.2.2.2.2.2.2.2.2.2 a1.toNatClampNeg) &&& 1 = (uC.2.2.2.2.2.2.2.2.2.2.2.2 a1.toNatClampNeg)) (
  some (uC.2.2.2.2.2.2.2.2.2.2.2.2 a1.toNatClampNeg))))
set_option maxHeartbeats 4000000 in
set_option maxRecDepth 100000 in
theorem c_X4_isSubscriber (l : Launch) (dC : Nat → ClassId) (dI : Nat → Nat → Nat) (cI cZ : ClassId) (n0 h0 h3 h4 h5 h6 c0 c8 c9 c10 c11 c12 c13 t0 t8 t9 t10 t11 t12 t13 i0 i1 i2 i3 i4 m0 m1 m2 : Nat) (uH : tX1) (uC : tX0) (uT : tX0) (uI : tX2) (uM : tX3) (a1 : Int32) {z : Int32} (hok : p_X4_isSubscriber uH uC uT uI uM a1 = some z) : Met l yX4_isSubscriber (Cond.code yX4_isSubscriber cX4_isSubscriber 2 (some .boolean) :: lw_all) { frames := 1, cells := 0, slots := 0, locals := 21 } (prR (dC, dI) vwCl (TYS cI cZ) (wN cI cZ n0 h0 h3 h4 h5 h6 c0 c8 c9 c10 c11 c12 c13 t0 t8 t9 t10 t11 t12 t13 i0 i1 i2 i3 i4 m0 m1 m2 uH uC uT uI uM) [.ref n0, .int a1]) (vp_Si (fun r => r = z)) 0 0 (fun _ => False) := by
  refine oM (by decide) (Nat.le_of_ble_eq_true rfl) ?_
  intro p e s m args below meth c S hr hlk hnm hB ls hl
  have hx := S.1
  have hb := S.2.1
  have hml := S.2.2.1
  have hown : s.vm.findClass RX4 = some m.cls := S.2.2.2.1
  have hts := S.2.2.2.2
  have S : CallFix p m c cX4_isSubscriber 2 s args lw_all RX4 := S
  have hl : lv_has ls 2 [(0, .ref n0), (1, .int a1)] := hl
  obtain ⟨hP, hK⟩ := hB
  have hP : va_P (dC, dI) vwCl (wN cI cZ n0 h0 h3 h4 h5 h6 c0 c8 c9 c10 c11 c12 c13 t0 t8 t9 t10 t11 t12 t13 i0 i1 i2 i3 i4 m0 m1 m2 uH uC uT uI uM) s.heap := hP
  unfold p_X4_isSubscriber at hok
  refine lv_aload_n hx hb dX4_isSubscriber_0 rfl (lv_at hl 0 rfl) ?_
  refine lv_iload_n hx hb dX4_isSubscriber_1 rfl (lv_at hl 1 rfl) ?_
  obtain ⟨v1, hc1, hok⟩ := bd_some hok
  refine cRVv (ci := 4) (q0 := 0) [.int a1] S hK hP (c_X4_needReader l dC dI cI cZ n0 h0 h3 h4 h5 h6 c0 c8 c9 c10 c11 c12 c13 t0 t8 t9 t10 t11 t12 t13 i0 i1 i2 i3 i4 m0 m1 m2 uH uC uT uI uM a1 hc1) (lw_V qm_X4_203 qi_X4_needReader qs_X4_needReader qn_X4 qc_X4_needReader) hd_X4_needReader ⟨rfl, rfl⟩ ⟨Nat.le_of_ble_eq_true rfl, Nat.le_of_ble_eq_true rfl⟩ ⟨Nat.le_of_ble_eq_true rfl, Nat.le_of_ble_eq_true rfl⟩ rfl rfl rfl hl.1 (Nat.le_of_ble_eq_true rfl) rfl dX4_isSubscriber_2 ?_
  refine lv_aload_n hx hb dX4_isSubscriber_5 rfl (lv_at hl 0 rfl) ?_
  refine va_get (D := (dC, dI)) (ci := 4) (v := .ref c0) (C := RX4) (T := TX4) (N := 5) hx hb hts inX4 hown hK hP 0 rfl rfl 1 (by decide) (hts _ qf_X4_21) (fun _ h9 => h9) rfl dX4_isSubscriber_6 ?_
  refine va_get (D := (dC, dI)) (ci := 0) (v := .ref c13) (C := RX0) (T := TX0) (N := 14) hx hb hts inX0 hown hK hP 6 rfl rfl 13 (by decide) (hts _ qf_X4_111) (fun _ h9 => h9) rfl dX4_isSubscriber_9 ?_
  refine lv_iload_n hx hb dX4_isSubscriber_12 rfl (lv_at hl 1 rfl) ?_
  obtain ⟨hi2, hok⟩ := gd_some hok
  refine va_zald hx hb hK hP 12 1 rfl rfl hi2 dX4_isSubscriber_13 ?_
  obtain ⟨hn3, hok⟩ := gq_some hok
  exact eRz S hr hlk hn3 (Option.some.inj hok) dX4_isSubscriber_14
theorem hd_X4_warmest : yX4_warmest.cls = RX4 ∧ yX4_warmest.cls ≠ "java/lang/invoke/MethodHandle" ∧ yX4_warmest.cls ≠ "java/lang/invoke/VarHandle" ∧ (parseMethodDescriptor yX4_warmest.desc).map (fun d => d.parameters.length) = some 0 := by decide +kernel
def p_X4_warmest (uH : tX1) (uC : tX0) (uT : tX0) (uI : tX2) (uM : tX3) : Option Int32 :=
  bd (p_X0_findWarmest uC uH) (fun v1 =>
  some v1)
set_option maxHeartbeats 4000000 in
set_option maxRecDepth 100000 in
theorem c_X4_warmest (l : Launch) (dC : Nat → ClassId) (dI : Nat → Nat → Nat) (cI cZ : ClassId) (n0 h0 h3 h4 h5 h6 c0 c8 c9 c10 c11 c12 c13 t0 t8 t9 t10 t11 t12 t13 i0 i1 i2 i3 i4 m0 m1 m2 : Nat) (uH : tX1) (uC : tX0) (uT : tX0) (uI : tX2) (uM : tX3) {z : Int32} (hok : p_X4_warmest uH uC uT uI uM = some z) : Met l yX4_warmest (Cond.code yX4_warmest cX4_warmest 1 (some .int) :: lw_all) { frames := 1, cells := 0, slots := 0, locals := 22 } (prR (dC, dI) vwCl (TYS cI cZ) (wN cI cZ n0 h0 h3 h4 h5 h6 c0 c8 c9 c10 c11 c12 c13 t0 t8 t9 t10 t11 t12 t13 i0 i1 i2 i3 i4 m0 m1 m2 uH uC uT uI uM) [.ref n0]) (vp_Si (fun r => r = z)) 0 0 (fun _ => False) := by
  refine oM (by decide) (Nat.le_of_ble_eq_true rfl) ?_
  intro p e s m args below meth c S hr hlk hnm hB ls hl
  have hx := S.1
  have hb := S.2.1
  have hml := S.2.2.1
  have hown : s.vm.findClass RX4 = some m.cls := S.2.2.2.1
  have hts := S.2.2.2.2
  have S : CallFix p m c cX4_warmest 1 s args lw_all RX4 := S
  have hl : lv_has ls 1 [(0, .ref n0)] := hl
  obtain ⟨hP, hK⟩ := hB
  have hP : va_P (dC, dI) vwCl (wN cI cZ n0 h0 h3 h4 h5 h6 c0 c8 c9 c10 c11 c12 c13 t0 t8 t9 t10 t11 t12 t13 i0 i1 i2 i3 i4 m0 m1 m2 uH uC uT uI uM) s.heap := hP
  unfold p_X4_warmest at hok
  refine lv_aload_n hx hb dX4_warmest_0 rfl (lv_at hl 0 rfl) ?_
  refine va_get (D := (dC, dI)) (ci := 4) (v := .ref c0) (C := RX4) (T := TX4) (N := 5) hx hb hts inX4 hown hK hP 0 rfl rfl 1 (by decide) (hts _ qf_X4_21) (fun _ h9 => h9) rfl dX4_warmest_1 ?_
  obtain ⟨v1, hc1, hok⟩ := bd_some hok
  refine cRVi (ci := 0) (q0 := 0) [] S hK (cP_CH hP) (c_X0_findWarmest l dC dI cI cZ c0 c8 c9 c10 c11 c12 c13 h0 h3 h4 h5 h6 uC uH hc1) (lw_V qm_X4_206 qi_X0_findWarmest qs_X0_findWarmest qn_X0 qc_X0_findWarmest) hd_X0_findWarmest ⟨rfl, rfl⟩ ⟨Nat.le_of_ble_eq_true rfl, Nat.le_of_ble_eq_true rfl⟩ ⟨Nat.le_of_ble_eq_true rfl, Nat.le_of_ble_eq_true rfl⟩ rfl rfl rfl hl.1 (Nat.le_of_ble_eq_true rfl) rfl dX4_warmest_4 ?_
  exact eRi S hr hlk (Option.some.inj hok) dX4_warmest_7
theorem hd_X4_mirrors : yX4_mirrors.cls = RX4 ∧ yX4_mirrors.cls ≠ "java/lang/invoke/MethodHandle" ∧ yX4_mirrors.cls ≠ "java/lang/invoke/VarHandle" ∧ (parseMethodDescriptor yX4_mirrors.desc).map (fun d => d.parameters.length) = some 0 := by decide +kernel
def p_X4_mirrors (uH : tX1) (uC : tX0) (uT : tX0) (uI : tX2) (uM : tX3) : Option Int32 :=
  some uM.1
set_option maxHeartbeats 4000000 in
set_option maxRecDepth 100000 in
theorem c_X4_mirrors (l : Launch) (dC : Nat → ClassId) (dI : Nat → Nat → Nat) (cI cZ : ClassId) (n0 h0 h3 h4 h5 h6 c0 c8 c9 c10 c11 c12 c13 t0 t8 t9 t10 t11 t12 t13 i0 i1 i2 i3 i4 m0 m1 m2 : Nat) (uH : tX1) (uC : tX0) (uT : tX0) (uI : tX2) (uM : tX3) {z : Int32} (hok : p_X4_mirrors uH uC uT uI uM = some z) : Met l yX4_mirrors (Cond.code yX4_mirrors cX4_mirrors 1 (some .int) :: lw_all) { frames := 0, cells := 0, slots := 0, locals := 0 } (prR (dC, dI) vwCl (TYS cI cZ) (wN cI cZ n0 h0 h3 h4 h5 h6 c0 c8 c9 c10 c11 c12 c13 t0 t8 t9 t10 t11 t12 t13 i0 i1 i2 i3 i4 m0 m1 m2 uH uC uT uI uM) [.ref n0]) (vp_Si (fun r => r = z)) 0 0 (fun _ => False) := by
  refine oM (by decide) (Nat.le_of_ble_eq_true rfl) ?_
  intro p e s m args below meth c S hr hlk hnm hB ls hl
  have hx := S.1
  have hb := S.2.1
  have hml := S.2.2.1
  have hown : s.vm.findClass RX4 = some m.cls := S.2.2.2.1
  have hts := S.2.2.2.2
  have S : CallFix p m c cX4_mirrors 1 s args lw_all RX4 := S
  have hl : lv_has ls 1 [(0, .ref n0)] := hl
  obtain ⟨hP, hK⟩ := hB
  have hP : va_P (dC, dI) vwCl (wN cI cZ n0 h0 h3 h4 h5 h6 c0 c8 c9 c10 c11 c12 c13 t0 t8 t9 t10 t11 t12 t13 i0 i1 i2 i3 i4 m0 m1 m2 uH uC uT uI uM) s.heap := hP
  unfold p_X4_mirrors at hok
  refine lv_aload_n hx hb dX4_mirrors_0 rfl (lv_at hl 0 rfl) ?_
  refine va_get (D := (dC, dI)) (ci := 4) (v := .ref m0) (C := RX4) (T := TX4) (N := 5) hx hb hts inX4 hown hK hP 0 rfl rfl 4 (by decide) (hts _ qf_X4_38) (fun _ h9 => h9) rfl dX4_mirrors_1 ?_
  refine va_get (D := (dC, dI)) (ci := 3) (v := .int uM.1) (C := RX3) (T := TX3) (N := 3) hx hb hts inX3 hown hK hP 25 rfl rfl 0 (by decide) (hts _ qf_X4_116) (fun _ h9 => h9) rfl dX4_mirrors_4 ?_
  exact eRi S hr hlk (Option.some.inj hok) dX4_mirrors_7
