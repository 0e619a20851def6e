theorem hd_X4_begin : yX4_begin.cls = RX4 ∧ yX4_begin.cls ≠ "java/lang/invoke/MethodHandle" ∧ yX4_begin.cls ≠ "java/lang/invoke/VarHandle" ∧ (parseMethodDescriptor yX4_begin.desc).map (fun d => d.parameters.length) = some 1 := by decide +kernel
def p_X4_begin (uH : tX1) (uC : tX0) (uT : tX0) (uI : tX2) (uM : tX3) (a1 : Int32) : Option (Int32 × tX1 × tX0 × tX2) :=
  if a1 < (2 : Int32) then
    none
  else
    if a1 ≤ (12 : Int32) then
      bd (p_X1_clear uH a1) (fun v1 =>
      bd (p_X0_startOver uC v1) (fun v2 =>
      bd (p_X0_countSubscribers v2 v1) (fun v3 =>
      some (v3, v1, v2, ((0 : Int32), uI.2)))))
    else
      none
set_option maxHeartbeats 4000000 in
set_option maxRecDepth 100000 in
theorem c_X4_begin (l : Launch) (dC : Nat → ClassId) (dI : Nat → Nat → Nat) (cI cZ : ClassId) (n0 h0 h3 h4 h5 h6 c0 c8 c9 c10 c11 c12 c13 t0 t8 t9 t10 t11 t12 t13 i0 i1 i2 i3 i4 m0 m1 m2 : Nat) (sz : Nat) (uH : tX1) (uC : tX0) (uT : tX0) (uI : tX2) (uM : tX3) (a1 : Int32) {z : (Int32 × tX1 × tX0 × tX2)} (hok : p_X4_begin uH uC uT uI uM a1 = some z) : Met l yX4_begin (Cond.code yX4_begin cX4_begin 2 (some .int) :: lw_all) { frames := 1, cells := 0, slots := 0, locals := 22 } (prW (dC, dI) vwCl (TYS cI cZ) (wN cI cZ n0 h0 h3 h4 h5 h6 c0 c8 c9 c10 c11 c12 c13 t0 t8 t9 t10 t11 t12 t13 i0 i1 i2 i3 i4 m0 m1 m2 uH uC uT uI uM) sz [.ref n0, .int a1]) (va_Qi (fun (r : Int32) (_ : Unit) => r = z.1) (fun _ t => va_P (dC, dI) vwCl (wN cI cZ n0 h0 h3 h4 h5 h6 c0 c8 c9 c10 c11 c12 c13 t0 t8 t9 t10 t11 t12 t13 i0 i1 i2 i3 i4 m0 m1 m2 z.2.1 z.2.2.1 uT z.2.2.2 uM) t.heap) (va_A (wN cI cZ n0 h0 h3 h4 h5 h6 c0 c8 c9 c10 c11 c12 c13 t0 t8 t9 t10 t11 t12 t13 i0 i1 i2 i3 i4 m0 m1 m2 uH uC uT uI uM) sz)) 0 0 (va_A (wN cI cZ n0 h0 h3 h4 h5 h6 c0 c8 c9 c10 c11 c12 c13 t0 t8 t9 t10 t11 t12 t13 i0 i1 i2 i3 i4 m0 m1 m2 uH uC uT uI uM) sz) := by
  refine oM (by decide) (Nat.le_of_ble_eq_true rfl) ?_
  intro p e s m args below meth c S hr hlk hnm hB ls hl
  have hx := S.1
  have hb := S.2.1
  have hml := S.2.2.1
  have hown : s.vm.findClass RX4 = some m.cls := S.2.2.2.1
  have hts := S.2.2.2.2
  have S : CallFix p m c cX4_begin 2 s args lw_all RX4 := S
  have hl : lv_has ls 2 [(0, .ref n0), (1, .int a1)] := hl
  obtain ⟨hsz, hP, hK, hD0⟩ := hB
  subst hsz
  have hD := hD0.self (sz := s.heap.size)
  generalize hAe : va_A (wN cI cZ n0 h0 h3 h4 h5 h6 c0 c8 c9 c10 c11 c12 c13 t0 t8 t9 t10 t11 t12 t13 i0 i1 i2 i3 i4 m0 m1 m2 uH uC uT uI uM) s.heap.size = A at hD ⊢
  have hA : ∀ q : Nat, s.heap.size ≤ q → A q := fun q h => by rw [← hAe]; exact Or.inr h
  have hS : va_S A s.heap s.heap [] := va_S.rf
  have hP : va_P (dC, dI) vwCl (wN cI cZ n0 h0 h3 h4 h5 h6 c0 c8 c9 c10 c11 c12 c13 t0 t8 t9 t10 t11 t12 t13 i0 i1 i2 i3 i4 m0 m1 m2 uH uC uT uI uM) s.heap := hP
  unfold p_X4_begin at hok
  refine lv_iload_n hx hb dX4_begin_0 rfl (lv_at hl 1 rfl) ?_
  refine lv_iconst (v := (2 : Int32)) hx hb dX4_begin_1 (by decide) ?_
  refine lv_icmp_lt (tgt := 11) hx hb dX4_begin_2 (by decide) (fun hc => ?_) (fun hc => ?_)
  · have hok := ip hok hc
    cases hok
  · have hok := iq hok hc
    refine lv_iload_n hx hb dX4_begin_5 rfl (lv_at hl 1 rfl) ?_
    refine lv_bipush (v := (12 : Int32)) hx hb dX4_begin_6 (by decide) ?_
    refine lv_icmp_le (tgt := 21) hx hb dX4_begin_8 (by decide) (fun hc => ?_) (fun hc => ?_)
    · have hok := ip hok hc
      refine lv_aload_n hx hb dX4_begin_21 rfl (lv_at hl 0 rfl) ?_
      refine va_get (D := (dC, dI)) (ci := 4) (v := .ref h0) (C := RX4) (T := TX4) (N := 5) hx hb hts inX4 hown hK hP 0 rfl rfl 0 (by decide) (hts _ qf_X4_12) (fun _ h9 => h9) rfl dX4_begin_22 ?_
      refine lv_iload_n hx hb dX4_begin_25 rfl (lv_at hl 1 rfl) ?_
      obtain ⟨v1, hc1, hok⟩ := bd_some hok
      refine cUVv (ci := 1) (q0 := 0) [.int a1] S hK (cP_H hP) (cD_H hD) hS hA (c_X1_clear l dC dI cI cZ h0 h3 h4 h5 h6 _ uH a1 hc1) (lw_V qm_X4_49 qi_X1_clear qs_X1_clear qn_X1 qc_X1_clear) hd_X1_clear ⟨rfl, rfl⟩ ⟨Nat.le_of_ble_eq_true rfl, Nat.le_of_ble_eq_true rfl⟩ ⟨Nat.le_of_ble_eq_true rfl, Nat.le_of_ble_eq_true rfl⟩ rfl rfl rfl hl.1 (Nat.le_of_ble_eq_true rfl) rfl dX4_begin_26 (fun H1 hk9 h9 => cJ_H hP hD hk9 h9) (D_N hD) (fun H locs hP hD hS => ?_)
      refine lv_aload_n hx hb dX4_begin_29 rfl (lv_at hl 0 rfl) ?_
      refine va_get (D := (dC, dI)) (ci := 4) (v := .ref c0) (C := RX4) (T := TX4) (N := 5) hx hb hts inX4 hown hK hP 0 rfl rfl 1 (by decide) (hts _ qf_X4_21) (fun _ h9 => h9) rfl dX4_begin_30 ?_
      obtain ⟨v2, hc2, hok⟩ := bd_some hok
      refine cUVv (ci := 0) (q0 := 0) [] S hK (cP_CH hP) (cD_CH hD) hS hA (c_X0_startOver l dC dI cI cZ c0 c8 c9 c10 c11 c12 c13 h0 h3 h4 h5 h6 _ uC v1 hc2) (lw_V qm_X4_53 qi_X0_startOver qs_X0_startOver qn_X0 qc_X0_startOver) hd_X0_startOver ⟨rfl, rfl⟩ ⟨Nat.le_of_ble_eq_true rfl, Nat.le_of_ble_eq_true rfl⟩ ⟨Nat.le_of_ble_eq_true rfl, Nat.le_of_ble_eq_true rfl⟩ rfl rfl rfl hl.1 (Nat.le_of_ble_eq_true rfl) rfl dX4_begin_33 (fun H1 hk9 h9 => cJ_CH hP hD hk9 h9) (D_N hD) (fun H locs hP hD hS => ?_)
      refine lv_aload_n hx hb dX4_begin_36 rfl (lv_at hl 0 rfl) ?_
      refine va_get (D := (dC, dI)) (ci := 4) (v := .ref i0) (C := RX4) (T := TX4) (N := 5) hx hb hts inX4 hown hK hP 0 rfl rfl 3 (by decide) (hts _ qf_X4_31) (fun _ h9 => h9) rfl dX4_begin_37 ?_
      refine lv_iconst (v := (0 : Int32)) hx hb dX4_begin_40 (by decide) ?_
      refine va_put (D := (dC, dI)) (ci := 2) (v := .int (0 : Int32)) (ty := .int) (C := RX2) (T := TX2) (N := 5) hx hb hts inX2 tyX2 tyX2_ok nmX2 hown hK hP hD hS 20 rfl rfl 0 (by decide) (hts _ qf_X4_56) (fun _ h9 => h9) rfl (tyX2_ok 0 (by decide)) rfl rfl (Nat.le_of_ble_eq_true rfl) dX4_begin_41 (fun H locs hP _ hS => ?_)
      have hP : va_P (dC, dI) vwCl (wN cI cZ n0 h0 h3 h4 h5 h6 c0 c8 c9 c10 c11 c12 c13 t0 t8 t9 t10 t11 t12 t13 i0 i1 i2 i3 i4 m0 m1 m2 v1 v2 uT ((0 : Int32), uI.2) uM) H := hP
      have hD : va_D A (wN cI cZ n0 h0 h3 h4 h5 h6 c0 c8 c9 c10 c11 c12 c13 t0 t8 t9 t10 t11 t12 t13 i0 i1 i2 i3 i4 m0 m1 m2 v1 v2 uT ((0 : Int32), uI.2) uM) := D_N hD
      refine lv_aload_n hx hb dX4_begin_44 rfl (lv_at hl 0 rfl) ?_
      refine va_get (D := (dC, dI)) (ci := 4) (v := .ref c0) (C := RX4) (T := TX4) (N := 5) hx hb hts inX4 hown hK hP 0 rfl rfl 1 (by decide) (hts _ qf_X4_21) (fun _ h9 => h9) rfl dX4_begin_45 ?_
      obtain ⟨v3, hc3, hok⟩ := bd_some hok
      refine cRVi (ci := 0) (q0 := 0) [] S hK (cP_CH hP) (c_X0_countSubscribers l dC dI cI cZ c0 c8 c9 c10 c11 c12 c13 h0 h3 h4 h5 h6 v2 v1 hc3) (lw_V qm_X4_60 qi_X0_countSubscribers qs_X0_countSubscribers qn_X0 qc_X0_countSubscribers) hd_X0_countSubscribers ⟨rfl, rfl⟩ ⟨Nat.le_of_ble_eq_true rfl, Nat.le_of_ble_eq_true rfl⟩ ⟨Nat.le_of_ble_eq_true rfl, Nat.le_of_ble_eq_true rfl⟩ rfl rfl rfl hl.1 (Nat.le_of_ble_eq_true rfl) rfl dX4_begin_48 ?_
      have hok := Option.some.inj hok
      subst hok
      exact eWi S hr hlk rfl hP hS (Nat.le_of_ble_eq_true rfl) (Nat.le_of_ble_eq_true rfl) dX4_begin_51
    · have hok := iq hok hc
      cases hok
theorem hd_X4_needFloor : yX4_needFloor.cls = RX4 ∧ yX4_needFloor.cls ≠ "java/lang/invoke/MethodHandle" ∧ yX4_needFloor.cls ≠ "java/lang/invoke/VarHandle" ∧ (parseMethodDescriptor yX4_needFloor.desc).map (fun d => d.parameters.length) = some 1 := by decide +kernel
def p_X4_needFloor (uH : tX1) (uC : tX0) (uT : tX0) (uI : tX2) (uM : tX3) (a1 : Int32) : Option (Unit) :=
  if a1 < 0 then
    none
  else
    if a1 < uH.1 then
      some ()
    else
      none
set_option maxHeartbeats 4000000 in
set_option maxRecDepth 100000 in
theorem c_X4_needFloor (l : Launch) (dC : Nat → ClassId) (dI : Nat → Nat → Nat) (cI cZ : ClassId) (n0 h0 h3 h4 h5 h6 c0 c8 c9 c10 c11 c12 c13 t0 t8 t9 t10 t11 t12 t13 i0 i1 i2 i3 i4 m0 m1 m2 : Nat) (uH : tX1) (uC : tX0) (uT : tX0) (uI : tX2) (uM : tX3) (a1 : Int32) {z : (Unit)} (hok : p_X4_needFloor uH uC uT uI uM a1 = some z) : Met l yX4_needFloor (Cond.code yX4_needFloor cX4_needFloor 2 none :: lw_all) { frames := 0, cells := 0, slots := 0, locals := 0 } (prR (dC, dI) vwCl (TYS cI cZ) (wN cI cZ n0 h0 h3 h4 h5 h6 c0 c8 c9 c10 c11 c12 c13 t0 t8 t9 t10 t11 t12 t13 i0 i1 i2 i3 i4 m0 m1 m2 uH uC uT uI uM) [.ref n0, .int a1]) (va_Sv (fun _ : Unit => True)) 0 0 (fun _ => False) := by
  refine oM (by decide) (Nat.le_of_ble_eq_true rfl) ?_
  intro p e s m args below meth c S hr hlk hnm hB ls hl
  have hx := S.1
  have hb := S.2.1
  have hml := S.2.2.1
  have hown : s.vm.findClass RX4 = some m.cls := S.2.2.2.1
  have hts := S.2.2.2.2
  have S : CallFix p m c cX4_needFloor 2 s args lw_all RX4 := S
  have hl : lv_has ls 2 [(0, .ref n0), (1, .int a1)] := hl
  obtain ⟨hP, hK⟩ := hB
  have hP : va_P (dC, dI) vwCl (wN cI cZ n0 h0 h3 h4 h5 h6 c0 c8 c9 c10 c11 c12 c13 t0 t8 t9 t10 t11 t12 t13 i0 i1 i2 i3 i4 m0 m1 m2 uH uC uT uI uM) s.heap := hP
  unfold p_X4_needFloor at hok
  refine lv_iload_n hx hb dX4_needFloor_0 rfl (lv_at hl 1 rfl) ?_
  refine lv_if_lt (tgt := 15) hx hb dX4_needFloor_1 (by decide) (fun hc => ?_) (fun hc => ?_)
  · have hok := ip hok hc
    cases hok
  · have hok := iq hok hc
    refine lv_iload_n hx hb dX4_needFloor_4 rfl (lv_at hl 1 rfl) ?_
    refine lv_aload_n hx hb dX4_needFloor_5 rfl (lv_at hl 0 rfl) ?_
    refine va_get (D := (dC, dI)) (ci := 4) (v := .ref h0) (C := RX4) (T := TX4) (N := 5) hx hb hts inX4 hown hK hP 0 rfl rfl 0 (by decide) (hts _ qf_X4_12) (fun _ h9 => h9) rfl dX4_needFloor_6 ?_
    refine va_get (D := (dC, dI)) (ci := 1) (v := .int uH.1) (C := RX1) (T := TX1) (N := 7) hx hb hts inX1 hown hK hP 1 rfl rfl 0 (by decide) (hts _ qf_X4_148) (fun _ h9 => h9) rfl dX4_needFloor_9 ?_
    refine lv_icmp_lt (tgt := 26) hx hb dX4_needFloor_12 (by decide) (fun hc => ?_) (fun hc => ?_)
    · have hok := ip hok hc
      exact eRv S hr hlk dX4_needFloor_26
    · have hok := iq hok hc
      cases hok
theorem hd_X4_isTopic : yX4_isTopic.cls ≠ "java/lang/invoke/MethodHandle" ∧ yX4_isTopic.cls ≠ "java/lang/invoke/VarHandle" ∧ (parseMethodDescriptor yX4_isTopic.desc).map (fun d => d.parameters.length) = some 1 := by decide +kernel
def p_X4_isTopic (a1 : Int32) : Option Int32 :=
  if a1 < 0 then
    some (0 : Int32)
  else
    if (8 : Int32) ≤ a1 then
      some (0 : Int32)
    else
      some (1 : Int32)
set_option maxHeartbeats 4000000 in
set_option maxRecDepth 100000 in
theorem c_X4_isTopic (l : Launch) (dC : Nat → ClassId) (dI : Nat → Nat → Nat) (cI cZ : ClassId) (a1 : Int32) {z : Int32} (hok : p_X4_isTopic a1 = some z) : Met l yX4_isTopic (Cond.code yX4_isTopic cX4_isTopic 1 (some .boolean) :: lw_all) { frames := 0, cells := 0, slots := 0, locals := 0 } (prR (dC, dI) vwCl (TYS cI cZ) (([] : va_W)) [.int a1]) (vp_Si (fun r => r = z)) 0 0 (fun _ => False) := by
  refine oM (by decide) (Nat.le_of_ble_eq_true rfl) ?_
  intro p e s m args below meth c S hr hlk hnm hB ls hl
  have hx := S.1
  have hb := S.2.1
  have hml := S.2.2.1
  have hown : s.vm.findClass RX4 = some m.cls := S.2.2.2.1
  have hts := S.2.2.2.2
  have S : CallFix p m c cX4_isTopic 1 s args lw_all RX4 := S
  have hl : lv_has ls 1 [(0, .int a1)] := hl
  obtain ⟨hP, hK⟩ := hB
  have hP : va_P (dC, dI) vwCl (([] : va_W)) s.heap := hP
  unfold p_X4_isTopic at hok
  refine lv_iload_n hx hb dX4_isTopic_0 rfl (lv_at hl 0 rfl) ?_
  refine lv_if_lt (tgt := 14) hx hb dX4_isTopic_1 (by decide) (fun hc => ?_) (fun hc => ?_)
  · have hok := ip hok hc
    refine lv_iconst (v := (0 : Int32)) hx hb dX4_isTopic_14 (by decide) ?_
    exact eRz S hr hlk (by decide) (Option.some.inj hok) dX4_isTopic_15
  · have hok := iq hok hc
    refine lv_iload_n hx hb dX4_isTopic_4 rfl (lv_at hl 0 rfl) ?_
    refine lv_bipush (v := (8 : Int32)) hx hb dX4_isTopic_5 (by decide) ?_
    refine lv_icmp_ge (tgt := 14) hx hb dX4_isTopic_7 (by decide) (fun hc => ?_) (fun hc => ?_)
    · have hok := ip hok hc
      refine lv_iconst (v := (0 : Int32)) hx hb dX4_isTopic_14 (by decide) ?_
      exact eRz S hr hlk (by decide) (Option.some.inj hok) dX4_isTopic_15
    · have hok := iq hok hc
      refine lv_iconst (v := (1 : Int32)) hx hb dX4_isTopic_10 (by decide) ?_
      refine lv_goto (tgt := 15) hx hb dX4_isTopic_11 (by decide) ?_
      exact eRz S hr hlk (by decide) (Option.some.inj hok) dX4_isTopic_15
theorem hd_X4_addParagraph : yX4_addParagraph.cls = RX4 ∧ yX4_addParagraph.cls ≠ "java/lang/invoke/MethodHandle" ∧ yX4_addParagraph.cls ≠ "java/lang/invoke/VarHandle" ∧ (parseMethodDescriptor yX4_addParagraph.desc).map (fun d => d.parameters.length) = some 3 := by decide +kernel
def p_X4_addParagraph (uH : tX1) (uC : tX0) (uT : tX0) (uI : tX2) (uM : tX3) (a1 : Int32) (a2 : Int32) (a3 : Int32) : Option (Int32 × tX1) :=
  bd (p_X4_needFloor uH uC uT uI uM a1) (fun v1 =>
  bd (p_X4_isTopic a2) (fun v2 =>
  if v2 = 0 then
    none
  else
    if a3 < 0 then
      none
    else
      if a3 ≤ (9 : Int32) then
        gd a1 12 (
        if (uH.2.2.2.1 a1.toNatClampNeg) < (9 : Int32) then
          bd (p_X1_append uH a1 a2 a3) (fun v4 =>
          some (v4.1, v4.2))
        else
          none)
      else
        none))
set_option maxHeartbeats 4000000 in
set_option maxRecDepth 100000 in
theorem c_X4_addParagraph (l : Launch) (dC : Nat → ClassId) (dI : Nat → Nat → Nat) (cI cZ : ClassId) (n0 h0 h3 h4 h5 h6 c0 c8 c9 c10 c11 c12 c13 t0 t8 t9 t10 t11 t12 t13 i0 i1 i2 i3 i4 m0 m1 m2 : Nat) (sz : Nat) (uH : tX1) (uC : tX0) (uT : tX0) (uI : tX2) (uM : tX3) (a1 : Int32) (a2 : Int32) (a3 : Int32) {z : (Int32 × tX1)} (hok : p_X4_addParagraph uH uC uT uI uM a1 a2 a3 = some z) : Met l yX4_addParagraph (Cond.code yX4_addParagraph cX4_addParagraph 4 (some .int) :: lw_all) { frames := 1, cells := 0, slots := 0, locals := 24 } (prW (dC, dI) vwCl (TYS cI cZ) (wN cI cZ n0 h0 h3 h4 h5 h6 c0 c8 c9 c10 c11 c12 c13 t0 t8 t9 t10 t11 t12 t13 i0 i1 i2 i3 i4 m0 m1 m2 uH uC uT uI uM) sz [.ref n0, .int a1, .int a2, .int a3]) (va_Qi (fun (r : Int32) (_ : Unit) => r = z.1) (fun _ t => va_P (dC, dI) vwCl (wN cI cZ n0 h0 h3 h4 h5 h6 c0 c8 c9 c10 c11 c12 c13 t0 t8 t9 t10 t11 t12 t13 i0 i1 i2 i3 i4 m0 m1 m2 z.2 uC uT uI uM) t.heap) (va_A (wN cI cZ n0 h0 h3 h4 h5 h6 c0 c8 c9 c10 c11 c12 c13 t0 t8 t9 t10 t11 t12 t13 i0 i1 i2 i3 i4 m0 m1 m2 uH uC uT uI uM) sz)) 0 0 (va_A (wN cI cZ n0 h0 h3 h4 h5 h6 c0 c8 c9 c10 c11 c12 c13 t0 t8 t9 t10 t11 t12 t13 i0 i1 i2 i3 i4 m0 m1 m2 uH uC uT uI uM) sz) := by
  refine oM (by decide) (Nat.le_of_ble_eq_true rfl) ?_
  intro p e s m args below meth c S hr hlk hnm hB ls hl
  have hx := S.1
  have hb := S.2.1
  have hml := S.2.2.1
  have hown : s.vm.findClass RX4 = some m.cls := S.2.2.2.1
  have hts := S.2.2.2.2
  have S : CallFix p m c cX4_addParagraph 4 s args lw_all RX4 := S
  have hl : lv_has ls 4 [(0, .ref n0), (1, .int a1), (2, .int a2), (3, .int a3)] := hl
  obtain ⟨hsz, hP, hK, hD0⟩ := hB
  subst hsz
  have hD := hD0.self (sz := s.heap.size)
  generalize hAe : va_A (wN cI cZ n0 h0 h3 h4 h5 h6 c0 c8 c9 c10 c11 c12 c13 t0 t8 t9 t10 t11 t12 t13 i0 i1 i2 i3 i4 m0 m1 m2 uH uC uT uI uM) s.heap.size = A at hD ⊢
  have hA : ∀ q : Nat, s.heap.size ≤ q → A q := fun q h => by rw [← hAe]; exact Or.inr h
  have hS : va_S A s.heap s.heap [] := va_S.rf
  have hP : va_P (dC, dI) vwCl (wN cI cZ n0 h0 h3 h4 h5 h6 c0 c8 c9 c10 c11 c12 c13 t0 t8 t9 t10 t11 t12 t13 i0 i1 i2 i3 i4 m0 m1 m2 uH uC uT uI uM) s.heap := hP
  unfold p_X4_addParagraph at hok
  refine lv_aload_n hx hb dX4_addParagraph_0 rfl (lv_at hl 0 rfl) ?_
  refine lv_iload_n hx hb dX4_addParagraph_1 rfl (lv_at hl 1 rfl) ?_
  obtain ⟨v1, hc1, hok⟩ := bd_some hok
  refine cRVv (ci := 4) (q0 := 0) [.int a1] S hK hP (c_X4_needFloor l dC dI cI cZ n0 h0 h3 h4 h5 h6 c0 c8 c9 c10 c11 c12 c13 t0 t8 t9 t10 t11 t12 t13 i0 i1 i2 i3 i4 m0 m1 m2 uH uC uT uI uM a1 hc1) (lw_V qm_X4_64 qi_X4_needFloor qs_X4_needFloor qn_X4 qc_X4_needFloor) hd_X4_needFloor ⟨rfl, rfl⟩ ⟨Nat.le_of_ble_eq_true rfl, Nat.le_of_ble_eq_true rfl⟩ ⟨Nat.le_of_ble_eq_true rfl, Nat.le_of_ble_eq_true rfl⟩ rfl rfl rfl hl.1 (Nat.le_of_ble_eq_true rfl) rfl dX4_addParagraph_2 ?_
  refine lv_iload_n hx hb dX4_addParagraph_5 rfl (lv_at hl 2 rfl) ?_
  obtain ⟨v2, hc2, hok⟩ := bd_some hok
  refine cRSi [.int a2] S hK va_Pnil (c_X4_isTopic l dC dI cI cZ a2 hc2) (lw_S qm_X4_67 qt_X4_isTopic qn_X4 qc_X4_isTopic) hd_X4_isTopic ⟨rfl, rfl⟩ ⟨Nat.le_of_ble_eq_true rfl, Nat.le_of_ble_eq_true rfl⟩ ⟨Nat.le_of_ble_eq_true rfl, Nat.le_of_ble_eq_true rfl⟩ rfl hl.1 (Nat.le_of_ble_eq_true rfl) rfl dX4_addParagraph_6 ?_
  refine lv_if_eq (tgt := 22) hx hb dX4_addParagraph_9 (by decide) (fun hc => ?_) (fun hc => ?_)
  · have hok := ip hok hc
    cases hok
  · have hok := iq hok hc
    refine lv_iload_n hx hb dX4_addParagraph_12 rfl (lv_at hl 3 rfl) ?_
    refine lv_if_lt (tgt := 22) hx hb dX4_addParagraph_13 (by decide) (fun hc => ?_) (fun hc => ?_)
    · have hok := ip hok hc
      cases hok
    · have hok := iq hok hc
      refine lv_iload_n hx hb dX4_addParagraph_16 rfl (lv_at hl 3 rfl) ?_
      refine lv_bipush (v := (9 : Int32)) hx hb dX4_addParagraph_17 (by decide) ?_
      refine lv_icmp_le (tgt := 32) hx hb dX4_addParagraph_19 (by decide) (fun hc => ?_) (fun hc => ?_)
      · have hok := ip hok hc
        refine lv_aload_n hx hb dX4_addParagraph_32 rfl (lv_at hl 0 rfl) ?_
        refine va_get (D := (dC, dI)) (ci := 4) (v := .ref h0) (C := RX4) (T := TX4) (N := 5) hx hb hts inX4 hown hK hP 0 rfl rfl 0 (by decide) (hts _ qf_X4_12) (fun _ h9 => h9) rfl dX4_addParagraph_33 ?_
        refine va_get (D := (dC, dI)) (ci := 1) (v := .ref h3) (C := RX1) (T := TX1) (N := 7) hx hb hts inX1 hown hK hP 1 rfl rfl 3 (by decide) (hts _ qf_X4_73) (fun _ h9 => h9) rfl dX4_addParagraph_36 ?_
        refine lv_iload_n hx hb dX4_addParagraph_39 rfl (lv_at hl 1 rfl) ?_
        obtain ⟨hi3, hok⟩ := gd_some hok
        refine va_iald hx hb hK hP 2 0 rfl rfl hi3 dX4_addParagraph_40 ?_
        refine lv_bipush (v := (9 : Int32)) hx hb dX4_addParagraph_41 (by decide) ?_
        refine lv_icmp_lt (tgt := 56) hx hb dX4_addParagraph_43 (by decide) (fun hc => ?_) (fun hc => ?_)
        · have hok := ip hok hc
          refine lv_aload_n hx hb dX4_addParagraph_56 rfl (lv_at hl 0 rfl) ?_
          refine va_get (D := (dC, dI)) (ci := 4) (v := .ref h0) (C := RX4) (T := TX4) (N := 5) hx hb hts inX4 hown hK hP 0 rfl rfl 0 (by decide) (hts _ qf_X4_12) (fun _ h9 => h9) rfl dX4_addParagraph_57 ?_
          refine lv_iload_n hx hb dX4_addParagraph_60 rfl (lv_at hl 1 rfl) ?_
          refine lv_iload_n hx hb dX4_addParagraph_61 rfl (lv_at hl 2 rfl) ?_
          refine lv_iload_n hx hb dX4_addParagraph_62 rfl (lv_at hl 3 rfl) ?_
          obtain ⟨v4, hc4, hok⟩ := bd_some hok
          refine cUVi (ci := 1) (q0 := 0) [.int a1, .int a2, .int a3] S hK (cP_H hP) (cD_H hD) hS hA (c_X1_append l dC dI cI cZ h0 h3 h4 h5 h6 _ uH a1 a2 a3 hc4) (lw_V qm_X4_82 qi_X1_append qs_X1_append qn_X1 qc_X1_append) hd_X1_append ⟨rfl, rfl⟩ ⟨Nat.le_of_ble_eq_true rfl, Nat.le_of_ble_eq_true rfl⟩ ⟨Nat.le_of_ble_eq_true rfl, Nat.le_of_ble_eq_true rfl⟩ rfl rfl rfl hl.1 (Nat.le_of_ble_eq_true rfl) rfl dX4_addParagraph_63 (fun H1 hk9 h9 => cJ_H hP hD hk9 h9) (D_N hD) (fun H locs hP hD hS => ?_)
          have hok := Option.some.inj hok
          subst hok
          exact eWi S hr hlk rfl hP hS (Nat.le_of_ble_eq_true rfl) (Nat.le_of_ble_eq_true rfl) dX4_addParagraph_66
        · have hok := iq hok hc
          cases hok
      · have hok := iq hok hc
        cases hok
theorem hd_X4_needTopic : yX4_needTopic.cls ≠ "java/lang/invoke/MethodHandle" ∧ yX4_needTopic.cls ≠ "java/lang/invoke/VarHandle" ∧ (parseMethodDescriptor yX4_needTopic.desc).map (fun d => d.parameters.length) = some 1 := by decide +kernel
def p_X4_needTopic (a1 : Int32) : Option (Unit) :=
  bd (p_X4_isTopic a1) (fun v1 =>
  if v1 = 0 then
    none
  else
    some ())
set_option maxHeartbeats 4000000 in
set_option maxRecDepth 100000 in
theorem c_X4_needTopic (l : Launch) (dC : Nat → ClassId) (dI : Nat → Nat → Nat) (cI cZ : ClassId) (a1 : Int32) {z : (Unit)} (hok : p_X4_needTopic a1 = some z) : Met l yX4_needTopic (Cond.code yX4_needTopic cX4_needTopic 1 none :: lw_all) { frames := 1, cells := 0, slots := 0, locals := 20 } (prR (dC, dI) vwCl (TYS cI cZ) (([] : va_W)) [.int a1]) (va_Sv (fun _ : Unit => True)) 0 0 (fun _ => False) := by
  refine oM (by decide) (Nat.le_of_ble_eq_true rfl) ?_
  intro p e s m args below meth c S hr hlk hnm hB ls hl
  have hx := S.1
  have hb := S.2.1
  have hml := S.2.2.1
  have hown : s.vm.findClass RX4 = some m.cls := S.2.2.2.1
  have hts := S.2.2.2.2
  have S : CallFix p m c cX4_needTopic 1 s args lw_all RX4 := S
  have hl : lv_has ls 1 [(0, .int a1)] := hl
  obtain ⟨hP, hK⟩ := hB
  have hP : va_P (dC, dI) vwCl (([] : va_W)) s.heap := hP
  unfold p_X4_needTopic at hok
  refine lv_iload_n hx hb dX4_needTopic_0 rfl (lv_at hl 0 rfl) ?_
  obtain ⟨v1, hc1, hok⟩ := bd_some hok
  refine cRSi [.int a1] S hK va_Pnil (c_X4_isTopic l dC dI cI cZ a1 hc1) (lw_S qm_X4_67 qt_X4_isTopic qn_X4 qc_X4_isTopic) hd_X4_isTopic ⟨rfl, rfl⟩ ⟨Nat.le_of_ble_eq_true rfl, Nat.le_of_ble_eq_true rfl⟩ ⟨Nat.le_of_ble_eq_true rfl, Nat.le_of_ble_eq_true rfl⟩ rfl hl.1 (Nat.le_of_ble_eq_true rfl) rfl dX4_needTopic_1 ?_
  refine lv_if_ne (tgt := 18) hx hb dX4_needTopic_4 (by decide) (fun hc => ?_) (fun hc => ?_)
  · have hok := iq hok hc
    exact eRv S hr hlk dX4_needTopic_18
  · have hok := ip hok hc
    cases hok
theorem hd_X4_turnTopic : yX4_turnTopic.cls = RX4 ∧ yX4_turnTopic.cls ≠ "java/lang/invoke/MethodHandle" ∧ yX4_turnTopic.cls ≠ "java/lang/invoke/VarHandle" ∧ (parseMethodDescriptor yX4_turnTopic.desc).map (fun d => d.parameters.length) = some 1 := by decide +kernel
def p_X4_turnTopic_J29 (uH : tX1) (uC : tX0) (uT : tX0) (uI : tX2) (uM : tX3) (l29_1 : Int32) (s29_0 : Int32) (s29_1 : Int32) : Option (Int32 × tX0) :=
  gd s29_1 8 (
  gd l29_1 8 (
  gq (((upd uC.2.2.2.2.2.2.2.2.2.2.1 s29_1.toNatClampNeg (vp_nar .boolean s29_0)) l29_1.toNatClampNeg) &&& 1 = ((upd uC.2.2.2.2.2.2.2.2.2.2.1 s29_1.toNatClampNeg (vp_nar .boolean s29_0)) l29_1.toNatClampNeg)) (
  some (((upd uC.2.2.2.2.2.2.2.2.2.2.1 s29_1.toNatClampNeg (vp_nar .boolean s29_0)) l29_1.toNatClampNeg), (uC.1, uC.2.1, uC.2.2.1, uC.2.2.2.1, uC.2.2.2.2.1, uC.2.2.2.2.2.1, uC.2.2.2.2.2.2.1, uC.2.2.2.2.2.2.2.1, uC.2.2.2.2.2.2.2.2.1, uC.2.2.2.2.2.2.2.2.2.1, (upd uC.2.2.2.2.2.2.2.2.2.2.1 s29_1.toNatClampNeg (vp_nar .boolean s29_0)), uC.2.2.2.2.2.2.2.2.2.2.2)))))
def p_X4_turnTopic (uH : tX1) (uC : tX0) (uT : tX0) (uI : tX2) (uM : tX3) (a1 : Int32) : Option (Int32 × tX0) :=
  bd (p_X4_needTopic a1) (fun v1 =>
  gd a1 8 (
  if (uC.2.2.2.2.2.2.2.2.2.2.1 a1.toNatClampNeg) = 0 then
    p_X4_turnTopic_J29 uH uC uT uI uM a1 (1 : Int32) a1
  else
    p_X4_turnTopic_J29 uH uC uT uI uM a1 (0 : Int32) a1))
set_option maxHeartbeats 4000000 in
set_option maxRecDepth 100000 in
theorem c_X4_turnTopic (l : Launch) (dC : Nat → ClassId) (dI : Nat → Nat → Nat) (cI cZ : ClassId) (n0 h0 h3 h4 h5 h6 c0 c8 c9 c10 c11 c12 c13 t0 t8 t9 t10 t11 t12 t13 i0 i1 i2 i3 i4 m0 m1 m2 : Nat) (sz : Nat) (uH : tX1) (uC : tX0) (uT : tX0) (uI : tX2) (uM : tX3) (a1 : Int32) {z : (Int32 × tX0)} (hok : p_X4_turnTopic uH uC uT uI uM a1 = some z) : Met l yX4_turnTopic (Cond.code yX4_turnTopic cX4_turnTopic 2 (some .boolean) :: lw_all) { frames := 2, cells := 0, slots := 0, locals := 40 } (prW (dC, dI) vwCl (TYS cI cZ) (wN cI cZ n0 h0 h3 h4 h5 h6 c0 c8 c9 c10 c11 c12 c13 t0 t8 t9 t10 t11 t12 t13 i0 i1 i2 i3 i4 m0 m1 m2 uH uC uT uI uM) sz [.ref n0, .int a1]) (va_Qi (fun (r : Int32) (_ : Unit) => r = z.1) (fun _ t => va_P (dC, dI) vwCl (wN cI cZ n0 h0 h3 h4 h5 h6 c0 c8 c9 c10 c11 c12 c13 t0 t8 t9 t10 t11 t12 t13 i0 i1 i2 i3 i4 m0 m1 m2 uH z.2 uT uI uM) t.heap) (va_A (wN cI cZ n0 h0 h3 h4 h5 h6 c0 c8 c9 c10 c11 c12 c13 t0 t8 t9 t10 t11 t12 t13 i0 i1 i2 i3 i4 m0 m1 m2 uH uC uT uI uM) sz)) 0 0 (va_A (wN cI cZ n0 h0 h3 h4 h5 h6 c0 c8 c9 c10 c11 c12 c13 t0 t8 t9 t10 t11 t12 t13 i0 i1 i2 i3 i4 m0 m1 m2 uH uC uT uI uM) sz) := by
  refine oM (by decide) (Nat.le_of_ble_eq_true rfl) ?_
  intro p e s m args below meth c S hr hlk hnm hB ls hl
  have hx := S.1
  have hb := S.2.1
  have hml := S.2.2.1
  have hown : s.vm.findClass RX4 = some m.cls := S.2.2.2.1
  have hts := S.2.2.2.2
  have S : CallFix p m c cX4_turnTopic 2 s args lw_all RX4 := S
  have hl : lv_has ls 2 [(0, .ref n0), (1, .int a1)] := hl
  obtain ⟨hsz, hP, hK, hD0⟩ := hB
  subst hsz
  have hD := hD0.self (sz := s.heap.size)
  generalize hAe : va_A (wN cI cZ n0 h0 h3 h4 h5 h6 c0 c8 c9 c10 c11 c12 c13 t0 t8 t9 t10 t11 t12 t13 i0 i1 i2 i3 i4 m0 m1 m2 uH uC uT uI uM) s.heap.size = A at hD ⊢
  have hA : ∀ q : Nat, s.heap.size ≤ q → A q := fun q h => by rw [← hAe]; exact Or.inr h
  have hS : va_S A s.heap s.heap [] := va_S.rf
  have hP : va_P (dC, dI) vwCl (wN cI cZ n0 h0 h3 h4 h5 h6 c0 c8 c9 c10 c11 c12 c13 t0 t8 t9 t10 t11 t12 t13 i0 i1 i2 i3 i4 m0 m1 m2 uH uC uT uI uM) s.heap := hP
  have J29 : ∀ (uC : tX0) (l29_1 : Int32) (s29_0 : Int32) (s29_1 : Int32) (H : Heap) (locs : List Loc) (hP : va_P (dC, dI) vwCl (wN cI cZ n0 h0 h3 h4 h5 h6 c0 c8 c9 c10 c11 c12 c13 t0 t8 t9 t10 t11 t12 t13 i0 i1 i2 i3 i4 m0 m1 m2 uH uC uT uI uM) H) (hD : va_D A (wN cI cZ n0 h0 h3 h4 h5 h6 c0 c8 c9 c10 c11 c12 c13 t0 t8 t9 t10 t11 t12 t13 i0 i1 i2 i3 i4 m0 m1 m2 uH uC uT uI uM)) (hS : va_S A s.heap H locs) (ls : Array Slot) (hl : lv_has ls 2 [(0, .ref n0), (1, .int l29_1)]) (hok : p_X4_turnTopic_J29 uH uC uT uI uM l29_1 s29_0 s29_1 = some z), W p l e { frames := 2, cells := 0, slots := 0, locals := 40 } s m args below meth c H locs 0 0 (MQ below (va_Qi (fun (r : Int32) (_ : Unit) => r = z.1) (fun _ t => va_P (dC, dI) vwCl (wN cI cZ n0 h0 h3 h4 h5 h6 c0 c8 c9 c10 c11 c12 c13 t0 t8 t9 t10 t11 t12 t13 i0 i1 i2 i3 i4 m0 m1 m2 uH z.2 uT uI uM) t.heap) A) args s 0 0 A) (F0 m 29 ls [.int s29_0, .int s29_1, .ref c11]) := by
    intro uC l29_1 s29_0 s29_1 H locs hP hD hS ls hl hok
    unfold p_X4_turnTopic_J29 at hok
    obtain ⟨hi3, hok⟩ := gd_some hok
    refine va_zast hx hb hK hP hD hS 10 1 rfl rfl hi3 dX4_turnTopic_29 (fun H locs hP _ hS => ?_)
    have hP : va_P (dC, dI) vwCl (wN cI cZ n0 h0 h3 h4 h5 h6 c0 c8 c9 c10 c11 c12 c13 t0 t8 t9 t10 t11 t12 t13 i0 i1 i2 i3 i4 m0 m1 m2 uH (uC.1, uC.2.1, uC.2.2.1, uC.2.2.2.1, uC.2.2.2.2.1, uC.2.2.2.2.2.1, uC.2.2.2.2.2.2.1, uC.2.2.2.2.2.2.2.1, uC.2.2.2.2.2.2.2.2.1, uC.2.2.2.2.2.2.2.2.2.1, (upd uC.2.2.2.2.2.2.2.2.2.2.1 s29_1.toNatClampNeg (vp_nar .boolean s29_0)), uC.2.2.2.2.2.2.2.2.2.2.2) uT uI uM) H := hP
    have hD : va_D A (wN cI cZ n0 h0 h3 h4 h5 h6 c0 c8 c9 c10 c11 c12 c13 t0 t8 t9 t10 t11 t12 t13 i0 i1 i2 i3 i4 m0 m1 m2 uH (uC.1, uC.2.1, uC.2.2.1, uC.2.2.2.1, uC.2.2.2.2.1, uC.2.2.2.2.2.1, uC.2.2.2.2.2.2.1, uC.2.2.2.2.2.2.2.1, uC.2.2.2.2.2.2.2.2.1, uC.2.2.2.2.2.2.2.2.2.1, (upd uC.2.2.2.2.2.2.2.2.2.2.1 s29_1.toNatClampNeg (vp_nar .boolean s29_0)), uC.2.2.2.2.2.2.2.2.2.2.2) uT uI uM) := D_N hD
    refine lv_aload_n hx hb dX4_turnTopic_30 rfl (lv_at hl 0 rfl) ?_
    refine va_get (D := (dC, dI)) (ci := 4) (v := .ref c0) (C := RX4) (T := TX4) (N := 5) hx hb hts inX4 hown hK hP 0 rfl rfl 1 (by decide) (hts _ qf_X4_21) (fun _ h9 => h9) rfl dX4_turnTopic_31 ?_
    refine va_get (D := (dC, dI)) (ci := 0) (v := .ref c11) (C := RX0) (T := TX0) (N := 14) hx hb hts inX0 hown hK hP 6 rfl rfl 11 (by decide) (hts _ qf_X4_89) (fun _ h9 => h9) rfl dX4_turnTopic_34 ?_
    refine lv_iload_n hx hb dX4_turnTopic_37 rfl (lv_at hl 1 rfl) ?_
    obtain ⟨hi4, hok⟩ := gd_some hok
    refine va_zald hx hb hK hP 10 1 rfl rfl hi4 dX4_turnTopic_38 ?_
    obtain ⟨hn5, hok⟩ := gq_some hok
    have hok := Option.some.inj hok
    subst hok
    exact eWz S hr hlk hn5 rfl hP hS (Nat.le_of_ble_eq_true rfl) (Nat.le_of_ble_eq_true rfl) dX4_turnTopic_39
  unfold p_X4_turnTopic at hok
  refine lv_iload_n hx hb dX4_turnTopic_0 rfl (lv_at hl 1 rfl) ?_
  obtain ⟨v1, hc1, hok⟩ := bd_some hok
  refine cRSv [.int a1] S hK va_Pnil (c_X4_needTopic l dC dI cI cZ a1 hc1) (lw_S qm_X4_86 qt_X4_needTopic qn_X4 qc_X4_needTopic) hd_X4_needTopic ⟨rfl, rfl⟩ ⟨Nat.le_of_ble_eq_true rfl, Nat.le_of_ble_eq_true rfl⟩ ⟨Nat.le_of_ble_eq_true rfl, Nat.le_of_ble_eq_true rfl⟩ rfl hl.1 (Nat.le_of_ble_eq_true rfl) rfl dX4_turnTopic_1 ?_
  refine lv_aload_n hx hb dX4_turnTopic_4 rfl (lv_at hl 0 rfl) ?_
  refine va_get (D := (dC, dI)) (ci := 4) (v := .ref c0) (C := RX4) (T := TX4) (N := 5) hx hb hts inX4 hown hK hP 0 rfl rfl 1 (by decide) (hts _ qf_X4_21) (fun _ h9 => h9) rfl dX4_turnTopic_5 ?_
  refine va_get (D := (dC, dI)) (ci := 0) (v := .ref c11) (C := RX0) (T := TX0) (N := 14) hx hb hts inX0 hown hK hP 6 rfl rfl 11 (by decide) (hts _ qf_X4_89) (fun _ h9 => h9) rfl dX4_turnTopic_8 ?_
  refine lv_iload_n hx hb dX4_turnTopic_11 rfl (lv_at hl 1 rfl) ?_
  refine lv_aload_n hx hb dX4_turnTopic_12 rfl (lv_at hl 0 rfl) ?_
  refine va_get (D := (dC, dI)) (ci := 4) (v := .ref c0) (C := RX4) (T := TX4) (N := 5) hx hb hts inX4 hown hK hP 0 rfl rfl 1 (by decide) (hts _ qf_X4_21) (fun _ h9 => h9) rfl dX4_turnTopic_13 ?_
  refine va_get (D := (dC, dI)) (ci := 0) (v := .ref c11) (C := RX0) (T := TX0) (N := 14) hx hb hts inX0 hown hK hP 6 rfl rfl 11 (by decide) (hts _ qf_X4_89) (fun _ h9 => h9) rfl dX4_turnTopic_16 ?_
  refine lv_iload_n hx hb dX4_turnTopic_19 rfl (lv_at hl 1 rfl) ?_
  obtain ⟨hi2, hok⟩ := gd_some hok
  refine va_zald hx hb hK hP 10 1 rfl rfl hi2 dX4_turnTopic_20 ?_
  refine lv_if_ne (tgt := 28) hx hb dX4_turnTopic_21 (by decide) (fun hc => ?_) (fun hc => ?_)
  · have hok := iq hok hc
    refine lv_iconst (v := (0 : Int32)) hx hb dX4_turnTopic_28 (by decide) ?_
    exact J29 uC a1 (0 : Int32) a1 _ _ hP hD hS _ hl hok
  · have hok := ip hok hc
    refine lv_iconst (v := (1 : Int32)) hx hb dX4_turnTopic_24 (by decide) ?_
    refine lv_goto (tgt := 29) hx hb dX4_turnTopic_25 (by decide) ?_
    exact J29 uC a1 (1 : Int32) a1 _ _ hP hD hS _ hl hok
theorem hd_X4_setLimit : yX4_setLimit.cls = RX4 ∧ yX4_setLimit.cls ≠ "java/lang/invoke/MethodHandle" ∧ yX4_setLimit.cls ≠ "java/lang/invoke/VarHandle" ∧ (parseMethodDescriptor yX4_setLimit.desc).map (fun d => d.parameters.length) = some 1 := by decide +kernel
def p_X4_setLimit (uH : tX1) (uC : tX0) (uT : tX0) (uI : tX2) (uM : tX3) (a1 : Int32) : Option (Int32 × tX1) :=
  if a1 < (1 : Int32) then
    none
  else
    if a1 ≤ (99 : Int32) then
      some (uH.2.1, (uH.1, a1, uH.2.2))
    else
      none
set_option maxHeartbeats 4000000 in
set_option maxRecDepth 100000 in
theorem c_X4_setLimit (l : Launch) (dC : Nat → ClassId) (dI : Nat → Nat → Nat) (cI cZ : ClassId) (n0 h0 h3 h4 h5 h6 c0 c8 c9 c10 c11 c12 c13 t0 t8 t9 t10 t11 t12 t13 i0 i1 i2 i3 i4 m0 m1 m2 : Nat) (sz : Nat) (uH : tX1) (uC : tX0) (uT : tX0) (uI : tX2) (uM : tX3) (a1 : Int32) {z : (Int32 × tX1)} (hok : p_X4_setLimit uH uC uT uI uM a1 = some z) : Met l yX4_setLimit (Cond.code yX4_setLimit cX4_setLimit 3 (some .int) :: lw_all) { frames := 0, cells := 0, slots := 0, locals := 0 } (prW (dC, dI) vwCl (TYS cI cZ) (wN cI cZ n0 h0 h3 h4 h5 h6 c0 c8 c9 c10 c11 c12 c13 t0 t8 t9 t10 t11 t12 t13 i0 i1 i2 i3 i4 m0 m1 m2 uH uC uT uI uM) sz [.ref n0, .int a1]) (va_Qi (fun (r : Int32) (_ : Unit) => r = z.1) (fun _ t => va_P (dC, dI) vwCl (wN cI cZ n0 h0 h3 h4 h5 h6 c0 c8 c9 c10 c11 c12 c13 t0 t8 t9 t10 t11 t12 t13 i0 i1 i2 i3 i4 m0 m1 m2 z.2 uC uT uI uM) t.heap) (va_A (wN cI cZ n0 h0 h3 h4 h5 h6 c0 c8 c9 c10 c11 c12 c13 t0 t8 t9 t10 t11 t12 t13 i0 i1 i2 i3 i4 m0 m1 m2 uH uC uT uI uM) sz)) 0 0 (va_A (wN cI cZ n0 h0 h3 h4 h5 h6 c0 c8 c9 c10 c11 c12 c13 t0 t8 t9 t10 t11 t12 t13 i0 i1 i2 i3 i4 m0 m1 m2 uH uC uT uI uM) sz) := by
  refine oM (by decide) (Nat.le_of_ble_eq_true rfl) ?_
  intro p e s m args below meth c S hr hlk hnm hB ls hl
  have hx := S.1
  have hb := S.2.1
  have hml := S.2.2.1
  have hown : s.vm.findClass RX4 = some m.cls := S.2.2.2.1
  have hts := S.2.2.2.2
  have S : CallFix p m c cX4_setLimit 3 s args lw_all RX4 := S
  have hl : lv_has ls 3 [(0, .ref n0), (1, .int a1)] := hl
  obtain ⟨hsz, hP, hK, hD0⟩ := hB
  subst hsz
  have hD := hD0.self (sz := s.heap.size)
  generalize hAe : va_A (wN cI cZ n0 h0 h3 h4 h5 h6 c0 c8 c9 c10 c11 c12 c13 t0 t8 t9 t10 t11 t12 t13 i0 i1 i2 i3 i4 m0 m1 m2 uH uC uT uI uM) s.heap.size = A at hD ⊢
  have hA : ∀ q : Nat, s.heap.size ≤ q → A q := fun q h => by rw [← hAe]; exact Or.inr h
  have hS : va_S A s.heap s.heap [] := va_S.rf
  have hP : va_P (dC, dI) vwCl (wN cI cZ n0 h0 h3 h4 h5 h6 c0 c8 c9 c10 c11 c12 c13 t0 t8 t9 t10 t11 t12 t13 i0 i1 i2 i3 i4 m0 m1 m2 uH uC uT uI uM) s.heap := hP
  unfold p_X4_setLimit at hok
  refine lv_iload_n hx hb dX4_setLimit_0 rfl (lv_at hl 1 rfl) ?_
  refine lv_iconst (v := (1 : Int32)) hx hb dX4_setLimit_1 (by decide) ?_
  refine lv_icmp_lt (tgt := 11) hx hb dX4_setLimit_2 (by decide) (fun hc => ?_) (fun hc => ?_)
  · have hok := ip hok hc
    cases hok
  · have hok := iq hok hc
    refine lv_iload_n hx hb dX4_setLimit_5 rfl (lv_at hl 1 rfl) ?_
    refine lv_bipush (v := (99 : Int32)) hx hb dX4_setLimit_6 (by decide) ?_
    refine lv_icmp_le (tgt := 21) hx hb dX4_setLimit_8 (by decide) (fun hc => ?_) (fun hc => ?_)
    · have hok := ip hok hc
      refine lv_aload_n hx hb dX4_setLimit_21 rfl (lv_at hl 0 rfl) ?_
      refine va_get (D := (dC, dI)) (ci := 4) (v := .ref h0) (C := RX4) (T := TX4) (N := 5) hx hb hts inX4 hown hK hP 0 rfl rfl 0 (by decide) (hts _ qf_X4_12) (fun _ h9 => h9) rfl dX4_setLimit_22 ?_
      refine va_get (D := (dC, dI)) (ci := 1) (v := .int uH.2.1) (C := RX1) (T := TX1) (N := 7) hx hb hts inX1 hown hK hP 1 rfl rfl 1 (by decide) (hts _ qf_X4_95) (fun _ h9 => h9) rfl dX4_setLimit_25 ?_
      refine lv_istore_n (lv' := [(2, .int uH.2.1), (0, .ref n0), (1, .int a1)]) hx hb dX4_setLimit_28 rfl hl (by decide) rfl (fun ls hl => ?_)
      refine lv_aload_n hx hb dX4_setLimit_29 rfl (lv_at hl 1 rfl) ?_
      refine va_get (D := (dC, dI)) (ci := 4) (v := .ref h0) (C := RX4) (T := TX4) (N := 5) hx hb hts inX4 hown hK hP 0 rfl rfl 0 (by decide) (hts _ qf_X4_12) (fun _ h9 => h9) rfl dX4_setLimit_30 ?_
      refine lv_iload_n hx hb dX4_setLimit_33 rfl (lv_at hl 2 rfl) ?_
      refine va_put (D := (dC, dI)) (ci := 1) (v := .int a1) (ty := .int) (C := RX1) (T := TX1) (N := 7) hx hb hts inX1 tyX1 tyX1_ok nmX1 hown hK hP hD hS 1 rfl rfl 1 (by decide) (hts _ qf_X4_95) (fun _ h9 => h9) rfl (tyX1_ok 1 (by decide)) rfl rfl (Nat.le_of_ble_eq_true rfl) dX4_setLimit_34 (fun H locs hP _ hS => ?_)
      have hP : va_P (dC, dI) vwCl (wN cI cZ n0 h0 h3 h4 h5 h6 c0 c8 c9 c10 c11 c12 c13 t0 t8 t9 t10 t11 t12 t13 i0 i1 i2 i3 i4 m0 m1 m2 (uH.1, a1, uH.2.2) uC uT uI uM) H := hP
      have hD : va_D A (wN cI cZ n0 h0 h3 h4 h5 h6 c0 c8 c9 c10 c11 c12 c13 t0 t8 t9 t10 t11 t12 t13 i0 i1 i2 i3 i4 m0 m1 m2 (uH.1, a1, uH.2.2) uC uT uI uM) := D_N hD
      refine lv_iload_n hx hb dX4_setLimit_37 rfl (lv_at hl 0 rfl) ?_
      have hok := Option.some.inj hok
      subst hok
      exact eWi S hr hlk rfl hP hS (Nat.le_of_ble_eq_true rfl) (Nat.le_of_ble_eq_true rfl) dX4_setLimit_38
    · have hok := iq hok hc
      cases hok
theorem hd_X4_addReader : yX4_addReader.cls = RX4 ∧ yX4_addReader.cls ≠ "java/lang/invoke/MethodHandle" ∧ yX4_addReader.cls ≠ "java/lang/invoke/VarHandle" ∧ (parseMethodDescriptor yX4_addReader.desc).map (fun d => d.parameters.length) = some 2 := by decide +kernel
def p_X4_addReader (uH : tX1) (uC : tX0) (uT : tX0) (uI : tX2) (uM : tX3) (a1 : Int32) (a2 : Int32) : Option (Int32 × tX1 × tX0) :=
  bd (p_X4_isTopic a1) (fun v1 =>
  if v1 = 0 then
    none
  else
    if a2 < (1 : Int32) then
      none
    else
      if a2 ≤ (20 : Int32) then
        if uH.2.2.1 < (8 : Int32) then
          gd uH.2.2.1 8 (
          some (uH.2.2.1, (uH.1, uH.2.1, (uH.2.2.1 + (1 : Int32)), uH.2.2.2.1, uH.2.2.2.2.1, uH.2.2.2.2.2.1, (upd uH.2.2.2.2.2.2 uH.2.2.1.toNatClampNeg a1)), (uC.1, uC.2.1, uC.2.2.1, uC.2.2.2.1, uC.2.2.2.2.1, uC.2.2.2.2.2.1, uC.2.2.2.2.2.2.1, uC.2.2.2.2.2.2.2.1, uC.2.2.2.2.2.2.2.2.1, uC.2.2.2.2.2.2.2.2.2.1, uC.2.2.2.2.2.2.2.2.2.2.1, (upd uC.2.2.2.2.2.2.2.2.2.2.2.1 uH.2.2.1.toNatClampNeg a2), (upd uC.2.2.2.2.2.2.2.2.2.2.2.2 uH.2.2.1.toNatClampNeg (vp_nar .boolean (1 : Int32))))))
        else
          none
      else
        none)
set_option maxHeartbeats 4000000 in
set_option maxRecDepth 100000 in
theorem c_X4_addReader (l : Launch) (dC : Nat → ClassId) (dI : Nat → Nat → Nat) (cI cZ : ClassId) (n0 h0 h3 h4 h5 h6 c0 c8 c9 c10 c11 c12 c13 t0 t8 t9 t10 t11 t12 t13 i0 i1 i2 i3 i4 m0 m1 m2 : Nat) (sz : Nat) (uH : tX1) (uC : tX0) (uT : tX0) (uI : tX2) (uM : tX3) (a1 : Int32) (a2 : Int32) {z : (Int32 × tX1 × tX0)} (hok : p_X4_addReader uH uC uT uI uM a1 a2 = some z) : Met l yX4_addReader (Cond.code yX4_addReader cX4_addReader 4 (some .int) :: lw_all) { frames := 1, cells := 0, slots := 0, locals := 20 } (prW (dC, dI) vwCl (TYS cI cZ) (wN cI cZ n0 h0 h3 h4 h5 h6 c0 c8 c9 c10 c11 c12 c13 t0 t8 t9 t10 t11 t12 t13 i0 i1 i2 i3 i4 m0 m1 m2 uH uC uT uI uM) sz [.ref n0, .int a1, .int a2]) (va_Qi (fun (r : Int32) (_ : Unit) => r = z.1) (fun _ t => va_P (dC, dI) vwCl (wN cI cZ n0 h0 h3 h4 h5 h6 c0 c8 c9 c10 c11 c12 c13 t0 t8 t9 t10 t11 t12 t13 i0 i1 i2 i3 i4 m0 m1 m2 z.2.1 z.2.2 uT uI uM) t.heap) (va_A (wN cI cZ n0 h0 h3 h4 h5 h6 c0 c8 c9 c10 c11 c12 c13 t0 t8 t9 t10 t11 t12 t13 i0 i1 i2 i3 i4 m0 m1 m2 uH uC uT uI uM) sz)) 0 0 (va_A (wN cI cZ n0 h0 h3 h4 h5 h6 c0 c8 c9 c10 c11 c12 c13 t0 t8 t9 t10 t11 t12 t13 i0 i1 i2 i3 i4 m0 m1 m2 uH uC uT uI uM) sz) := by
  refine oM (by decide) (Nat.le_of_ble_eq_true rfl) ?_
  intro p e s m args below meth c S hr hlk hnm hB ls hl
  have hx := S.1
  have hb := S.2.1
  have hml := S.2.2.1
  have hown : s.vm.findClass RX4 = some m.cls := S.2.2.2.1
  have hts := S.2.2.2.2
  have S : CallFix p m c cX4_addReader 4 s args lw_all RX4 := S
  have hl : lv_has ls 4 [(0, .ref n0), (1, .int a1), (2, .int a2)] := hl
  obtain ⟨hsz, hP, hK, hD0⟩ := hB
  subst hsz
  have hD := hD0.self (sz := s.heap.size)
  generalize hAe : va_A (wN cI cZ n0 h0 h3 h4 h5 h6 c0 c8 c9 c10 c11 c12 c13 t0 t8 t9 t10 t11 t12 t13 i0 i1 i2 i3 i4 m0 m1 m2 uH uC uT uI uM) s.heap.size = A at hD ⊢
  have hA : ∀ q : Nat, s.heap.size ≤ q → A q := fun q h => by rw [← hAe]; exact Or.inr h
  have hS : va_S A s.heap s.heap [] := va_S.rf
  have hP : va_P (dC, dI) vwCl (wN cI cZ n0 h0 h3 h4 h5 h6 c0 c8 c9 c10 c11 c12 c13 t0 t8 t9 t10 t11 t12 t13 i0 i1 i2 i3 i4 m0 m1 m2 uH uC uT uI uM) s.heap := hP
  unfold p_X4_addReader at hok
  refine lv_iload_n hx hb dX4_addReader_0 rfl (lv_at hl 1 rfl) ?_
  obtain ⟨v1, hc1, hok⟩ := bd_some hok
  refine cRSi [.int a1] S hK va_Pnil (c_X4_isTopic l dC dI cI cZ a1 hc1) (lw_S qm_X4_67 qt_X4_isTopic qn_X4 qc_X4_isTopic) hd_X4_isTopic ⟨rfl, rfl⟩ ⟨Nat.le_of_ble_eq_true rfl, Nat.le_of_ble_eq_true rfl⟩ ⟨Nat.le_of_ble_eq_true rfl, Nat.le_of_ble_eq_true rfl⟩ rfl hl.1 (Nat.le_of_ble_eq_true rfl) rfl dX4_addReader_1 ?_
  refine lv_if_eq (tgt := 18) hx hb dX4_addReader_4 (by decide) (fun hc => ?_) (fun hc => ?_)
  · have hok := ip hok hc
    cases hok
  · have hok := iq hok hc
    refine lv_iload_n hx hb dX4_addReader_7 rfl (lv_at hl 2 rfl) ?_
    refine lv_iconst (v := (1 : Int32)) hx hb dX4_addReader_8 (by decide) ?_
    refine lv_icmp_lt (tgt := 18) hx hb dX4_addReader_9 (by decide) (fun hc => ?_) (fun hc => ?_)
    · have hok := ip hok hc
      cases hok
    · have hok := iq hok hc
      refine lv_iload_n hx hb dX4_addReader_12 rfl (lv_at hl 2 rfl) ?_
      refine lv_bipush (v := (20 : Int32)) hx hb dX4_addReader_13 (by decide) ?_
      refine lv_icmp_le (tgt := 28) hx hb dX4_addReader_15 (by decide) (fun hc => ?_) (fun hc => ?_)
      · have hok := ip hok hc
        refine lv_aload_n hx hb dX4_addReader_28 rfl (lv_at hl 0 rfl) ?_
        refine va_get (D := (dC, dI)) (ci := 4) (v := .ref h0) (C := RX4) (T := TX4) (N := 5) hx hb hts inX4 hown hK hP 0 rfl rfl 0 (by decide) (hts _ qf_X4_12) (fun _ h9 => h9) rfl dX4_addReader_29 ?_
        refine va_get (D := (dC, dI)) (ci := 1) (v := .int uH.2.2.1) (C := RX1) (T := TX1) (N := 7) hx hb hts inX1 hown hK hP 1 rfl rfl 2 (by decide) (hts _ qf_X4_100) (fun _ h9 => h9) rfl dX4_addReader_32 ?_
        refine lv_bipush (v := (8 : Int32)) hx hb dX4_addReader_35 (by decide) ?_
        refine lv_icmp_lt (tgt := 50) hx hb dX4_addReader_37 (by decide) (fun hc => ?_) (fun hc => ?_)
        · have hok := ip hok hc
          refine lv_aload_n hx hb dX4_addReader_50 rfl (lv_at hl 0 rfl) ?_
          refine va_get (D := (dC, dI)) (ci := 4) (v := .ref h0) (C := RX4) (T := TX4) (N := 5) hx hb hts inX4 hown hK hP 0 rfl rfl 0 (by decide) (hts _ qf_X4_12) (fun _ h9 => h9) rfl dX4_addReader_51 ?_
          refine va_get (D := (dC, dI)) (ci := 1) (v := .int uH.2.2.1) (C := RX1) (T := TX1) (N := 7) hx hb hts inX1 hown hK hP 1 rfl rfl 2 (by decide) (hts _ qf_X4_100) (fun _ h9 => h9) rfl dX4_addReader_54 ?_
          refine lv_istore_n (lv' := [(3, .int uH.2.2.1), (0, .ref n0), (1, .int a1), (2, .int a2)]) hx hb dX4_addReader_57 rfl hl (by decide) rfl (fun ls hl => ?_)
          refine lv_aload_n hx hb dX4_addReader_58 rfl (lv_at hl 1 rfl) ?_
          refine va_get (D := (dC, dI)) (ci := 4) (v := .ref h0) (C := RX4) (T := TX4) (N := 5) hx hb hts inX4 hown hK hP 0 rfl rfl 0 (by decide) (hts _ qf_X4_12) (fun _ h9 => h9) rfl dX4_addReader_59 ?_
          refine va_get (D := (dC, dI)) (ci := 1) (v := .ref h6) (C := RX1) (T := TX1) (N := 7) hx hb hts inX1 hown hK hP 1 rfl rfl 6 (by decide) (hts _ qf_X4_105) (fun _ h9 => h9) rfl dX4_addReader_62 ?_
          refine lv_iload_n hx hb dX4_addReader_65 rfl (lv_at hl 0 rfl) ?_
          refine lv_iload_n hx hb dX4_addReader_66 rfl (lv_at hl 2 rfl) ?_
          obtain ⟨hi2, hok⟩ := gd_some hok
          refine va_iast hx hb hK hP hD hS 5 0 rfl rfl hi2 dX4_addReader_67 (fun H locs hP _ hS => ?_)
          have hP : va_P (dC, dI) vwCl (wN cI cZ n0 h0 h3 h4 h5 h6 c0 c8 c9 c10 c11 c12 c13 t0 t8 t9 t10 t11 t12 t13 i0 i1 i2 i3 i4 m0 m1 m2 (uH.1, uH.2.1, uH.2.2.1, uH.2.2.2.1, uH.2.2.2.2.1, uH.2.2.2.2.2.1, (upd uH.2.2.2.2.2.2 uH.2.2.1.toNatClampNeg a1)) uC uT uI uM) H := hP
          have hD : va_D A (wN cI cZ n0 h0 h3 h4 h5 h6 c0 c8 c9 c10 c11 c12 c13 t0 t8 t9 t10 t11 t12 t13 i0 i1 i2 i3 i4 m0 m1 m2 (uH.1, uH.2.1, uH.2.2.1, uH.2.2.2.1, uH.2.2.2.2.1, uH.2.2.2.2.2.1, (upd uH.2.2.2.2.2.2 uH.2.2.1.toNatClampNeg a1)) uC uT uI uM) := D_N hD
          refine lv_aload_n hx hb dX4_addReader_68 rfl (lv_at hl 1 rfl) ?_
          refine va_get (D := (dC, dI)) (ci := 4) (v := .ref h0) (C := RX4) (T := TX4) (N := 5) hx hb hts inX4 hown hK hP 0 rfl rfl 0 (by decide) (hts _ qf_X4_12) (fun _ h9 => h9) rfl dX4_addReader_69 ?_
          refine lv_iload_n hx hb dX4_addReader_72 rfl (lv_at hl 0 rfl) ?_
          refine lv_iconst (v := (1 : Int32)) hx hb dX4_addReader_73 (by decide) ?_
          refine lv_iadd hx hb dX4_addReader_74 ?_
          refine va_put (D := (dC, dI)) (ci := 1) (v := .int (uH.2.2.1 + (1 : Int32))) (ty := .int) (C := RX1) (T := TX1) (N := 7) hx hb hts inX1 tyX1 tyX1_ok nmX1 hown hK hP hD hS 1 rfl rfl 2 (by decide) (hts _ qf_X4_100) (fun _ h9 => h9) rfl (tyX1_ok 2 (by decide)) rfl rfl (Nat.le_of_ble_eq_true rfl) dX4_addReader_75 (fun H locs hP _ hS => ?_)
          have hP : va_P (dC, dI) vwCl (wN cI cZ n0 h0 h3 h4 h5 h6 c0 c8 c9 c10 c11 c12 c13 t0 t8 t9 t10 t11 t12 t13 i0 i1 i2 i3 i4 m0 m1 m2 (uH.1, uH.2.1, (uH.2.2.1 + (1 : Int32)), uH.2.2.2.1, uH.2.2.2.2.1, uH.2.2.2.2.2.1, (upd uH.2.2.2.2.2.2 uH.2.2.1.toNatClampNeg a1)) uC uT uI uM) H := hP
          have hD : va_D A (wN cI cZ n0 h0 h3 h4 h5 h6 c0 c8 c9 c10 c11 c12 c13 t0 t8 t9 t10 t11 t12 t13 i0 i1 i2 i3 i4 m0 m1 m2 (uH.1, uH.2.1, (uH.2.2.1 + (1 : Int32)), uH.2.2.2.1, uH.2.2.2.2.1, uH.2.2.2.2.2.1, (upd uH.2.2.2.2.2.2 uH.2.2.1.toNatClampNeg a1)) uC uT uI uM) := D_N hD
          refine lv_aload_n hx hb dX4_addReader_78 rfl (lv_at hl 1 rfl) ?_
          refine va_get (D := (dC, dI)) (ci := 4) (v := .ref c0) (C := RX4) (T := TX4) (N := 5) hx hb hts inX4 hown hK hP 0 rfl rfl 1 (by decide) (hts _ qf_X4_21) (fun _ h9 => h9) rfl dX4_addReader_79 ?_
          refine va_get (D := (dC, dI)) (ci := 0) (v := .ref c12) (C := RX0) (T := TX0) (N := 14) hx hb hts inX0 hown hK hP 6 rfl rfl 12 (by decide) (hts _ qf_X4_108) (fun _ h9 => h9) rfl dX4_addReader_82 ?_
          refine lv_iload_n hx hb dX4_addReader_85 rfl (lv_at hl 0 rfl) ?_
          refine lv_iload_n hx hb dX4_addReader_86 rfl (lv_at hl 3 rfl) ?_
          refine va_iast hx hb hK hP hD hS 11 0 rfl rfl hi2 dX4_addReader_87 (fun H locs hP _ hS => ?_)
          have hP : va_P (dC, dI) vwCl (wN cI cZ n0 h0 h3 h4 h5 h6 c0 c8 c9 c10 c11 c12 c13 t0 t8 t9 t10 t11 t12 t13 i0 i1 i2 i3 i4 m0 m1 m2 (uH.1, uH.2.1, (uH.2.2.1 + (1 : Int32)), uH.2.2.2.1, uH.2.2.2.2.1, uH.2.2.2.2.2.1, (upd uH.2.2.2.2.2.2 uH.2.2.1.toNatClampNeg a1)) (uC.1, uC.2.1, uC.2.2.1, uC.2.2.2.1, uC.2.2.2.2.1, uC.2.2.2.2.2.1, uC.2.2.2.2.2.2.1, uC.2.2.2.2.2.2.2.1, uC.2.2.2.2.2.2.2.2.1, uC.2.2.2.2.2.2.2.2.2.1, uC.2.2.2.2.2.2.2.2.2.2.1, (upd uC.2.2.2.2.2.2.2.2.2.2.2.1 uH.2.2.1.toNatClampNeg a2), uC.2.2.2.2.2.2.2.2.2.2.2.2) uT uI uM) H := hP
          have hD : va_D A (wN cI cZ n0 h0 h3 h4 h5 h6 c0 c8 c9 c10 c11 c12 c13 t0 t8 t9 t10 t11 t12 t13 i0 i1 i2 i3 i4 m0 m1 m2 (uH.1, uH.2.1, (uH.2.2.1 + (1 : Int32)), uH.2.2.2.1, uH.2.2.2.2.1, uH.2.2.2.2.2.1, (upd uH.2.2.2.2.2.2 uH.2.2.1.toNatClampNeg a1)) (uC.1, uC.2.1, uC.2.2.1, uC.2.2.2.1, uC.2.2.2.2.1, uC.2.2.2.2.2.1, uC.2.2.2.2.2.2.1, uC.2.2.2.2.2.2.2.1, uC.2.2.2.2.2.2.2.2.1, uC.2.2.2.2.2.2.2.2.2.1, uC.2.2.2.2.2.2.2.2.2.2.1, (upd uC.2.2.2.2.2.2.2.2.2.2.2.1 uH.2.2.1.toNatClampNeg a2), uC.2.2.2.2.2.2.2.2.2.2.2.2) uT uI uM) := D_N hD
          refine lv_aload_n hx hb dX4_addReader_88 rfl (lv_at hl 1 rfl) ?_
          refine va_get (D := (dC, dI)) (ci := 4) (v := .ref c0) (C := RX4) (T := TX4) (N := 5) hx hb hts inX4 hown hK hP 0 rfl rfl 1 (by decide) (hts _ qf_X4_21) (fun _ h9 => h9) rfl dX4_addReader_89 ?_
          refine va_get (D := (dC, dI)) (ci := 0) (v := .ref c13) (C := RX0) (T := TX0) (N := 14) hx hb hts inX0 hown hK hP 6 rfl rfl 13 (by decide) (hts _ qf_X4_111) (fun _ h9 => h9) rfl dX4_addReader_92 ?_
          refine lv_iload_n hx hb dX4_addReader_95 rfl (lv_at hl 0 rfl) ?_
          refine lv_iconst (v := (1 : Int32)) hx hb dX4_addReader_96 (by decide) ?_
          refine va_zast hx hb hK hP hD hS 12 1 rfl rfl hi2 dX4_addReader_97 (fun H locs hP _ hS => ?_)
          have hP : va_P (dC, dI) vwCl (wN cI cZ n0 h0 h3 h4 h5 h6 c0 c8 c9 c10 c11 c12 c13 t0 t8 t9 t10 t11 t12 t13 i0 i1 i2 i3 i4 m0 m1 m2 (uH.1, uH.2.1, (uH.2.2.1 + (1 : Int32)), uH.2.2.2.1, uH.2.2.2.2.1, uH.2.2.2.2.2.1, (upd uH.2.2.2.2.2.2 uH.2.2.1.toNatClampNeg a1)) (uC.1, uC.2.1, uC.2.2.1, uC.2.2.2.1, uC.2.2.2.2.1, uC.2.2.2.2.2.1, uC.2.2.2.2.2.2.1, uC.2.2.2.2.2.2.2.1, uC.2.2.2.2.2.2.2.2.1, uC.2.2.2.2.2.2.2.2.2.1, uC.2.2.2.2.2.2.2.2.2.2.1, (upd uC.2.2.2.2.2.2.2.2.2.2.2.1 uH.2.2.1.toNatClampNeg a2), (upd uC.2.2.2.2.2.2.2.2.2.2.2.2 uH.2.2.1.toNatClampNeg (vp_nar .boolean (1 : Int32)))) uT uI uM) H := hP
          have hD : va_D A (wN cI cZ n0 h0 h3 h4 h5 h6 c0 c8 c9 c10 c11 c12 c13 t0 t8 t9 t10 t11 t12 t13 i0 i1 i2 i3 i4 m0 m1 m2 (uH.1, uH.2.1, (uH.2.2.1 + (1 : Int32)), uH.2.2.2.1, uH.2.2.2.2.1, uH.2.2.2.2.2.1, (upd uH.2.2.2.2.2.2 uH.2.2.1.toNatClampNeg a1)) (uC.1, uC.2.1, uC.2.2.1, uC.2.2.2.1, uC.2.2.2.2.1, uC.2.2.2.2.2.1, uC.2.2.2.2.2.2.1, uC.2.2.2.2.2.2.2.1, uC.2.2.2.2.2.2.2.2.1, uC.2.2.2.2.2.2.2.2.2.1, uC.2.2.2.2.2.2.2.2.2.2.1, (upd uC.2.2.2.2.2.2.2.2.2.2.2.1 uH.2.2.1.toNatClampNeg a2), (upd uC.2.2.2.2.2.2.2.2.2.2.2.2 uH.2.2.1.toNatClampNeg (vp_nar .boolean (1 : Int32)))) uT uI uM) := D_N hD
          refine lv_iload_n hx hb dX4_addReader_98 rfl (lv_at hl 0 rfl) ?_
          have hok := Option.some.inj hok
          subst hok
          exact eWi S hr hlk rfl hP hS (Nat.le_of_ble_eq_true rfl) (Nat.le_of_ble_eq_true rfl) dX4_addReader_99
        · have hok := iq hok hc
          cases hok
      · have hok := iq hok hc
        cases hok
