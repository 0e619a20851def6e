theorem hd_X4_addMirror : yX4_addMirror.cls = RX4 ∧ yX4_addMirror.cls ≠ "java/lang/invoke/MethodHandle" ∧ yX4_addMirror.cls ≠ "java/lang/invoke/VarHandle" ∧ (parseMethodDescriptor yX4_addMirror.desc).map (fun d => d.parameters.length) = some 2 := by decide +kernel
def p_X4_addMirror (uH : tX1) (uC : tX0) (uT : tX0) (uI : tX2) (uM : tX3) (a1 : Int32) (a2 : Int32) : Option (Int32 × tX3) :=
  bd (p_X4_isTopic a1) (fun v1 =>
  if v1 = 0 then
    none
  else
    bd (p_X4_isTopic a2) (fun v2 =>
    if v2 = 0 then
      none
    else
      if a1 = a2 then
        none
      else
        if uM.1 < (4 : Int32) then
          bd (p_X3_append uM a1 a2) (fun v3 =>
          some (v3.1, v3.2))
        else
          none))
set_option maxHeartbeats 4000000 in
set_option maxRecDepth 100000 in
theorem c_X4_addMirror (l : Launch) (dC : Nat → ClassId) (dI : Nat → Nat → Nat) (cI cZ : ClassId) (n0 h0 h3 h4 h5 h6 c0 c8 c9 c10 c11 c12 c13 t0 t8 t9 t10 t11 t12 t13 i0 i1 i2 i3 i4 m0 m1 m2 : Nat) (sz : Nat) (uH : tX1) (uC : tX0) (uT : tX0) (uI : tX2) (uM : tX3) (a1 : Int32) (a2 : Int32) {z : (Int32 × tX3)} (hok : p_X4_addMirror uH uC uT uI uM a1 a2 = some z) : Met l yX4_addMirror (Cond.code yX4_addMirror cX4_addMirror 3 (some .int) :: lw_all) { frames := 1, cells := 0, slots := 0, locals := 23 } (prW (dC, dI) vwCl (TYS cI cZ) (wN cI cZ n0 h0 h3 h4 h5 h6 c0 c8 c9 c10 c11 c12 c13 t0 t8 t9 t10 t11 t12 t13 i0 i1 i2 i3 i4 m0 m1 m2 uH uC uT uI uM) sz [.ref n0, .int a1, .int a2]) (va_Qi (fun (r : Int32) (_ : Unit) => r = z.1) (fun _ t => va_P (dC, dI) vwCl (wN cI cZ n0 h0 h3 h4 h5 h6 c0 c8 c9 c10 c11 c12 c13 t0 t8 t9 t10 t11 t12 t13 i0 i1 i2 i3 i4 m0 m1 m2 uH uC uT uI z.2) t.heap) (va_A (wN cI cZ n0 h0 h3 h4 h5 h6 c0 c8 c9 c10 c11 c12 c13 t0 t8 t9 t10 t11 t12 t13 i0 i1 i2 i3 i4 m0 m1 m2 uH uC uT uI uM) sz)) 0 0 (va_A (wN cI cZ n0 h0 h3 h4 h5 h6 c0 c8 c9 c10 c11 c12 c13 t0 t8 t9 t10 t11 t12 t13 i0 i1 i2 i3 i4 m0 m1 m2 uH uC uT uI uM) sz) := by
  refine oM (by decide) (Nat.le_of_ble_eq_true rfl) ?_
  intro p e s m args below meth c S hr hlk hnm hB ls hl
  have hx := S.1
  have hb := S.2.1
  have hml := S.2.2.1
  have hown : s.vm.findClass RX4 = some m.cls := S.2.2.2.1
  have hts := S.2.2.2.2
  have S : CallFix p m c cX4_addMirror 3 s args lw_all RX4 := S
  have hl : lv_has ls 3 [(0, .ref n0), (1, .int a1), (2, .int a2)] := hl
  obtain ⟨hsz, hP, hK, hD0⟩ := hB
  subst hsz
  have hD := hD0.self (sz := s.heap.size)
  generalize hAe : va_A (wN cI cZ n0 h0 h3 h4 h5 h6 c0 c8 c9 c10 c11 c12 c13 t0 t8 t9 t10 t11 t12 t13 i0 i1 i2 i3 i4 m0 m1 m2 uH uC uT uI uM) s.heap.size = A at hD ⊢
  have hA : ∀ q : Nat, s.heap.size ≤ q → A q := fun q h => by rw [← hAe]; exact Or.inr h
  have hS : va_S A s.heap s.heap [] := va_S.rf
  have hP : va_P (dC, dI) vwCl (wN cI cZ n0 h0 h3 h4 h5 h6 c0 c8 c9 c10 c11 c12 c13 t0 t8 t9 t10 t11 t12 t13 i0 i1 i2 i3 i4 m0 m1 m2 uH uC uT uI uM) s.heap := hP
  unfold p_X4_addMirror at hok
  refine lv_iload_n hx hb dX4_addMirror_0 rfl (lv_at hl 1 rfl) ?_
  obtain ⟨v1, hc1, hok⟩ := bd_some hok
  refine cRSi [.int a1] S hK va_Pnil (c_X4_isTopic l dC dI cI cZ a1 hc1) (lw_S qm_X4_67 qt_X4_isTopic qn_X4 qc_X4_isTopic) hd_X4_isTopic ⟨rfl, rfl⟩ ⟨Nat.le_of_ble_eq_true rfl, Nat.le_of_ble_eq_true rfl⟩ ⟨Nat.le_of_ble_eq_true rfl, Nat.le_of_ble_eq_true rfl⟩ rfl hl.1 (Nat.le_of_ble_eq_true rfl) rfl dX4_addMirror_1 ?_
  refine lv_if_eq (tgt := 19) hx hb dX4_addMirror_4 (by decide) (fun hc => ?_) (fun hc => ?_)
  · have hok := ip hok hc
    cases hok
  · have hok := iq hok hc
    refine lv_iload_n hx hb dX4_addMirror_7 rfl (lv_at hl 2 rfl) ?_
    obtain ⟨v2, hc2, hok⟩ := bd_some hok
    refine cRSi [.int a2] S hK va_Pnil (c_X4_isTopic l dC dI cI cZ a2 hc2) (lw_S qm_X4_67 qt_X4_isTopic qn_X4 qc_X4_isTopic) hd_X4_isTopic ⟨rfl, rfl⟩ ⟨Nat.le_of_ble_eq_true rfl, Nat.le_of_ble_eq_true rfl⟩ ⟨Nat.le_of_ble_eq_true rfl, Nat.le_of_ble_eq_true rfl⟩ rfl hl.1 (Nat.le_of_ble_eq_true rfl) rfl dX4_addMirror_8 ?_
    refine lv_if_eq (tgt := 19) hx hb dX4_addMirror_11 (by decide) (fun hc => ?_) (fun hc => ?_)
    · have hok := ip hok hc
      cases hok
    · have hok := iq hok hc
      refine lv_iload_n hx hb dX4_addMirror_14 rfl (lv_at hl 1 rfl) ?_
      refine lv_iload_n hx hb dX4_addMirror_15 rfl (lv_at hl 2 rfl) ?_
      refine lv_icmp_ne (tgt := 29) hx hb dX4_addMirror_16 (by decide) (fun hc => ?_) (fun hc => ?_)
      · have hok := iq hok hc
        refine lv_aload_n hx hb dX4_addMirror_29 rfl (lv_at hl 0 rfl) ?_
        refine va_get (D := (dC, dI)) (ci := 4) (v := .ref m0) (C := RX4) (T := TX4) (N := 5) hx hb hts inX4 hown hK hP 0 rfl rfl 4 (by decide) (hts _ qf_X4_38) (fun _ h9 => h9) rfl dX4_addMirror_30 ?_
        refine va_get (D := (dC, dI)) (ci := 3) (v := .int uM.1) (C := RX3) (T := TX3) (N := 3) hx hb hts inX3 hown hK hP 25 rfl rfl 0 (by decide) (hts _ qf_X4_116) (fun _ h9 => h9) rfl dX4_addMirror_33 ?_
        refine lv_iconst (v := (4 : Int32)) hx hb dX4_addMirror_36 (by decide) ?_
        refine lv_icmp_lt (tgt := 50) hx hb dX4_addMirror_37 (by decide) (fun hc => ?_) (fun hc => ?_)
        · have hok := ip hok hc
          refine lv_aload_n hx hb dX4_addMirror_50 rfl (lv_at hl 0 rfl) ?_
          refine va_get (D := (dC, dI)) (ci := 4) (v := .ref m0) (C := RX4) (T := TX4) (N := 5) hx hb hts inX4 hown hK hP 0 rfl rfl 4 (by decide) (hts _ qf_X4_38) (fun _ h9 => h9) rfl dX4_addMirror_51 ?_
          refine lv_iload_n hx hb dX4_addMirror_54 rfl (lv_at hl 1 rfl) ?_
          refine lv_iload_n hx hb dX4_addMirror_55 rfl (lv_at hl 2 rfl) ?_
          obtain ⟨v3, hc3, hok⟩ := bd_some hok
          refine cUVi (ci := 3) (q0 := 0) [.int a1, .int a2] S hK (cP_M hP) (cD_M hD) hS hA (c_X3_append l dC dI cI cZ m0 m1 m2 _ uM a1 a2 hc3) (lw_V qm_X4_119 qi_X3_append qs_X3_append qn_X3 qc_X3_append) hd_X3_append ⟨rfl, rfl⟩ ⟨Nat.le_of_ble_eq_true rfl, Nat.le_of_ble_eq_true rfl⟩ ⟨Nat.le_of_ble_eq_true rfl, Nat.le_of_ble_eq_true rfl⟩ rfl rfl rfl hl.1 (Nat.le_of_ble_eq_true rfl) rfl dX4_addMirror_56 (fun H1 hk9 h9 => cJ_M hP hD hk9 h9) (D_N hD) (fun H locs hP hD hS => ?_)
          have hok := Option.some.inj hok
          subst hok
          exact eWi S hr hlk rfl hP hS (Nat.le_of_ble_eq_true rfl) (Nat.le_of_ble_eq_true rfl) dX4_addMirror_59
        · have hok := iq hok hc
          cases hok
      · have hok := ip hok hc
        cases hok
theorem hd_X4_call : yX4_call.cls = RX4 ∧ yX4_call.cls ≠ "java/lang/invoke/MethodHandle" ∧ yX4_call.cls ≠ "java/lang/invoke/VarHandle" ∧ (parseMethodDescriptor yX4_call.desc).map (fun d => d.parameters.length) = some 1 := by decide +kernel
def p_X4_call_J22 (uH : tX1) (uC : tX0) (uT : tX0) (uI : tX2) (uM : tX3) (l22_1 : Int32) (s22_0 : Int32) : Option (Int32 × tX0) :=
  gd l22_1 12 (
  gq (s22_0 &&& 1 = s22_0) (
  some (s22_0, (uC.1, uC.2.1, uC.2.2.1, uC.2.2.2.1, uC.2.2.2.2.1, uC.2.2.2.2.2.1, uC.2.2.2.2.2.2.1, (upd uC.2.2.2.2.2.2.2.1 l22_1.toNatClampNeg (vp_nar .boolean (1 : Int32))), uC.2.2.2.2.2.2.2.2))))
def p_X4_call (uH : tX1) (uC : tX0) (uT : tX0) (uI : tX2) (uM : tX3) (a1 : Int32) : Option (Int32 × tX0) :=
  bd (p_X4_needFloor uH uC uT uI uM a1) (fun v1 =>
  gd a1 12 (
  if (uC.2.2.2.2.2.2.2.1 a1.toNatClampNeg) = 0 then
    p_X4_call_J22 uH uC uT uI uM a1 (1 : Int32)
  else
    p_X4_call_J22 uH uC uT uI uM a1 (0 : Int32)))
set_option maxHeartbeats 4000000 in
set_option maxRecDepth 100000 in
theorem c_X4_call (l : Launch) (dC : Nat → ClassId) (dI : Nat → Nat → Nat) (cI cZ : ClassId) (n0 h0 h3 h4 h5 h6 c0 c8 c9 c10 c11 c12 c13 t0 t8 t9 t10 t11 t12 t13 i0 i1 i2 i3 i4 m0 m1 m2 : Nat) (sz : Nat) (uH : tX1) (uC : tX0) (uT : tX0) (uI : tX2) (uM : tX3) (a1 : Int32) {z : (Int32 × tX0)} (hok : p_X4_call uH uC uT uI uM a1 = some z) : Met l yX4_call (Cond.code yX4_call cX4_call 3 (some .boolean) :: lw_all) { frames := 1, cells := 0, slots := 0, locals := 21 } (prW (dC, dI) vwCl (TYS cI cZ) (wN cI cZ n0 h0 h3 h4 h5 h6 c0 c8 c9 c10 c11 c12 c13 t0 t8 t9 t10 t11 t12 t13 i0 i1 i2 i3 i4 m0 m1 m2 uH uC uT uI uM) sz [.ref n0, .int a1]) (va_Qi (fun (r : Int32) (_ : Unit) => r = z.1) (fun _ t => va_P (dC, dI) vwCl (wN cI cZ n0 h0 h3 h4 h5 h6 c0 c8 c9 c10 c11 c12 c13 t0 t8 t9 t10 t11 t12 t13 i0 i1 i2 i3 i4 m0 m1 m2 uH z.2 uT uI uM) t.heap) (va_A (wN cI cZ n0 h0 h3 h4 h5 h6 c0 c8 c9 c10 c11 c12 c13 t0 t8 t9 t10 t11 t12 t13 i0 i1 i2 i3 i4 m0 m1 m2 uH uC uT uI uM) sz)) 0 0 (va_A (wN cI cZ n0 h0 h3 h4 h5 h6 c0 c8 c9 c10 c11 c12 c13 t0 t8 t9 t10 t11 t12 t13 i0 i1 i2 i3 i4 m0 m1 m2 uH uC uT uI uM) sz) := by
  refine oM (by decide) (Nat.le_of_ble_eq_true rfl) ?_
  intro p e s m args below meth c S hr hlk hnm hB ls hl
  have hx := S.1
  have hb := S.2.1
  have hml := S.2.2.1
  have hown : s.vm.findClass RX4 = some m.cls := S.2.2.2.1
  have hts := S.2.2.2.2
  have S : CallFix p m c cX4_call 3 s args lw_all RX4 := S
  have hl : lv_has ls 3 [(0, .ref n0), (1, .int a1)] := hl
  obtain ⟨hsz, hP, hK, hD0⟩ := hB
  subst hsz
  have hD := hD0.self (sz := s.heap.size)
  generalize hAe : va_A (wN cI cZ n0 h0 h3 h4 h5 h6 c0 c8 c9 c10 c11 c12 c13 t0 t8 t9 t10 t11 t12 t13 i0 i1 i2 i3 i4 m0 m1 m2 uH uC uT uI uM) s.heap.size = A at hD ⊢
  have hA : ∀ q : Nat, s.heap.size ≤ q → A q := fun q h => by rw [← hAe]; exact Or.inr h
  have hS : va_S A s.heap s.heap [] := va_S.rf
  have hP : va_P (dC, dI) vwCl (wN cI cZ n0 h0 h3 h4 h5 h6 c0 c8 c9 c10 c11 c12 c13 t0 t8 t9 t10 t11 t12 t13 i0 i1 i2 i3 i4 m0 m1 m2 uH uC uT uI uM) s.heap := hP
  have J22 : ∀ (uC : tX0) (l22_1 : Int32) (s22_0 : Int32) (H : Heap) (locs : List Loc) (hP : va_P (dC, dI) vwCl (wN cI cZ n0 h0 h3 h4 h5 h6 c0 c8 c9 c10 c11 c12 c13 t0 t8 t9 t10 t11 t12 t13 i0 i1 i2 i3 i4 m0 m1 m2 uH uC uT uI uM) H) (hD : va_D A (wN cI cZ n0 h0 h3 h4 h5 h6 c0 c8 c9 c10 c11 c12 c13 t0 t8 t9 t10 t11 t12 t13 i0 i1 i2 i3 i4 m0 m1 m2 uH uC uT uI uM)) (hS : va_S A s.heap H locs) (ls : Array Slot) (hl : lv_has ls 3 [(0, .ref n0), (1, .int l22_1)]) (hok : p_X4_call_J22 uH uC uT uI uM l22_1 s22_0 = some z), W p l e { frames := 1, cells := 0, slots := 0, locals := 21 } s m args below meth c H locs 0 0 (MQ below (va_Qi (fun (r : Int32) (_ : Unit) => r = z.1) (fun _ t => va_P (dC, dI) vwCl (wN cI cZ n0 h0 h3 h4 h5 h6 c0 c8 c9 c10 c11 c12 c13 t0 t8 t9 t10 t11 t12 t13 i0 i1 i2 i3 i4 m0 m1 m2 uH z.2 uT uI uM) t.heap) A) args s 0 0 A) (F0 m 22 ls [.int s22_0]) := by
    intro uC l22_1 s22_0 H locs hP hD hS ls hl hok
    unfold p_X4_call_J22 at hok
    refine lv_istore_n (lv' := [(2, .int s22_0), (0, .ref n0), (1, .int l22_1)]) hx hb dX4_call_22 rfl hl (by decide) rfl (fun ls hl => ?_)
    refine lv_aload_n hx hb dX4_call_23 rfl (lv_at hl 1 rfl) ?_
    refine va_get (D := (dC, dI)) (ci := 4) (v := .ref c0) (C := RX4) (T := TX4) (N := 5) hx hb hts inX4 hown hK hP 0 rfl rfl 1 (by decide) (hts _ qf_X4_21) (fun _ h9 => h9) rfl dX4_call_24 ?_
    refine va_get (D := (dC, dI)) (ci := 0) (v := .ref c8) (C := RX0) (T := TX0) (N := 14) hx hb hts inX0 hown hK hP 6 rfl rfl 8 (by decide) (hts _ qf_X4_122) (fun _ h9 => h9) rfl dX4_call_27 ?_
    refine lv_iload_n hx hb dX4_call_30 rfl (lv_at hl 2 rfl) ?_
    refine lv_iconst (v := (1 : Int32)) hx hb dX4_call_31 (by decide) ?_
    obtain ⟨hi3, hok⟩ := gd_some hok
    refine va_zast hx hb hK hP hD hS 7 1 rfl rfl hi3 dX4_call_32 (fun H locs hP _ hS => ?_)
    have hP : va_P (dC, dI) vwCl (wN cI cZ n0 h0 h3 h4 h5 h6 c0 c8 c9 c10 c11 c12 c13 t0 t8 t9 t10 t11 t12 t13 i0 i1 i2 i3 i4 m0 m1 m2 uH (uC.1, uC.2.1, uC.2.2.1, uC.2.2.2.1, uC.2.2.2.2.1, uC.2.2.2.2.2.1, uC.2.2.2.2.2.2.1, (upd uC.2.2.2.2.2.2.2.1 l22_1.toNatClampNeg (vp_nar .boolean (1 : Int32))), uC.2.2.2.2.2.2.2.2) uT uI uM) H := hP
    have hD : va_D A (wN cI cZ n0 h0 h3 h4 h5 h6 c0 c8 c9 c10 c11 c12 c13 t0 t8 t9 t10 t11 t12 t13 i0 i1 i2 i3 i4 m0 m1 m2 uH (uC.1, uC.2.1, uC.2.2.1, uC.2.2.2.1, uC.2.2.2.2.1, uC.2.2.2.2.2.1, uC.2.2.2.2.2.2.1, (upd uC.2.2.2.2.2.2.2.1 l22_1.toNatClampNeg (vp_nar .boolean (1 : Int32))), uC.2.2.2.2.2.2.2.2) uT uI uM) := D_N hD
    refine lv_iload_n hx hb dX4_call_33 rfl (lv_at hl 0 rfl) ?_
    obtain ⟨hn4, hok⟩ := gq_some hok
    have hok := Option.some.inj hok
    subst hok
    exact eWz S hr hlk hn4 rfl hP hS (Nat.le_of_ble_eq_true rfl) (Nat.le_of_ble_eq_true rfl) dX4_call_34
  unfold p_X4_call at hok
  refine lv_aload_n hx hb dX4_call_0 rfl (lv_at hl 0 rfl) ?_
  refine lv_iload_n hx hb dX4_call_1 rfl (lv_at hl 1 rfl) ?_
  obtain ⟨v1, hc1, hok⟩ := bd_some hok
  refine cRVv (ci := 4) (q0 := 0) [.int a1] S hK hP (c_X4_needFloor l dC dI cI cZ n0 h0 h3 h4 h5 h6 c0 c8 c9 c10 c11 c12 c13 t0 t8 t9 t10 t11 t12 t13 i0 i1 i2 i3 i4 m0 m1 m2 uH uC uT uI uM a1 hc1) (lw_V qm_X4_64 qi_X4_needFloor qs_X4_needFloor qn_X4 qc_X4_needFloor) hd_X4_needFloor ⟨rfl, rfl⟩ ⟨Nat.le_of_ble_eq_true rfl, Nat.le_of_ble_eq_true rfl⟩ ⟨Nat.le_of_ble_eq_true rfl, Nat.le_of_ble_eq_true rfl⟩ rfl rfl rfl hl.1 (Nat.le_of_ble_eq_true rfl) rfl dX4_call_2 ?_
  refine lv_aload_n hx hb dX4_call_5 rfl (lv_at hl 0 rfl) ?_
  refine va_get (D := (dC, dI)) (ci := 4) (v := .ref c0) (C := RX4) (T := TX4) (N := 5) hx hb hts inX4 hown hK hP 0 rfl rfl 1 (by decide) (hts _ qf_X4_21) (fun _ h9 => h9) rfl dX4_call_6 ?_
  refine va_get (D := (dC, dI)) (ci := 0) (v := .ref c8) (C := RX0) (T := TX0) (N := 14) hx hb hts inX0 hown hK hP 6 rfl rfl 8 (by decide) (hts _ qf_X4_122) (fun _ h9 => h9) rfl dX4_call_9 ?_
  refine lv_iload_n hx hb dX4_call_12 rfl (lv_at hl 1 rfl) ?_
  obtain ⟨hi2, hok⟩ := gd_some hok
  refine va_zald hx hb hK hP 7 1 rfl rfl hi2 dX4_call_13 ?_
  refine lv_if_ne (tgt := 21) hx hb dX4_call_14 (by decide) (fun hc => ?_) (fun hc => ?_)
  · have hok := iq hok hc
    refine lv_iconst (v := (0 : Int32)) hx hb dX4_call_21 (by decide) ?_
    exact J22 uC a1 (0 : Int32) _ _ hP hD hS _ hl hok
  · have hok := ip hok hc
    refine lv_iconst (v := (1 : Int32)) hx hb dX4_call_17 (by decide) ?_
    refine lv_goto (tgt := 22) hx hb dX4_call_18 (by decide) ?_
    exact J22 uC a1 (1 : Int32) _ _ hP hD hS _ hl hok
theorem hd_X4_repair : yX4_repair.cls = RX4 ∧ yX4_repair.cls ≠ "java/lang/invoke/MethodHandle" ∧ yX4_repair.cls ≠ "java/lang/invoke/VarHandle" ∧ (parseMethodDescriptor yX4_repair.desc).map (fun d => d.parameters.length) = some 0 := by decide +kernel
def p_X4_repair (uH : tX1) (uC : tX0) (uT : tX0) (uI : tX2) (uM : tX3) : Option (Int32 × tX0) :=
  some (uC.2.2.2.1, (uC.1, uC.2.1, uC.2.2.1, (0 : Int32), (0 : Int32), uC.2.2.2.2.2))
set_option maxHeartbeats 4000000 in
set_option maxRecDepth 100000 in
theorem c_X4_repair (l : Launch) (dC : Nat → ClassId) (dI : Nat → Nat → Nat) (cI cZ : ClassId) (n0 h0 h3 h4 h5 h6 c0 c8 c9 c10 c11 c12 c13 t0 t8 t9 t10 t11 t12 t13 i0 i1 i2 i3 i4 m0 m1 m2 : Nat) (sz : Nat) (uH : tX1) (uC : tX0) (uT : tX0) (uI : tX2) (uM : tX3) {z : (Int32 × tX0)} (hok : p_X4_repair uH uC uT uI uM = some z) : Met l yX4_repair (Cond.code yX4_repair cX4_repair 2 (some .int) :: lw_all) { frames := 0, cells := 0, slots := 0, locals := 0 } (prW (dC, dI) vwCl (TYS cI cZ) (wN cI cZ n0 h0 h3 h4 h5 h6 c0 c8 c9 c10 c11 c12 c13 t0 t8 t9 t10 t11 t12 t13 i0 i1 i2 i3 i4 m0 m1 m2 uH uC uT uI uM) sz [.ref n0]) (va_Qi (fun (r : Int32) (_ : Unit) => r = z.1) (fun _ t => va_P (dC, dI) vwCl (wN cI cZ n0 h0 h3 h4 h5 h6 c0 c8 c9 c10 c11 c12 c13 t0 t8 t9 t10 t11 t12 t13 i0 i1 i2 i3 i4 m0 m1 m2 uH z.2 uT uI uM) t.heap) (va_A (wN cI cZ n0 h0 h3 h4 h5 h6 c0 c8 c9 c10 c11 c12 c13 t0 t8 t9 t10 t11 t12 t13 i0 i1 i2 i3 i4 m0 m1 m2 uH uC uT uI uM) sz)) 0 0 (va_A (wN cI cZ n0 h0 h3 h4 h5 h6 c0 c8 c9 c10 c11 c12 c13 t0 t8 t9 t10 t11 t12 t13 i0 i1 i2 i3 i4 m0 m1 m2 uH uC uT uI uM) sz) := by
  refine oM (by decide) (Nat.le_of_ble_eq_true rfl) ?_
  intro p e s m args below meth c S hr hlk hnm hB ls hl
  have hx := S.1
  have hb := S.2.1
  have hml := S.2.2.1
  have hown : s.vm.findClass RX4 = some m.cls := S.2.2.2.1
  have hts := S.2.2.2.2
  have S : CallFix p m c cX4_repair 2 s args lw_all RX4 := S
  have hl : lv_has ls 2 [(0, .ref n0)] := hl
  obtain ⟨hsz, hP, hK, hD0⟩ := hB
  subst hsz
  have hD := hD0.self (sz := s.heap.size)
  generalize hAe : va_A (wN cI cZ n0 h0 h3 h4 h5 h6 c0 c8 c9 c10 c11 c12 c13 t0 t8 t9 t10 t11 t12 t13 i0 i1 i2 i3 i4 m0 m1 m2 uH uC uT uI uM) s.heap.size = A at hD ⊢
  have hA : ∀ q : Nat, s.heap.size ≤ q → A q := fun q h => by rw [← hAe]; exact Or.inr h
  have hS : va_S A s.heap s.heap [] := va_S.rf
  have hP : va_P (dC, dI) vwCl (wN cI cZ n0 h0 h3 h4 h5 h6 c0 c8 c9 c10 c11 c12 c13 t0 t8 t9 t10 t11 t12 t13 i0 i1 i2 i3 i4 m0 m1 m2 uH uC uT uI uM) s.heap := hP
  unfold p_X4_repair at hok
  refine lv_aload_n hx hb dX4_repair_0 rfl (lv_at hl 0 rfl) ?_
  refine va_get (D := (dC, dI)) (ci := 4) (v := .ref c0) (C := RX4) (T := TX4) (N := 5) hx hb hts inX4 hown hK hP 0 rfl rfl 1 (by decide) (hts _ qf_X4_21) (fun _ h9 => h9) rfl dX4_repair_1 ?_
  refine va_get (D := (dC, dI)) (ci := 0) (v := .int uC.2.2.2.1) (C := RX0) (T := TX0) (N := 14) hx hb hts inX0 hown hK hP 6 rfl rfl 4 (by decide) (hts _ qf_X4_125) (fun _ h9 => h9) rfl dX4_repair_4 ?_
  refine lv_istore_n (lv' := [(1, .int uC.2.2.2.1), (0, .ref n0)]) hx hb dX4_repair_7 rfl hl (by decide) rfl (fun ls hl => ?_)
  refine lv_aload_n hx hb dX4_repair_8 rfl (lv_at hl 1 rfl) ?_
  refine va_get (D := (dC, dI)) (ci := 4) (v := .ref c0) (C := RX4) (T := TX4) (N := 5) hx hb hts inX4 hown hK hP 0 rfl rfl 1 (by decide) (hts _ qf_X4_21) (fun _ h9 => h9) rfl dX4_repair_9 ?_
  refine lv_iconst (v := (0 : Int32)) hx hb dX4_repair_12 (by decide) ?_
  refine va_put (D := (dC, dI)) (ci := 0) (v := .int (0 : Int32)) (ty := .int) (C := RX0) (T := TX0) (N := 14) hx hb hts inX0 tyX0 tyX0_ok nmX0 hown hK hP hD hS 6 rfl rfl 4 (by decide) (hts _ qf_X4_125) (fun _ h9 => h9) rfl (tyX0_ok 4 (by decide)) rfl rfl (Nat.le_of_ble_eq_true rfl) dX4_repair_13 (fun H locs hP _ hS => ?_)
  have hP : va_P (dC, dI) vwCl (wN cI cZ n0 h0 h3 h4 h5 h6 c0 c8 c9 c10 c11 c12 c13 t0 t8 t9 t10 t11 t12 t13 i0 i1 i2 i3 i4 m0 m1 m2 uH (uC.1, uC.2.1, uC.2.2.1, (0 : Int32), uC.2.2.2.2) uT uI uM) H := hP
  have hD : va_D A (wN cI cZ n0 h0 h3 h4 h5 h6 c0 c8 c9 c10 c11 c12 c13 t0 t8 t9 t10 t11 t12 t13 i0 i1 i2 i3 i4 m0 m1 m2 uH (uC.1, uC.2.1, uC.2.2.1, (0 : Int32), uC.2.2.2.2) uT uI uM) := D_N hD
  refine lv_aload_n hx hb dX4_repair_16 rfl (lv_at hl 1 rfl) ?_
  refine va_get (D := (dC, dI)) (ci := 4) (v := .ref c0) (C := RX4) (T := TX4) (N := 5) hx hb hts inX4 hown hK hP 0 rfl rfl 1 (by decide) (hts _ qf_X4_21) (fun _ h9 => h9) rfl dX4_repair_17 ?_
  refine lv_iconst (v := (0 : Int32)) hx hb dX4_repair_20 (by decide) ?_
  refine va_put (D := (dC, dI)) (ci := 0) (v := .int (0 : Int32)) (ty := .int) (C := RX0) (T := TX0) (N := 14) hx hb hts inX0 tyX0 tyX0_ok nmX0 hown hK hP hD hS 6 rfl rfl 5 (by decide) (hts _ qf_X4_128) (fun _ h9 => h9) rfl (tyX0_ok 5 (by decide)) rfl rfl (Nat.le_of_ble_eq_true rfl) dX4_repair_21 (fun H locs hP _ hS => ?_)
  have hP : va_P (dC, dI) vwCl (wN cI cZ n0 h0 h3 h4 h5 h6 c0 c8 c9 c10 c11 c12 c13 t0 t8 t9 t10 t11 t12 t13 i0 i1 i2 i3 i4 m0 m1 m2 uH (uC.1, uC.2.1, uC.2.2.1, (0 : Int32), (0 : Int32), uC.2.2.2.2.2) uT uI uM) H := hP
  have hD : va_D A (wN cI cZ n0 h0 h3 h4 h5 h6 c0 c8 c9 c10 c11 c12 c13 t0 t8 t9 t10 t11 t12 t13 i0 i1 i2 i3 i4 m0 m1 m2 uH (uC.1, uC.2.1, uC.2.2.1, (0 : Int32), (0 : Int32), uC.2.2.2.2.2) uT uI uM) := D_N hD
  refine lv_iload_n hx hb dX4_repair_24 rfl (lv_at hl 0 rfl) ?_
  have hok := Option.some.inj hok
  subst hok
  exact eWi S hr hlk rfl hP hS (Nat.le_of_ble_eq_true rfl) (Nat.le_of_ble_eq_true rfl) dX4_repair_25
theorem hd_X4_passHours : yX4_passHours.cls = RX4 ∧ yX4_passHours.cls ≠ "java/lang/invoke/MethodHandle" ∧ yX4_passHours.cls ≠ "java/lang/invoke/VarHandle" ∧ (parseMethodDescriptor yX4_passHours.desc).map (fun d => d.parameters.length) = some 1 := by decide +kernel
def p_X4_passHours_L31 : Nat → tX1 → tX0 → tX0 → tX2 → tX3 → Int32 → Int32 → Int32 → Option (Int32 × tX0 × tX2)
  | 0, _, _, _, _, _, _, _, _ => none
  | n + 1, uH, uC, uT, uI, uM, l31_1, l31_2, l31_3 =>
    if l31_1 ≤ l31_3 then
      some ((uI.1 - l31_2), uC, uI)
    else
      bd (p_X0_passHour uC uH) (fun v1 =>
      if v1.1 = (-1 : Int32) then
        (p_X4_passHours_L31 n) uH v1.2 uT uI uM l31_1 l31_2 (l31_3 + 1)
      else
        gd v1.2.2.1 12 (
        bd (p_X2_append uI v1.2.2.1 ((v1.2.2.2.2.2.2.2.2.2.1 v1.2.2.1.toNatClampNeg) - (1 : Int32)) v1.1 uC.1) (fun v3 =>
        (p_X4_passHours_L31 n) uH v1.2 uT v3 uM l31_1 l31_2 (l31_3 + 1))))
def p_X4_passHours (uH : tX1) (uC : tX0) (uT : tX0) (uI : tX2) (uM : tX3) (a1 : Int32) : Option (Int32 × tX0 × tX2) :=
  if a1 < (1 : Int32) then
    none
  else
    if a1 ≤ (60 : Int32) then
      p_X4_passHours_L31 200 uH uC uT uI uM a1 uI.1 (0 : Int32)
    else
      none
set_option maxHeartbeats 4000000 in
set_option maxRecDepth 100000 in
theorem c_X4_passHours (l : Launch) (dC : Nat → ClassId) (dI : Nat → Nat → Nat) (cI cZ : ClassId) (n0 h0 h3 h4 h5 h6 c0 c8 c9 c10 c11 c12 c13 t0 t8 t9 t10 t11 t12 t13 i0 i1 i2 i3 i4 m0 m1 m2 : Nat) (sz : Nat) (uH : tX1) (uC : tX0) (uT : tX0) (uI : tX2) (uM : tX3) (a1 : Int32) {z : (Int32 × tX0 × tX2)} (hok : p_X4_passHours uH uC uT uI uM a1 = some z) : Met l yX4_passHours (Cond.code yX4_passHours cX4_passHours 6 (some .int) :: lw_all) { frames := 4, cells := 0, slots := 0, locals := 89 } (prW (dC, dI) vwCl (TYS cI cZ) (wN cI cZ n0 h0 h3 h4 h5 h6 c0 c8 c9 c10 c11 c12 c13 t0 t8 t9 t10 t11 t12 t13 i0 i1 i2 i3 i4 m0 m1 m2 uH uC uT uI uM) sz [.ref n0, .int a1]) (va_Qi (fun (r : Int32) (_ : Unit) => r = z.1) (fun _ t => va_P (dC, dI) vwCl (wN cI cZ n0 h0 h3 h4 h5 h6 c0 c8 c9 c10 c11 c12 c13 t0 t8 t9 t10 t11 t12 t13 i0 i1 i2 i3 i4 m0 m1 m2 uH z.2.1 uT z.2.2 uM) t.heap) (va_A (wN cI cZ n0 h0 h3 h4 h5 h6 c0 c8 c9 c10 c11 c12 c13 t0 t8 t9 t10 t11 t12 t13 i0 i1 i2 i3 i4 m0 m1 m2 uH uC uT uI uM) sz)) 0 0 (va_A (wN cI cZ n0 h0 h3 h4 h5 h6 c0 c8 c9 c10 c11 c12 c13 t0 t8 t9 t10 t11 t12 t13 i0 i1 i2 i3 i4 m0 m1 m2 uH uC uT uI uM) sz) := by
  refine oM (by decide) (Nat.le_of_ble_eq_true rfl) ?_
  intro p e s m args below meth c S hr hlk hnm hB ls hl
  have hx := S.1
  have hb := S.2.1
  have hml := S.2.2.1
  have hown : s.vm.findClass RX4 = some m.cls := S.2.2.2.1
  have hts := S.2.2.2.2
  have S : CallFix p m c cX4_passHours 6 s args lw_all RX4 := S
  have hl : lv_has ls 6 [(0, .ref n0), (1, .int a1)] := hl
  obtain ⟨hsz, hP, hK, hD0⟩ := hB
  subst hsz
  have hD := hD0.self (sz := s.heap.size)
  generalize hAe : va_A (wN cI cZ n0 h0 h3 h4 h5 h6 c0 c8 c9 c10 c11 c12 c13 t0 t8 t9 t10 t11 t12 t13 i0 i1 i2 i3 i4 m0 m1 m2 uH uC uT uI uM) s.heap.size = A at hD ⊢
  have hA : ∀ q : Nat, s.heap.size ≤ q → A q := fun q h => by rw [← hAe]; exact Or.inr h
  have hS : va_S A s.heap s.heap [] := va_S.rf
  have hP : va_P (dC, dI) vwCl (wN cI cZ n0 h0 h3 h4 h5 h6 c0 c8 c9 c10 c11 c12 c13 t0 t8 t9 t10 t11 t12 t13 i0 i1 i2 i3 i4 m0 m1 m2 uH uC uT uI uM) s.heap := hP
  have L31 : ∀ n31 : Nat, ∀ (uC : tX0) (uI : tX2) (l31_1 : Int32) (l31_2 : Int32) (l31_3 : Int32) (H : Heap) (locs : List Loc) (hP : va_P (dC, dI) vwCl (wN cI cZ n0 h0 h3 h4 h5 h6 c0 c8 c9 c10 c11 c12 c13 t0 t8 t9 t10 t11 t12 t13 i0 i1 i2 i3 i4 m0 m1 m2 uH uC uT uI uM) H) (hD : va_D A (wN cI cZ n0 h0 h3 h4 h5 h6 c0 c8 c9 c10 c11 c12 c13 t0 t8 t9 t10 t11 t12 t13 i0 i1 i2 i3 i4 m0 m1 m2 uH uC uT uI uM)) (hS : va_S A s.heap H locs) (ls : Array Slot) (hl : lv_has ls 6 [(0, .ref n0), (1, .int l31_1), (2, .int l31_2), (3, .int l31_3)]) (hok : p_X4_passHours_L31 n31 uH uC uT uI uM l31_1 l31_2 l31_3 = some z), W p l e { frames := 4, cells := 0, slots := 0, locals := 89 } s m args below meth c H locs 0 0 (MQ below (va_Qi (fun (r : Int32) (_ : Unit) => r = z.1) (fun _ t => va_P (dC, dI) vwCl (wN cI cZ n0 h0 h3 h4 h5 h6 c0 c8 c9 c10 c11 c12 c13 t0 t8 t9 t10 t11 t12 t13 i0 i1 i2 i3 i4 m0 m1 m2 uH z.2.1 uT z.2.2 uM) t.heap) A) args s 0 0 A) (F0 m 31 ls []) := by
    intro n31
    induction n31 with
    | zero =>
      intro uC uI l31_1 l31_2 l31_3 H locs hP hD hS ls hl hok
      rw [p_X4_passHours_L31] at hok
      cases hok
    | succ n31 ih31 =>
      intro uC uI l31_1 l31_2 l31_3 H locs hP hD hS ls hl hok
      rw [p_X4_passHours_L31] at hok
      refine lv_iload_n hx hb dX4_passHours_31 rfl (lv_at hl 3 rfl) ?_
      refine lv_iload_n hx hb dX4_passHours_32 rfl (lv_at hl 1 rfl) ?_
      refine lv_icmp_ge (tgt := 101) hx hb dX4_passHours_33 (by decide) (fun hc => ?_) (fun hc => ?_)
      · have hok := ip hok hc
        refine lv_aload_n hx hb dX4_passHours_101 rfl (lv_at hl 0 rfl) ?_
        refine va_get (D := (dC, dI)) (ci := 4) (v := .ref i0) (C := RX4) (T := TX4) (N := 5) hx hb hts inX4 hown hK hP 0 rfl rfl 3 (by decide) (hts _ qf_X4_31) (fun _ h9 => h9) rfl dX4_passHours_102 ?_
        refine va_get (D := (dC, dI)) (ci := 2) (v := .int uI.1) (C := RX2) (T := TX2) (N := 5) hx hb hts inX2 hown hK hP 20 rfl rfl 0 (by decide) (hts _ qf_X4_56) (fun _ h9 => h9) rfl dX4_passHours_105 ?_
        refine lv_iload_n hx hb dX4_passHours_108 rfl (lv_at hl 2 rfl) ?_
        refine lv_isub hx hb dX4_passHours_109 ?_
        have hok := Option.some.inj hok
        subst hok
        exact eWi S hr hlk rfl hP hS (Nat.le_of_ble_eq_true rfl) (Nat.le_of_ble_eq_true rfl) dX4_passHours_110
      · have hok := iq hok hc
        refine lv_aload_n hx hb dX4_passHours_36 rfl (lv_at hl 0 rfl) ?_
        refine va_get (D := (dC, dI)) (ci := 4) (v := .ref c0) (C := RX4) (T := TX4) (N := 5) hx hb hts inX4 hown hK hP 0 rfl rfl 1 (by decide) (hts _ qf_X4_21) (fun _ h9 => h9) rfl dX4_passHours_37 ?_
        refine va_get (D := (dC, dI)) (ci := 0) (v := .int uC.1) (C := RX0) (T := TX0) (N := 14) hx hb hts inX0 hown hK hP 6 rfl rfl 1 (by decide) (hts _ qf_X4_133) (fun _ h9 => h9) rfl dX4_passHours_40 ?_
        refine lv_istore (lv' := [(4, .int uC.1), (0, .ref n0), (1, .int l31_1), (2, .int l31_2), (3, .int l31_3)]) hx hb dX4_passHours_43 hl (by decide) rfl (fun ls hl => ?_)
        refine lv_aload_n hx hb dX4_passHours_45 rfl (lv_at hl 1 rfl) ?_
        refine va_get (D := (dC, dI)) (ci := 4) (v := .ref c0) (C := RX4) (T := TX4) (N := 5) hx hb hts inX4 hown hK hP 0 rfl rfl 1 (by decide) (hts _ qf_X4_21) (fun _ h9 => h9) rfl dX4_passHours_46 ?_
        obtain ⟨v1, hc1, hok⟩ := bd_some hok
        refine cUVi (ci := 0) (q0 := 0) [] S hK (cP_CH hP) (cD_CH hD) hS hA (c_X0_passHour l dC dI cI cZ c0 c8 c9 c10 c11 c12 c13 h0 h3 h4 h5 h6 _ uC uH hc1) (lw_V qm_X4_136 qi_X0_passHour qs_X0_passHour qn_X0 qc_X0_passHour) hd_X0_passHour ⟨rfl, rfl⟩ ⟨Nat.le_of_ble_eq_true rfl, Nat.le_of_ble_eq_true rfl⟩ ⟨Nat.le_of_ble_eq_true rfl, Nat.le_of_ble_eq_true rfl⟩ rfl rfl rfl hl.1 (Nat.le_of_ble_eq_true rfl) rfl dX4_passHours_49 (fun H1 hk9 h9 => cJ_CH hP hD hk9 h9) (D_N hD) (fun H locs hP hD hS => ?_)
        refine lv_istore (lv' := [(5, .int v1.1), (4, .int uC.1), (0, .ref n0), (1, .int l31_1), (2, .int l31_2), (3, .int l31_3)]) hx hb dX4_passHours_52 hl (by decide) rfl (fun ls hl => ?_)
        refine lv_iload hx hb dX4_passHours_54 (lv_at hl 0 rfl) ?_
        refine lv_iconst (v := (-1 : Int32)) hx hb dX4_passHours_56 (by decide) ?_
        refine lv_icmp_eq (tgt := 95) hx hb dX4_passHours_57 (by decide) (fun hc => ?_) (fun hc => ?_)
        · have hok := ip hok hc
          refine lv_iinc (v := (l31_3 + 1)) (lv' := [(3, .int (l31_3 + 1)), (5, .int v1.1), (4, .int uC.1), (0, .ref n0), (1, .int l31_1), (2, .int l31_2)]) hx hb dX4_passHours_95 hl (k := 5) rfl rfl (by decide) rfl (fun ls hl => ?_)
          refine lv_goto (tgt := 31) hx hb dX4_passHours_98 (by decide) ?_
          exact ih31 v1.2 uI l31_1 l31_2 (l31_3 + 1) _ _ hP hD hS _ (lv_sub hl [3, 4, 5, 0] rfl) hok
        · have hok := iq hok hc
          refine lv_aload_n hx hb dX4_passHours_60 rfl (lv_at hl 2 rfl) ?_
          refine va_get (D := (dC, dI)) (ci := 4) (v := .ref i0) (C := RX4) (T := TX4) (N := 5) hx hb hts inX4 hown hK hP 0 rfl rfl 3 (by decide) (hts _ qf_X4_31) (fun _ h9 => h9) rfl dX4_passHours_61 ?_
          refine lv_aload_n hx hb dX4_passHours_64 rfl (lv_at hl 2 rfl) ?_
          refine va_get (D := (dC, dI)) (ci := 4) (v := .ref c0) (C := RX4) (T := TX4) (N := 5) hx hb hts inX4 hown hK hP 0 rfl rfl 1 (by decide) (hts _ qf_X4_21) (fun _ h9 => h9) rfl dX4_passHours_65 ?_
          refine va_get (D := (dC, dI)) (ci := 0) (v := .int v1.2.2.1) (C := RX0) (T := TX0) (N := 14) hx hb hts inX0 hown hK hP 6 rfl rfl 2 (by decide) (hts _ qf_X4_139) (fun _ h9 => h9) rfl dX4_passHours_68 ?_
          refine lv_aload_n hx hb dX4_passHours_71 rfl (lv_at hl 2 rfl) ?_
          refine va_get (D := (dC, dI)) (ci := 4) (v := .ref c0) (C := RX4) (T := TX4) (N := 5) hx hb hts inX4 hown hK hP 0 rfl rfl 1 (by decide) (hts _ qf_X4_21) (fun _ h9 => h9) rfl dX4_passHours_72 ?_
          refine va_get (D := (dC, dI)) (ci := 0) (v := .ref c9) (C := RX0) (T := TX0) (N := 14) hx hb hts inX0 hown hK hP 6 rfl rfl 9 (by decide) (hts _ qf_X4_142) (fun _ h9 => h9) rfl dX4_passHours_75 ?_
          refine lv_aload_n hx hb dX4_passHours_78 rfl (lv_at hl 2 rfl) ?_
          refine va_get (D := (dC, dI)) (ci := 4) (v := .ref c0) (C := RX4) (T := TX4) (N := 5) hx hb hts inX4 hown hK hP 0 rfl rfl 1 (by decide) (hts _ qf_X4_21) (fun _ h9 => h9) rfl dX4_passHours_79 ?_
          refine va_get (D := (dC, dI)) (ci := 0) (v := .int v1.2.2.1) (C := RX0) (T := TX0) (N := 14) hx hb hts inX0 hown hK hP 6 rfl rfl 2 (by decide) (hts _ qf_X4_139) (fun _ h9 => h9) rfl dX4_passHours_82 ?_
          obtain ⟨hi2, hok⟩ := gd_some hok
          refine va_iald hx hb hK hP 8 0 rfl rfl hi2 dX4_passHours_85 ?_
          refine lv_iconst (v := (1 : Int32)) hx hb dX4_passHours_86 (by decide) ?_
          refine lv_isub hx hb dX4_passHours_87 ?_
          refine lv_iload hx hb dX4_passHours_88 (lv_at hl 0 rfl) ?_
          refine lv_iload hx hb dX4_passHours_90 (lv_at hl 1 rfl) ?_
          obtain ⟨v3, hc3, hok⟩ := bd_some hok
          refine cUVv (ci := 2) (q0 := 0) [.int v1.2.2.1, .int ((v1.2.2.2.2.2.2.2.2.2.1 v1.2.2.1.toNatClampNeg) - (1 : Int32)), .int v1.1, .int uC.1] S hK (cP_I hP) (cD_I hD) hS hA (c_X2_append l dC dI cI cZ i0 i1 i2 i3 i4 _ uI v1.2.2.1 ((v1.2.2.2.2.2.2.2.2.2.1 v1.2.2.1.toNatClampNeg) - (1 : Int32)) v1.1 uC.1 hc3) (lw_V qm_X4_145 qi_X2_append qs_X2_append qn_X2 qc_X2_append) hd_X2_append ⟨rfl, rfl⟩ ⟨Nat.le_of_ble_eq_true rfl, Nat.le_of_ble_eq_true rfl⟩ ⟨Nat.le_of_ble_eq_true rfl, Nat.le_of_ble_eq_true rfl⟩ rfl rfl rfl hl.1 (Nat.le_of_ble_eq_true rfl) rfl dX4_passHours_92 (fun H1 hk9 h9 => cJ_I hP hD hk9 h9) (D_N hD) (fun H locs hP hD hS => ?_)
          refine lv_iinc (v := (l31_3 + 1)) (lv' := [(3, .int (l31_3 + 1)), (5, .int v1.1), (4, .int uC.1), (0, .ref n0), (1, .int l31_1), (2, .int l31_2)]) hx hb dX4_passHours_95 hl (k := 5) rfl rfl (by decide) rfl (fun ls hl => ?_)
          refine lv_goto (tgt := 31) hx hb dX4_passHours_98 (by decide) ?_
          exact ih31 v1.2 v3 l31_1 l31_2 (l31_3 + 1) _ _ hP hD hS _ (lv_sub hl [3, 4, 5, 0] rfl) hok
  unfold p_X4_passHours at hok
  refine lv_iload_n hx hb dX4_passHours_0 rfl (lv_at hl 1 rfl) ?_
  refine lv_iconst (v := (1 : Int32)) hx hb dX4_passHours_1 (by decide) ?_
  refine lv_icmp_lt (tgt := 11) hx hb dX4_passHours_2 (by decide) (fun hc => ?_) (fun hc => ?_)
  · have hok := ip hok hc
    cases hok
  · have hok := iq hok hc
    refine lv_iload_n hx hb dX4_passHours_5 rfl (lv_at hl 1 rfl) ?_
    refine lv_bipush (v := (60 : Int32)) hx hb dX4_passHours_6 (by decide) ?_
    refine lv_icmp_le (tgt := 21) hx hb dX4_passHours_8 (by decide) (fun hc => ?_) (fun hc => ?_)
    · have hok := ip hok hc
      refine lv_aload_n hx hb dX4_passHours_21 rfl (lv_at hl 0 rfl) ?_
      refine va_get (D := (dC, dI)) (ci := 4) (v := .ref i0) (C := RX4) (T := TX4) (N := 5) hx hb hts inX4 hown hK hP 0 rfl rfl 3 (by decide) (hts _ qf_X4_31) (fun _ h9 => h9) rfl dX4_passHours_22 ?_
      refine va_get (D := (dC, dI)) (ci := 2) (v := .int uI.1) (C := RX2) (T := TX2) (N := 5) hx hb hts inX2 hown hK hP 20 rfl rfl 0 (by decide) (hts _ qf_X4_56) (fun _ h9 => h9) rfl dX4_passHours_25 ?_
      refine lv_istore_n (lv' := [(2, .int uI.1), (0, .ref n0), (1, .int a1)]) hx hb dX4_passHours_28 rfl hl (by decide) rfl (fun ls hl => ?_)
      refine lv_iconst (v := (0 : Int32)) hx hb dX4_passHours_29 (by decide) ?_
      refine lv_istore_n (lv' := [(3, .int (0 : Int32)), (2, .int uI.1), (0, .ref n0), (1, .int a1)]) hx hb dX4_passHours_30 rfl hl (by decide) rfl (fun ls hl => ?_)
      exact L31 200 uC uI a1 uI.1 (0 : Int32) _ _ hP hD hS _ (lv_sub hl [2, 3, 1, 0] rfl) hok
    · have hok := iq hok hc
      cases hok
theorem hd_X4_floors : yX4_floors.cls = RX4 ∧ yX4_floors.cls ≠ "java/lang/invoke/MethodHandle" ∧ yX4_floors.cls ≠ "java/lang/invoke/VarHandle" ∧ (parseMethodDescriptor yX4_floors.desc).map (fun d => d.parameters.length) = some 0 := by decide +kernel
def p_X4_floors (uH : tX1) (uC : tX0) (uT : tX0) (uI : tX2) (uM : tX3) : Option Int32 :=
  some uH.1
set_option maxHeartbeats 4000000 in
set_option maxRecDepth 100000 in
theorem c_X4_floors (l : Launch) (dC : Nat → ClassId) (dI : Nat → Nat → Nat) (cI cZ : ClassId) (n0 h0 h3 h4 h5 h6 c0 c8 c9 c10 c11 c12 c13 t0 t8 t9 t10 t11 t12 t13 i0 i1 i2 i3 i4 m0 m1 m2 : Nat) (uH : tX1) (uC : tX0) (uT : tX0) (uI : tX2) (uM : tX3) {z : Int32} (hok : p_X4_floors uH uC uT uI uM = some z) : Met l yX4_floors (Cond.code yX4_floors cX4_floors 1 (some .int) :: lw_all) { frames := 0, cells := 0, slots := 0, locals := 0 } (prR (dC, dI) vwCl (TYS cI cZ) (wN cI cZ n0 h0 h3 h4 h5 h6 c0 c8 c9 c10 c11 c12 c13 t0 t8 t9 t10 t11 t12 t13 i0 i1 i2 i3 i4 m0 m1 m2 uH uC uT uI uM) [.ref n0]) (vp_Si (fun r => r = z)) 0 0 (fun _ => False) := by
  refine oM (by decide) (Nat.le_of_ble_eq_true rfl) ?_
  intro p e s m args below meth c S hr hlk hnm hB ls hl
  have hx := S.1
  have hb := S.2.1
  have hml := S.2.2.1
  have hown : s.vm.findClass RX4 = some m.cls := S.2.2.2.1
  have hts := S.2.2.2.2
  have S : CallFix p m c cX4_floors 1 s args lw_all RX4 := S
  have hl : lv_has ls 1 [(0, .ref n0)] := hl
  obtain ⟨hP, hK⟩ := hB
  have hP : va_P (dC, dI) vwCl (wN cI cZ n0 h0 h3 h4 h5 h6 c0 c8 c9 c10 c11 c12 c13 t0 t8 t9 t10 t11 t12 t13 i0 i1 i2 i3 i4 m0 m1 m2 uH uC uT uI uM) s.heap := hP
  unfold p_X4_floors at hok
  refine lv_aload_n hx hb dX4_floors_0 rfl (lv_at hl 0 rfl) ?_
  refine va_get (D := (dC, dI)) (ci := 4) (v := .ref h0) (C := RX4) (T := TX4) (N := 5) hx hb hts inX4 hown hK hP 0 rfl rfl 0 (by decide) (hts _ qf_X4_12) (fun _ h9 => h9) rfl dX4_floors_1 ?_
  refine va_get (D := (dC, dI)) (ci := 1) (v := .int uH.1) (C := RX1) (T := TX1) (N := 7) hx hb hts inX1 hown hK hP 1 rfl rfl 0 (by decide) (hts _ qf_X4_148) (fun _ h9 => h9) rfl dX4_floors_4 ?_
  exact eRi S hr hlk (Option.some.inj hok) dX4_floors_7
theorem hd_X4_hours : yX4_hours.cls = RX4 ∧ yX4_hours.cls ≠ "java/lang/invoke/MethodHandle" ∧ yX4_hours.cls ≠ "java/lang/invoke/VarHandle" ∧ (parseMethodDescriptor yX4_hours.desc).map (fun d => d.parameters.length) = some 0 := by decide +kernel
def p_X4_hours (uH : tX1) (uC : tX0) (uT : tX0) (uI : tX2) (uM : tX3) : Option Int32 :=
  some uC.1
set_option maxHeartbeats 4000000 in
set_option maxRecDepth 100000 in
theorem c_X4_hours (l : Launch) (dC : Nat → ClassId) (dI : Nat → Nat → Nat) (cI cZ : ClassId) (n0 h0 h3 h4 h5 h6 c0 c8 c9 c10 c11 c12 c13 t0 t8 t9 t10 t11 t12 t13 i0 i1 i2 i3 i4 m0 m1 m2 : Nat) (uH : tX1) (uC : tX0) (uT : tX0) (uI : tX2) (uM : tX3) {z : Int32} (hok : p_X4_hours uH uC uT uI uM = some z) : Met l yX4_hours (Cond.code yX4_hours cX4_hours 1 (some .int) :: lw_all) { frames := 0, cells := 0, slots := 0, locals := 0 } (prR (dC, dI) vwCl (TYS cI cZ) (wN cI cZ n0 h0 h3 h4 h5 h6 c0 c8 c9 c10 c11 c12 c13 t0 t8 t9 t10 t11 t12 t13 i0 i1 i2 i3 i4 m0 m1 m2 uH uC uT uI uM) [.ref n0]) (vp_Si (fun r => r = z)) 0 0 (fun _ => False) := by
  refine oM (by decide) (Nat.le_of_ble_eq_true rfl) ?_
  intro p e s m args below meth c S hr hlk hnm hB ls hl
  have hx := S.1
  have hb := S.2.1
  have hml := S.2.2.1
  have hown : s.vm.findClass RX4 = some m.cls := S.2.2.2.1
  have hts := S.2.2.2.2
  have S : CallFix p m c cX4_hours 1 s args lw_all RX4 := S
  have hl : lv_has ls 1 [(0, .ref n0)] := hl
  obtain ⟨hP, hK⟩ := hB
  have hP : va_P (dC, dI) vwCl (wN cI cZ n0 h0 h3 h4 h5 h6 c0 c8 c9 c10 c11 c12 c13 t0 t8 t9 t10 t11 t12 t13 i0 i1 i2 i3 i4 m0 m1 m2 uH uC uT uI uM) s.heap := hP
  unfold p_X4_hours at hok
  refine lv_aload_n hx hb dX4_hours_0 rfl (lv_at hl 0 rfl) ?_
  refine va_get (D := (dC, dI)) (ci := 4) (v := .ref c0) (C := RX4) (T := TX4) (N := 5) hx hb hts inX4 hown hK hP 0 rfl rfl 1 (by decide) (hts _ qf_X4_21) (fun _ h9 => h9) rfl dX4_hours_1 ?_
  refine va_get (D := (dC, dI)) (ci := 0) (v := .int uC.1) (C := RX0) (T := TX0) (N := 14) hx hb hts inX0 hown hK hP 6 rfl rfl 1 (by decide) (hts _ qf_X4_133) (fun _ h9 => h9) rfl dX4_hours_4 ?_
  exact eRi S hr hlk (Option.some.inj hok) dX4_hours_7
theorem hd_X4_liftAt : yX4_liftAt.cls = RX4 ∧ yX4_liftAt.cls ≠ "java/lang/invoke/MethodHandle" ∧ yX4_liftAt.cls ≠ "java/lang/invoke/VarHandle" ∧ (parseMethodDescriptor yX4_liftAt.desc).map (fun d => d.parameters.length) = some 0 := by decide +kernel
def p_X4_liftAt (uH : tX1) (uC : tX0) (uT : tX0) (uI : tX2) (uM : tX3) : Option Int32 :=
  some uC.2.1
set_option maxHeartbeats 4000000 in
set_option maxRecDepth 100000 in
theorem c_X4_liftAt (l : Launch) (dC : Nat → ClassId) (dI : Nat → Nat → Nat) (cI cZ : ClassId) (n0 h0 h3 h4 h5 h6 c0 c8 c9 c10 c11 c12 c13 t0 t8 t9 t10 t11 t12 t13 i0 i1 i2 i3 i4 m0 m1 m2 : Nat) (uH : tX1) (uC : tX0) (uT : tX0) (uI : tX2) (uM : tX3) {z : Int32} (hok : p_X4_liftAt uH uC uT uI uM = some z) : Met l yX4_liftAt (Cond.code yX4_liftAt cX4_liftAt 1 (some .int) :: lw_all) { frames := 0, cells := 0, slots := 0, locals := 0 } (prR (dC, dI) vwCl (TYS cI cZ) (wN cI cZ n0 h0 h3 h4 h5 h6 c0 c8 c9 c10 c11 c12 c13 t0 t8 t9 t10 t11 t12 t13 i0 i1 i2 i3 i4 m0 m1 m2 uH uC uT uI uM) [.ref n0]) (vp_Si (fun r => r = z)) 0 0 (fun _ => False) := by
  refine oM (by decide) (Nat.le_of_ble_eq_true rfl) ?_
  intro p e s m args below meth c S hr hlk hnm hB ls hl
  have hx := S.1
  have hb := S.2.1
  have hml := S.2.2.1
  have hown : s.vm.findClass RX4 = some m.cls := S.2.2.2.1
  have hts := S.2.2.2.2
  have S : CallFix p m c cX4_liftAt 1 s args lw_all RX4 := S
  have hl : lv_has ls 1 [(0, .ref n0)] := hl
  obtain ⟨hP, hK⟩ := hB
  have hP : va_P (dC, dI) vwCl (wN cI cZ n0 h0 h3 h4 h5 h6 c0 c8 c9 c10 c11 c12 c13 t0 t8 t9 t10 t11 t12 t13 i0 i1 i2 i3 i4 m0 m1 m2 uH uC uT uI uM) s.heap := hP
  unfold p_X4_liftAt at hok
  refine lv_aload_n hx hb dX4_liftAt_0 rfl (lv_at hl 0 rfl) ?_
  refine va_get (D := (dC, dI)) (ci := 4) (v := .ref c0) (C := RX4) (T := TX4) (N := 5) hx hb hts inX4 hown hK hP 0 rfl rfl 1 (by decide) (hts _ qf_X4_21) (fun _ h9 => h9) rfl dX4_liftAt_1 ?_
  refine va_get (D := (dC, dI)) (ci := 0) (v := .int uC.2.1) (C := RX0) (T := TX0) (N := 14) hx hb hts inX0 hown hK hP 6 rfl rfl 2 (by decide) (hts _ qf_X4_139) (fun _ h9 => h9) rfl dX4_liftAt_4 ?_
  exact eRi S hr hlk (Option.some.inj hok) dX4_liftAt_7
theorem hd_X4_goes : yX4_goes.cls = RX4 ∧ yX4_goes.cls ≠ "java/lang/invoke/MethodHandle" ∧ yX4_goes.cls ≠ "java/lang/invoke/VarHandle" ∧ (parseMethodDescriptor yX4_goes.desc).map (fun d => d.parameters.length) = some 0 := by decide +kernel
def p_X4_goes (uH : tX1) (uC : tX0) (uT : tX0) (uI : tX2) (uM : tX3) : Option Int32 :=
  some uC.2.2.1
set_option maxHeartbeats 4000000 in
set_option maxRecDepth 100000 in
theorem c_X4_goes (l : Launch) (dC : Nat → ClassId) (dI : Nat → Nat → Nat) (cI cZ : ClassId) (n0 h0 h3 h4 h5 h6 c0 c8 c9 c10 c11 c12 c13 t0 t8 t9 t10 t11 t12 t13 i0 i1 i2 i3 i4 m0 m1 m2 : Nat) (uH : tX1) (uC : tX0) (uT : tX0) (uI : tX2) (uM : tX3) {z : Int32} (hok : p_X4_goes uH uC uT uI uM = some z) : Met l yX4_goes (Cond.code yX4_goes cX4_goes 1 (some .int) :: lw_all) { frames := 0, cells := 0, slots := 0, locals := 0 } (prR (dC, dI) vwCl (TYS cI cZ) (wN cI cZ n0 h0 h3 h4 h5 h6 c0 c8 c9 c10 c11 c12 c13 t0 t8 t9 t10 t11 t12 t13 i0 i1 i2 i3 i4 m0 m1 m2 uH uC uT uI uM) [.ref n0]) (vp_Si (fun r => r = z)) 0 0 (fun _ => False) := by
  refine oM (by decide) (Nat.le_of_ble_eq_true rfl) ?_
  intro p e s m args below meth c S hr hlk hnm hB ls hl
  have hx := S.1
  have hb := S.2.1
  have hml := S.2.2.1
  have hown : s.vm.findClass RX4 = some m.cls := S.2.2.2.1
  have hts := S.2.2.2.2
  have S : CallFix p m c cX4_goes 1 s args lw_all RX4 := S
  have hl : lv_has ls 1 [(0, .ref n0)] := hl
  obtain ⟨hP, hK⟩ := hB
  have hP : va_P (dC, dI) vwCl (wN cI cZ n0 h0 h3 h4 h5 h6 c0 c8 c9 c10 c11 c12 c13 t0 t8 t9 t10 t11 t12 t13 i0 i1 i2 i3 i4 m0 m1 m2 uH uC uT uI uM) s.heap := hP
  unfold p_X4_goes at hok
  refine lv_aload_n hx hb dX4_goes_0 rfl (lv_at hl 0 rfl) ?_
  refine va_get (D := (dC, dI)) (ci := 4) (v := .ref c0) (C := RX4) (T := TX4) (N := 5) hx hb hts inX4 hown hK hP 0 rfl rfl 1 (by decide) (hts _ qf_X4_21) (fun _ h9 => h9) rfl dX4_goes_1 ?_
  refine va_get (D := (dC, dI)) (ci := 0) (v := .int uC.2.2.1) (C := RX0) (T := TX0) (N := 14) hx hb hts inX0 hown hK hP 6 rfl rfl 3 (by decide) (hts _ qf_X4_151) (fun _ h9 => h9) rfl dX4_goes_4 ?_
  exact eRi S hr hlk (Option.some.inj hok) dX4_goes_7
