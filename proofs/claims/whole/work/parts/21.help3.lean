theorem hd_L_gradesBy : yL_gradesBy.cls ≠ "java/lang/invoke/MethodHandle" ∧ yL_gradesBy.cls ≠ "java/lang/invoke/VarHandle" ∧ (parseMethodDescriptor yL_gradesBy.desc).map (fun d => d.parameters.length) = some 3 := by decide +kernel
def p_L_gradesBy (uH : tX1) (uC : tX0) (uT : tX0) (uI : tX2) (uM : tX3) (fO : Nat → Int64) (a1 : Int32) : Option (Int32 × (Nat → Int64)) := bC (p_X4_gradesBy uH uC uT uI uM a1) (fun v => some ((0 : Int32), vp_updL fO 0 v.toInt64)) (fun E => if E = xIOB then some ((1 : Int32), fO) else none)
set_option maxHeartbeats 4000000 in
set_option maxRecDepth 100000 in
theorem c_L_gradesBy (l : Launch) (hlt : l.stackTraces = false) (dC : Nat → ClassId) (dI : Nat → Nat → Nat) (cI cZ cJ : ClassId) (n0 h0 h3 h4 h5 h6 c0 c8 c9 c10 c11 c12 c13 t0 t8 t9 t10 t11 t12 t13 i0 i1 i2 i3 i4 m0 m1 m2 o0 : Nat) (sz : Nat) (sa : Nat → Nat) (uH : tX1) (uC : tX0) (uT : tX0) (uI : tX2) (uM : tX3) (fO : Nat → Int64) (a1 : Int32) {z : (Int32 × (Nat → Int64))} (hok : p_L_gradesBy uH uC uT uI uM fO a1 = some z) : Met l yL_gradesBy (Cond.codeWith yL_gradesBy cL_gradesBy 4 (some .int) [(0, 9, 12, 19)] :: lw_all) { frames := 8, cells := 1, slots := 6, locals := 132 } (prH (dC, dI) vwCl (TYJ cI cZ cJ) (wN cI cZ n0 h0 h3 h4 h5 h6 c0 c8 c9 c10 c11 c12 c13 t0 t8 t9 t10 t11 t12 t13 i0 i1 i2 i3 i4 m0 m1 m2 uH uC uT uI uM ++ [(o0, .inl (cJ, 1, .inr (.inl fO)))]) sz sa [.ref n0, .int a1, .ref o0]) (va_Qi (fun (r : Int32) (_ : Unit) => r = z.1) (fun _ t => va_P (dC, dI) vwCl (wN cI cZ n0 h0 h3 h4 h5 h6 c0 c8 c9 c10 c11 c12 c13 t0 t8 t9 t10 t11 t12 t13 i0 i1 i2 i3 i4 m0 m1 m2 uH uC uT uI uM ++ [(o0, .inl (cJ, 1, .inr (.inl z.2)))]) t.heap) (va_A (wN cI cZ n0 h0 h3 h4 h5 h6 c0 c8 c9 c10 c11 c12 c13 t0 t8 t9 t10 t11 t12 t13 i0 i1 i2 i3 i4 m0 m1 m2 uH uC uT uI uM ++ [(o0, .inl (cJ, 1, .inr (.inl fO)))]) sz)) 1 6 (va_A (wN cI cZ n0 h0 h3 h4 h5 h6 c0 c8 c9 c10 c11 c12 c13 t0 t8 t9 t10 t11 t12 t13 i0 i1 i2 i3 i4 m0 m1 m2 uH uC uT uI uM ++ [(o0, .inl (cJ, 1, .inr (.inl fO)))]) sz) := by
  refine oH (by decide) (Nat.le_of_ble_eq_true rfl) ?_
  intro p e s m args below meth c S hr hlk hT hB ls hl
  have hx := S.1
  have hb := S.2.1
  have hown : s.vm.findClass RL = some m.cls := S.2.2.2.1
  have hts := S.2.2.2.2
  have S : CallFix p m c cL_gradesBy 4 s args lw_all RL := S
  have hl : lv_has ls 4 [(0, .ref n0), (1, .int a1), (2, .ref o0)] := hl
  obtain ⟨hsz, hP, hK, hD0, hX, hxn⟩ := hB
  subst hsz
  have hD := hD0.self (sz := s.heap.size)
  generalize hAe : va_A (wN cI cZ n0 h0 h3 h4 h5 h6 c0 c8 c9 c10 c11 c12 c13 t0 t8 t9 t10 t11 t12 t13 i0 i1 i2 i3 i4 m0 m1 m2 uH uC uT uI uM ++ [(o0, .inl (cJ, 1, .inr (.inl fO)))]) s.heap.size = A at hD hX ⊢
  have hA : ∀ q : Nat, s.heap.size ≤ q → A q := fun q h => by rw [← hAe]; exact Or.inr h
  have hS0 : va_S (fun _ => False) s.heap s.heap [] := va_S.rf
  have hS : va_S A s.heap s.heap [] := va_S.rf
  have hP : va_P (dC, dI) vwCl (wN cI cZ n0 h0 h3 h4 h5 h6 c0 c8 c9 c10 c11 c12 c13 t0 t8 t9 t10 t11 t12 t13 i0 i1 i2 i3 i4 m0 m1 m2 uH uC uT uI uM ++ [(o0, .inl (cJ, 1, .inr (.inl fO)))]) s.heap := hP
  unfold p_L_gradesBy at hok
  refine lv_aload_n hx hb dL_gradesBy_0 rfl (lv_at hl 2 rfl) ?_
  refine lv_iconst (v := (0 : Int32)) hx hb dL_gradesBy_1 (by decide) ?_
  refine lv_aload_n hx hb dL_gradesBy_2 rfl (lv_at hl 0 rfl) ?_
  refine lv_iload_n hx hb dL_gradesBy_3 rfl (lv_at hl 1 rfl) ?_
  obtain ⟨y, hc1, hok⟩ := bC_some hok
  refine cYVi (ci := 4) (q0 := 0) [.int a1] S (hK.sub (tys' := TYS cI cZ) [0, 1] rfl) hP (cP_NO hP) (cD_NO hD) hS0 (va_S0 hS0) hA hX (c_X4_gradesBy l hlt dC dI cI cZ n0 h0 h3 h4 h5 h6 c0 c8 c9 c10 c11 c12 c13 t0 t8 t9 t10 t11 t12 t13 i0 i1 i2 i3 i4 m0 m1 m2 _ sa uH uC uT uI uM a1 hc1) (lw_V qm_L_91 qi_X4_gradesBy qs_X4_gradesBy qn_X4 qc_X4_gradesBy) hd_X4_gradesBy ⟨rfl, rfl⟩ ⟨Nat.le_of_ble_eq_true rfl, Nat.le_of_ble_eq_true rfl⟩ ⟨Nat.le_of_ble_eq_true rfl, Nat.le_of_ble_eq_true rfl⟩ rfl rfl rfl hl.1 (Nat.le_of_ble_eq_true rfl) rfl dL_gradesBy_4 (fun E ce q9 H1 locs1 hz hS1 hce hcv hcl => ?_) (fun v H locs hz hP hS => ?_)
  · have hPx := va_Pkept hP (fun q hq hn => hS1.2.1 q hq hn)
    have hS1 : va_S A s.heap H1 locs1 := va_S0 hS1
    rw [hz] at hok
    change (if E = xIOB then _ else _) = some z at hok
    by_cases hE : E = xIOB
    · have hok2 := Option.some.inj (ip hok hE)
      subst hE
      subst hok2
      refine vx_catch hown [] ⟨0, 9, 12, 19⟩ [] (hT.trans rfl) (fun z hz => absurd hz List.not_mem_nil) rfl (by decide) (hts _ qk_L_19) (va_Nw.use rfl hX.2.2.2.2.1) hce hcv hcl ?_
      refine lv_astore_n (lv' := [(3, .ref q9), (0, .ref n0), (1, .int a1), (2, .ref o0)]) hx hb dL_gradesBy_12 rfl hl (by decide) rfl (fun ls hl => ?_)
      refine lv_iconst (v := (1 : Int32)) hx hb dL_gradesBy_13 (by decide) ?_
      exact eWi S hr hlk rfl hPx hS1 (Nat.le_of_ble_eq_true rfl) (Nat.le_of_ble_eq_true rfl) dL_gradesBy_14
    · have hok := iq hok hE
      cases hok
  · have hS : va_S A s.heap H locs := va_S0 hS
    rw [hz] at hok
    change some ((0 : Int32), vp_updL fO 0 v.toInt64) = some z at hok
    refine lv_i2l (v := v.toInt64) hx hb dL_gradesBy_7 rfl ?_
    refine va_lastK hx hb hK hP hD hS 28 2 rfl rfl (j := 0) (by decide) (vp_inK (by decide)) dL_gradesBy_8 (fun H locs hP _ hS => ?_)
    have hP : va_P (dC, dI) vwCl (wN cI cZ n0 h0 h3 h4 h5 h6 c0 c8 c9 c10 c11 c12 c13 t0 t8 t9 t10 t11 t12 t13 i0 i1 i2 i3 i4 m0 m1 m2 uH uC uT uI uM ++ [(o0, .inl (cJ, 1, .inr (.inl (vp_updL fO 0 v.toInt64))))]) H := hP
    refine lv_goto (tgt := 15) hx hb dL_gradesBy_9 (by decide) ?_
    refine lv_iconst (v := (0 : Int32)) hx hb dL_gradesBy_15 (by decide) ?_
    have hok := Option.some.inj hok
    subst hok
    exact eWi S hr hlk rfl hP hS (Nat.le_of_ble_eq_true rfl) (Nat.le_of_ble_eq_true rfl) dL_gradesBy_16
theorem hd_L_favouriteOf : yL_favouriteOf.cls ≠ "java/lang/invoke/MethodHandle" ∧ yL_favouriteOf.cls ≠ "java/lang/invoke/VarHandle" ∧ (parseMethodDescriptor yL_favouriteOf.desc).map (fun d => d.parameters.length) = some 3 := by decide +kernel
def p_L_favouriteOf (uH : tX1) (uC : tX0) (uT : tX0) (uI : tX2) (uM : tX3) (fO : Nat → Int64) (a1 : Int32) : Option (Int32 × (Nat → Int64)) := bC (p_X4_favouriteOf uH uC uT uI uM a1) (fun v => some ((0 : Int32), vp_updL fO 0 v.toInt64)) (fun E => if E = xIOB then some ((1 : Int32), fO) else none)
set_option maxHeartbeats 4000000 in
set_option maxRecDepth 100000 in
theorem c_L_favouriteOf (l : Launch) (hlt : l.stackTraces = false) (dC : Nat → ClassId) (dI : Nat → Nat → Nat) (cI cZ cJ : ClassId) (n0 h0 h3 h4 h5 h6 c0 c8 c9 c10 c11 c12 c13 t0 t8 t9 t10 t11 t12 t13 i0 i1 i2 i3 i4 m0 m1 m2 o0 : Nat) (sz : Nat) (sa : Nat → Nat) (uH : tX1) (uC : tX0) (uT : tX0) (uI : tX2) (uM : tX3) (fO : Nat → Int64) (a1 : Int32) {z : (Int32 × (Nat → Int64))} (hok : p_L_favouriteOf uH uC uT uI uM fO a1 = some z) : Met l yL_favouriteOf (Cond.codeWith yL_favouriteOf cL_favouriteOf 4 (some .int) [(0, 9, 12, 19)] :: lw_all) { frames := 8, cells := 1, slots := 6, locals := 136 } (prH (dC, dI) vwCl (TYJ cI cZ cJ) (wN cI cZ n0 h0 h3 h4 h5 h6 c0 c8 c9 c10 c11 c12 c13 t0 t8 t9 t10 t11 t12 t13 i0 i1 i2 i3 i4 m0 m1 m2 uH uC uT uI uM ++ [(o0, .inl (cJ, 1, .inr (.inl fO)))]) sz sa [.ref n0, .int a1, .ref o0]) (va_Qi (fun (r : Int32) (_ : Unit) => r = z.1) (fun _ t => va_P (dC, dI) vwCl (wN cI cZ n0 h0 h3 h4 h5 h6 c0 c8 c9 c10 c11 c12 c13 t0 t8 t9 t10 t11 t12 t13 i0 i1 i2 i3 i4 m0 m1 m2 uH uC uT uI uM ++ [(o0, .inl (cJ, 1, .inr (.inl z.2)))]) t.heap) (va_A (wN cI cZ n0 h0 h3 h4 h5 h6 c0 c8 c9 c10 c11 c12 c13 t0 t8 t9 t10 t11 t12 t13 i0 i1 i2 i3 i4 m0 m1 m2 uH uC uT uI uM ++ [(o0, .inl (cJ, 1, .inr (.inl fO)))]) sz)) 1 6 (va_A (wN cI cZ n0 h0 h3 h4 h5 h6 c0 c8 c9 c10 c11 c12 c13 t0 t8 t9 t10 t11 t12 t13 i0 i1 i2 i3 i4 m0 m1 m2 uH uC uT uI uM ++ [(o0, .inl (cJ, 1, .inr (.inl fO)))]) sz) := by
  refine oH (by decide) (Nat.le_of_ble_eq_true rfl) ?_
  intro p e s m args below meth c S hr hlk hT hB ls hl
  have hx := S.1
  have hb := S.2.1
  have hown : s.vm.findClass RL = some m.cls := S.2.2.2.1
  have hts := S.2.2.2.2
  have S : CallFix p m c cL_favouriteOf 4 s args lw_all RL := S
  have hl : lv_has ls 4 [(0, .ref n0), (1, .int a1), (2, .ref o0)] := hl
  obtain ⟨hsz, hP, hK, hD0, hX, hxn⟩ := hB
  subst hsz
  have hD := hD0.self (sz := s.heap.size)
  generalize hAe : va_A (wN cI cZ n0 h0 h3 h4 h5 h6 c0 c8 c9 c10 c11 c12 c13 t0 t8 t9 t10 t11 t12 t13 i0 i1 i2 i3 i4 m0 m1 m2 uH uC uT uI uM ++ [(o0, .inl (cJ, 1, .inr (.inl fO)))]) s.heap.size = A at hD hX ⊢
  have hA : ∀ q : Nat, s.heap.size ≤ q → A q := fun q h => by rw [← hAe]; exact Or.inr h
  have hS0 : va_S (fun _ => False) s.heap s.heap [] := va_S.rf
  have hS : va_S A s.heap s.heap [] := va_S.rf
  have hP : va_P (dC, dI) vwCl (wN cI cZ n0 h0 h3 h4 h5 h6 c0 c8 c9 c10 c11 c12 c13 t0 t8 t9 t10 t11 t12 t13 i0 i1 i2 i3 i4 m0 m1 m2 uH uC uT uI uM ++ [(o0, .inl (cJ, 1, .inr (.inl fO)))]) s.heap := hP
  unfold p_L_favouriteOf at hok
  refine lv_aload_n hx hb dL_favouriteOf_0 rfl (lv_at hl 2 rfl) ?_
  refine lv_iconst (v := (0 : Int32)) hx hb dL_favouriteOf_1 (by decide) ?_
  refine lv_aload_n hx hb dL_favouriteOf_2 rfl (lv_at hl 0 rfl) ?_
  refine lv_iload_n hx hb dL_favouriteOf_3 rfl (lv_at hl 1 rfl) ?_
  obtain ⟨y, hc1, hok⟩ := bC_some hok
  refine cYVi (ci := 4) (q0 := 0) [.int a1] S (hK.sub (tys' := TYS cI cZ) [0, 1] rfl) hP (cP_NO hP) (cD_NO hD) hS0 (va_S0 hS0) hA hX (c_X4_favouriteOf l hlt dC dI cI cZ n0 h0 h3 h4 h5 h6 c0 c8 c9 c10 c11 c12 c13 t0 t8 t9 t10 t11 t12 t13 i0 i1 i2 i3 i4 m0 m1 m2 _ sa uH uC uT uI uM a1 hc1) (lw_V qm_L_94 qi_X4_favouriteOf qs_X4_favouriteOf qn_X4 qc_X4_favouriteOf) hd_X4_favouriteOf ⟨rfl, rfl⟩ ⟨Nat.le_of_ble_eq_true rfl, Nat.le_of_ble_eq_true rfl⟩ ⟨Nat.le_of_ble_eq_true rfl, Nat.le_of_ble_eq_true rfl⟩ rfl rfl rfl hl.1 (Nat.le_of_ble_eq_true rfl) rfl dL_favouriteOf_4 (fun E ce q9 H1 locs1 hz hS1 hce hcv hcl => ?_) (fun v H locs hz hP hS => ?_)
  · have hPx := va_Pkept hP (fun q hq hn => hS1.2.1 q hq hn)
    have hS1 : va_S A s.heap H1 locs1 := va_S0 hS1
    rw [hz] at hok
    change (if E = xIOB then _ else _) = some z at hok
    by_cases hE : E = xIOB
    · have hok2 := Option.some.inj (ip hok hE)
      subst hE
      subst hok2
      refine vx_catch hown [] ⟨0, 9, 12, 19⟩ [] (hT.trans rfl) (fun z hz => absurd hz List.not_mem_nil) rfl (by decide) (hts _ qk_L_19) (va_Nw.use rfl hX.2.2.2.2.1) hce hcv hcl ?_
      refine lv_astore_n (lv' := [(3, .ref q9), (0, .ref n0), (1, .int a1), (2, .ref o0)]) hx hb dL_favouriteOf_12 rfl hl (by decide) rfl (fun ls hl => ?_)
      refine lv_iconst (v := (1 : Int32)) hx hb dL_favouriteOf_13 (by decide) ?_
      exact eWi S hr hlk rfl hPx hS1 (Nat.le_of_ble_eq_true rfl) (Nat.le_of_ble_eq_true rfl) dL_favouriteOf_14
    · have hok := iq hok hE
      cases hok
  · have hS : va_S A s.heap H locs := va_S0 hS
    rw [hz] at hok
    change some ((0 : Int32), vp_updL fO 0 v.toInt64) = some z at hok
    refine lv_i2l (v := v.toInt64) hx hb dL_favouriteOf_7 rfl ?_
    refine va_lastK hx hb hK hP hD hS 28 2 rfl rfl (j := 0) (by decide) (vp_inK (by decide)) dL_favouriteOf_8 (fun H locs hP _ hS => ?_)
    have hP : va_P (dC, dI) vwCl (wN cI cZ n0 h0 h3 h4 h5 h6 c0 c8 c9 c10 c11 c12 c13 t0 t8 t9 t10 t11 t12 t13 i0 i1 i2 i3 i4 m0 m1 m2 uH uC uT uI uM ++ [(o0, .inl (cJ, 1, .inr (.inl (vp_updL fO 0 v.toInt64))))]) H := hP
    refine lv_goto (tgt := 15) hx hb dL_favouriteOf_9 (by decide) ?_
    refine lv_iconst (v := (0 : Int32)) hx hb dL_favouriteOf_15 (by decide) ?_
    have hok := Option.some.inj hok
    subst hok
    exact eWi S hr hlk rfl hP hS (Nat.le_of_ble_eq_true rfl) (Nat.le_of_ble_eq_true rfl) dL_favouriteOf_16
theorem hd_L_hoursUntilStop : yL_hoursUntilStop.cls ≠ "java/lang/invoke/MethodHandle" ∧ yL_hoursUntilStop.cls ≠ "java/lang/invoke/VarHandle" ∧ (parseMethodDescriptor yL_hoursUntilStop.desc).map (fun d => d.parameters.length) = some 3 := by decide +kernel
def p_L_hoursUntilStop (uH : tX1) (uC : tX0) (uT : tX0) (uI : tX2) (uM : tX3) (fO : Nat → Int64) (a1 : Int32) : Option (Int32 × tX0 × (Nat → Int64)) := bC (p_X4_hoursUntilStop uH uC uT uI uM a1) (fun v => some ((0 : Int32), v.2, vp_updL fO 0 v.1.toInt64)) (fun E => if E = xIOB then some ((1 : Int32), uT, fO) else none)
set_option maxHeartbeats 4000000 in
set_option maxRecDepth 100000 in
theorem c_L_hoursUntilStop (l : Launch) (hlt : l.stackTraces = false) (dC : Nat → ClassId) (dI : Nat → Nat → Nat) (cI cZ cJ : ClassId) (n0 h0 h3 h4 h5 h6 c0 c8 c9 c10 c11 c12 c13 t0 t8 t9 t10 t11 t12 t13 i0 i1 i2 i3 i4 m0 m1 m2 o0 : Nat) (sz : Nat) (sa : Nat → Nat) (uH : tX1) (uC : tX0) (uT : tX0) (uI : tX2) (uM : tX3) (fO : Nat → Int64) (a1 : Int32) {z : (Int32 × tX0 × (Nat → Int64))} (hok : p_L_hoursUntilStop uH uC uT uI uM fO a1 = some z) : Met l yL_hoursUntilStop (Cond.codeWith yL_hoursUntilStop cL_hoursUntilStop 4 (some .int) [(0, 9, 12, 19)] :: lw_all) { frames := 8, cells := 1, slots := 6, locals := 133 } (prH (dC, dI) vwCl (TYJ cI cZ cJ) (wN cI cZ n0 h0 h3 h4 h5 h6 c0 c8 c9 c10 c11 c12 c13 t0 t8 t9 t10 t11 t12 t13 i0 i1 i2 i3 i4 m0 m1 m2 uH uC uT uI uM ++ [(o0, .inl (cJ, 1, .inr (.inl fO)))]) sz sa [.ref n0, .int a1, .ref o0]) (va_Qi (fun (r : Int32) (_ : Unit) => r = z.1) (fun _ t => va_P (dC, dI) vwCl (wN cI cZ n0 h0 h3 h4 h5 h6 c0 c8 c9 c10 c11 c12 c13 t0 t8 t9 t10 t11 t12 t13 i0 i1 i2 i3 i4 m0 m1 m2 uH uC z.2.1 uI uM ++ [(o0, .inl (cJ, 1, .inr (.inl z.2.2)))]) t.heap) (va_A (wN cI cZ n0 h0 h3 h4 h5 h6 c0 c8 c9 c10 c11 c12 c13 t0 t8 t9 t10 t11 t12 t13 i0 i1 i2 i3 i4 m0 m1 m2 uH uC uT uI uM ++ [(o0, .inl (cJ, 1, .inr (.inl fO)))]) sz)) 1 6 (va_A (wN cI cZ n0 h0 h3 h4 h5 h6 c0 c8 c9 c10 c11 c12 c13 t0 t8 t9 t10 t11 t12 t13 i0 i1 i2 i3 i4 m0 m1 m2 uH uC uT uI uM ++ [(o0, .inl (cJ, 1, .inr (.inl fO)))]) sz) := by
  refine oH (by decide) (Nat.le_of_ble_eq_true rfl) ?_
  intro p e s m args below meth c S hr hlk hT hB ls hl
  have hx := S.1
  have hb := S.2.1
  have hown : s.vm.findClass RL = some m.cls := S.2.2.2.1
  have hts := S.2.2.2.2
  have S : CallFix p m c cL_hoursUntilStop 4 s args lw_all RL := S
  have hl : lv_has ls 4 [(0, .ref n0), (1, .int a1), (2, .ref o0)] := hl
  obtain ⟨hsz, hP, hK, hD0, hX, hxn⟩ := hB
  subst hsz
  have hD := hD0.self (sz := s.heap.size)
  generalize hAe : va_A (wN cI cZ n0 h0 h3 h4 h5 h6 c0 c8 c9 c10 c11 c12 c13 t0 t8 t9 t10 t11 t12 t13 i0 i1 i2 i3 i4 m0 m1 m2 uH uC uT uI uM ++ [(o0, .inl (cJ, 1, .inr (.inl fO)))]) s.heap.size = A at hD hX ⊢
  have hA : ∀ q : Nat, s.heap.size ≤ q → A q := fun q h => by rw [← hAe]; exact Or.inr h
  have hS0 : va_S (fun _ => False) s.heap s.heap [] := va_S.rf
  have hS : va_S A s.heap s.heap [] := va_S.rf
  have hP : va_P (dC, dI) vwCl (wN cI cZ n0 h0 h3 h4 h5 h6 c0 c8 c9 c10 c11 c12 c13 t0 t8 t9 t10 t11 t12 t13 i0 i1 i2 i3 i4 m0 m1 m2 uH uC uT uI uM ++ [(o0, .inl (cJ, 1, .inr (.inl fO)))]) s.heap := hP
  unfold p_L_hoursUntilStop at hok
  refine lv_aload_n hx hb dL_hoursUntilStop_0 rfl (lv_at hl 2 rfl) ?_
  refine lv_iconst (v := (0 : Int32)) hx hb dL_hoursUntilStop_1 (by decide) ?_
  refine lv_aload_n hx hb dL_hoursUntilStop_2 rfl (lv_at hl 0 rfl) ?_
  refine lv_iload_n hx hb dL_hoursUntilStop_3 rfl (lv_at hl 1 rfl) ?_
  obtain ⟨y, hc1, hok⟩ := bC_some hok
  refine cXUi (ci := 4) (q0 := 0) [.int a1] S (hK.sub (tys' := TYS cI cZ) [0, 1] rfl) (cP_NO hP) (cD_NO hD) hS hA hX (c_X4_hoursUntilStop l hlt dC dI cI cZ n0 h0 h3 h4 h5 h6 c0 c8 c9 c10 c11 c12 c13 t0 t8 t9 t10 t11 t12 t13 i0 i1 i2 i3 i4 m0 m1 m2 _ sa uH uC uT uI uM a1 hc1) (lw_V qm_L_97 qi_X4_hoursUntilStop qs_X4_hoursUntilStop qn_X4 qc_X4_hoursUntilStop) hd_X4_hoursUntilStop ⟨rfl, rfl⟩ ⟨Nat.le_of_ble_eq_true rfl, Nat.le_of_ble_eq_true rfl⟩ ⟨Nat.le_of_ble_eq_true rfl, Nat.le_of_ble_eq_true rfl⟩ rfl rfl rfl hl.1 (Nat.le_of_ble_eq_true rfl) rfl dL_hoursUntilStop_4 (fun a H1 hk9 h9 => cJ_NO hP hD hk9 h9) (fun a => D_NO hD) (fun E ce q9 H1 locs1 hz hs1 hq1 hS1 hce hcv hcl => ?_) (fun v H locs hz hP hD hS => ?_)
  · have hPx := va_Pkept hP (fun q hq _ => hq1 q hq)
    rw [hz] at hok
    change (if E = xIOB then _ else _) = some z at hok
    by_cases hE : E = xIOB
    · have hok2 := Option.some.inj (ip hok hE)
      subst hE
      subst hok2
      refine vx_catch hown [] ⟨0, 9, 12, 19⟩ [] (hT.trans rfl) (fun z hz => absurd hz List.not_mem_nil) rfl (by decide) (hts _ qk_L_19) (va_Nw.use rfl hX.2.2.2.2.1) hce hcv hcl ?_
      refine lv_astore_n (lv' := [(3, .ref q9), (0, .ref n0), (1, .int a1), (2, .ref o0)]) hx hb dL_hoursUntilStop_12 rfl hl (by decide) rfl (fun ls hl => ?_)
      refine lv_iconst (v := (1 : Int32)) hx hb dL_hoursUntilStop_13 (by decide) ?_
      exact eWi S hr hlk rfl hPx hS1 (Nat.le_of_ble_eq_true rfl) (Nat.le_of_ble_eq_true rfl) dL_hoursUntilStop_14
    · have hok := iq hok hE
      cases hok
  · rw [hz] at hok
    change some ((0 : Int32), v.2, vp_updL fO 0 v.1.toInt64) = some z at hok
    refine lv_i2l (v := v.1.toInt64) hx hb dL_hoursUntilStop_7 rfl ?_
    refine va_lastK hx hb hK hP hD hS 28 2 rfl rfl (j := 0) (by decide) (vp_inK (by decide)) dL_hoursUntilStop_8 (fun H locs hP _ hS => ?_)
    have hP : va_P (dC, dI) vwCl (wN cI cZ n0 h0 h3 h4 h5 h6 c0 c8 c9 c10 c11 c12 c13 t0 t8 t9 t10 t11 t12 t13 i0 i1 i2 i3 i4 m0 m1 m2 uH uC v.2 uI uM ++ [(o0, .inl (cJ, 1, .inr (.inl (vp_updL fO 0 v.1.toInt64))))]) H := hP
    refine lv_goto (tgt := 15) hx hb dL_hoursUntilStop_9 (by decide) ?_
    refine lv_iconst (v := (0 : Int32)) hx hb dL_hoursUntilStop_15 (by decide) ?_
    have hok := Option.some.inj hok
    subst hok
    exact eWi S hr hlk rfl hP hS (Nat.le_of_ble_eq_true rfl) (Nat.le_of_ble_eq_true rfl) dL_hoursUntilStop_16
theorem hd_L_printedIn : yL_printedIn.cls ≠ "java/lang/invoke/MethodHandle" ∧ yL_printedIn.cls ≠ "java/lang/invoke/VarHandle" ∧ (parseMethodDescriptor yL_printedIn.desc).map (fun d => d.parameters.length) = some 3 := by decide +kernel
def p_L_printedIn (uH : tX1) (uC : tX0) (uT : tX0) (uI : tX2) (uM : tX3) (fO : Nat → Int64) (a1 : Int32) : Option (Int32 × tX0 × (Nat → Int64)) := bC (p_X4_printedIn uH uC uT uI uM a1) (fun v => some ((0 : Int32), v.2, vp_updL fO 0 v.1.toInt64)) (fun E => if E = xIAE then some ((1 : Int32), uT, fO) else none)
set_option maxHeartbeats 4000000 in
set_option maxRecDepth 100000 in
theorem c_L_printedIn (l : Launch) (hlt : l.stackTraces = false) (dC : Nat → ClassId) (dI : Nat → Nat → Nat) (cI cZ cJ : ClassId) (n0 h0 h3 h4 h5 h6 c0 c8 c9 c10 c11 c12 c13 t0 t8 t9 t10 t11 t12 t13 i0 i1 i2 i3 i4 m0 m1 m2 o0 : Nat) (sz : Nat) (sa : Nat → Nat) (uH : tX1) (uC : tX0) (uT : tX0) (uI : tX2) (uM : tX3) (fO : Nat → Int64) (a1 : Int32) {z : (Int32 × tX0 × (Nat → Int64))} (hok : p_L_printedIn uH uC uT uI uM fO a1 = some z) : Met l yL_printedIn (Cond.codeWith yL_printedIn cL_printedIn 4 (some .int) [(0, 9, 12, 13)] :: lw_all) { frames := 8, cells := 1, slots := 6, locals := 133 } (prH (dC, dI) vwCl (TYJ cI cZ cJ) (wN cI cZ n0 h0 h3 h4 h5 h6 c0 c8 c9 c10 c11 c12 c13 t0 t8 t9 t10 t11 t12 t13 i0 i1 i2 i3 i4 m0 m1 m2 uH uC uT uI uM ++ [(o0, .inl (cJ, 1, .inr (.inl fO)))]) sz sa [.ref n0, .int a1, .ref o0]) (va_Qi (fun (r : Int32) (_ : Unit) => r = z.1) (fun _ t => va_P (dC, dI) vwCl (wN cI cZ n0 h0 h3 h4 h5 h6 c0 c8 c9 c10 c11 c12 c13 t0 t8 t9 t10 t11 t12 t13 i0 i1 i2 i3 i4 m0 m1 m2 uH uC z.2.1 uI uM ++ [(o0, .inl (cJ, 1, .inr (.inl z.2.2)))]) t.heap) (va_A (wN cI cZ n0 h0 h3 h4 h5 h6 c0 c8 c9 c10 c11 c12 c13 t0 t8 t9 t10 t11 t12 t13 i0 i1 i2 i3 i4 m0 m1 m2 uH uC uT uI uM ++ [(o0, .inl (cJ, 1, .inr (.inl fO)))]) sz)) 1 6 (va_A (wN cI cZ n0 h0 h3 h4 h5 h6 c0 c8 c9 c10 c11 c12 c13 t0 t8 t9 t10 t11 t12 t13 i0 i1 i2 i3 i4 m0 m1 m2 uH uC uT uI uM ++ [(o0, .inl (cJ, 1, .inr (.inl fO)))]) sz) := by
  refine oH (by decide) (Nat.le_of_ble_eq_true rfl) ?_
  intro p e s m args below meth c S hr hlk hT hB ls hl
  have hx := S.1
  have hb := S.2.1
  have hown : s.vm.findClass RL = some m.cls := S.2.2.2.1
  have hts := S.2.2.2.2
  have S : CallFix p m c cL_printedIn 4 s args lw_all RL := S
  have hl : lv_has ls 4 [(0, .ref n0), (1, .int a1), (2, .ref o0)] := hl
  obtain ⟨hsz, hP, hK, hD0, hX, hxn⟩ := hB
  subst hsz
  have hD := hD0.self (sz := s.heap.size)
  generalize hAe : va_A (wN cI cZ n0 h0 h3 h4 h5 h6 c0 c8 c9 c10 c11 c12 c13 t0 t8 t9 t10 t11 t12 t13 i0 i1 i2 i3 i4 m0 m1 m2 uH uC uT uI uM ++ [(o0, .inl (cJ, 1, .inr (.inl fO)))]) s.heap.size = A at hD hX ⊢
  have hA : ∀ q : Nat, s.heap.size ≤ q → A q := fun q h => by rw [← hAe]; exact Or.inr h
  have hS0 : va_S (fun _ => False) s.heap s.heap [] := va_S.rf
  have hS : va_S A s.heap s.heap [] := va_S.rf
  have hP : va_P (dC, dI) vwCl (wN cI cZ n0 h0 h3 h4 h5 h6 c0 c8 c9 c10 c11 c12 c13 t0 t8 t9 t10 t11 t12 t13 i0 i1 i2 i3 i4 m0 m1 m2 uH uC uT uI uM ++ [(o0, .inl (cJ, 1, .inr (.inl fO)))]) s.heap := hP
  unfold p_L_printedIn at hok
  refine lv_aload_n hx hb dL_printedIn_0 rfl (lv_at hl 2 rfl) ?_
  refine lv_iconst (v := (0 : Int32)) hx hb dL_printedIn_1 (by decide) ?_
  refine lv_aload_n hx hb dL_printedIn_2 rfl (lv_at hl 0 rfl) ?_
  refine lv_iload_n hx hb dL_printedIn_3 rfl (lv_at hl 1 rfl) ?_
  obtain ⟨y, hc1, hok⟩ := bC_some hok
  refine cXUi (ci := 4) (q0 := 0) [.int a1] S (hK.sub (tys' := TYS cI cZ) [0, 1] rfl) (cP_NO hP) (cD_NO hD) hS hA hX (c_X4_printedIn l hlt dC dI cI cZ n0 h0 h3 h4 h5 h6 c0 c8 c9 c10 c11 c12 c13 t0 t8 t9 t10 t11 t12 t13 i0 i1 i2 i3 i4 m0 m1 m2 _ sa uH uC uT uI uM a1 hc1) (lw_V qm_L_100 qi_X4_printedIn qs_X4_printedIn qn_X4 qc_X4_printedIn) hd_X4_printedIn ⟨rfl, rfl⟩ ⟨Nat.le_of_ble_eq_true rfl, Nat.le_of_ble_eq_true rfl⟩ ⟨Nat.le_of_ble_eq_true rfl, Nat.le_of_ble_eq_true rfl⟩ rfl rfl rfl hl.1 (Nat.le_of_ble_eq_true rfl) rfl dL_printedIn_4 (fun a H1 hk9 h9 => cJ_NO hP hD hk9 h9) (fun a => D_NO hD) (fun E ce q9 H1 locs1 hz hs1 hq1 hS1 hce hcv hcl => ?_) (fun v H locs hz hP hD hS => ?_)
  · have hPx := va_Pkept hP (fun q hq _ => hq1 q hq)
    rw [hz] at hok
    change (if E = xIAE then _ else _) = some z at hok
    by_cases hE : E = xIAE
    · have hok2 := Option.some.inj (ip hok hE)
      subst hE
      subst hok2
      refine vx_catch hown [] ⟨0, 9, 12, 13⟩ [] (hT.trans rfl) (fun z hz => absurd hz List.not_mem_nil) rfl (by decide) (hts _ qk_L_13) (va_Nw.use rfl hX.2.2.1) hce hcv hcl ?_
      refine lv_astore_n (lv' := [(3, .ref q9), (0, .ref n0), (1, .int a1), (2, .ref o0)]) hx hb dL_printedIn_12 rfl hl (by decide) rfl (fun ls hl => ?_)
      refine lv_iconst (v := (1 : Int32)) hx hb dL_printedIn_13 (by decide) ?_
      exact eWi S hr hlk rfl hPx hS1 (Nat.le_of_ble_eq_true rfl) (Nat.le_of_ble_eq_true rfl) dL_printedIn_14
    · have hok := iq hok hE
      cases hok
  · rw [hz] at hok
    change some ((0 : Int32), v.2, vp_updL fO 0 v.1.toInt64) = some z at hok
    refine lv_i2l (v := v.1.toInt64) hx hb dL_printedIn_7 rfl ?_
    refine va_lastK hx hb hK hP hD hS 28 2 rfl rfl (j := 0) (by decide) (vp_inK (by decide)) dL_printedIn_8 (fun H locs hP _ hS => ?_)
    have hP : va_P (dC, dI) vwCl (wN cI cZ n0 h0 h3 h4 h5 h6 c0 c8 c9 c10 c11 c12 c13 t0 t8 t9 t10 t11 t12 t13 i0 i1 i2 i3 i4 m0 m1 m2 uH uC v.2 uI uM ++ [(o0, .inl (cJ, 1, .inr (.inl (vp_updL fO 0 v.1.toInt64))))]) H := hP
    refine lv_goto (tgt := 15) hx hb dL_printedIn_9 (by decide) ?_
    refine lv_iconst (v := (0 : Int32)) hx hb dL_printedIn_15 (by decide) ?_
    have hok := Option.some.inj hok
    subst hok
    exact eWi S hr hlk rfl hP hS (Nat.le_of_ble_eq_true rfl) (Nat.le_of_ble_eq_true rfl) dL_printedIn_16
theorem hd_L_subscribersIn : yL_subscribersIn.cls ≠ "java/lang/invoke/MethodHandle" ∧ yL_subscribersIn.cls ≠ "java/lang/invoke/VarHandle" ∧ (parseMethodDescriptor yL_subscribersIn.desc).map (fun d => d.parameters.length) = some 3 := by decide +kernel
def p_L_subscribersIn (uH : tX1) (uC : tX0) (uT : tX0) (uI : tX2) (uM : tX3) (fO : Nat → Int64) (a1 : Int32) : Option (Int32 × tX0 × (Nat → Int64)) := bC (p_X4_subscribersIn uH uC uT uI uM a1) (fun v => some ((0 : Int32), v.2, vp_updL fO 0 v.1.toInt64)) (fun E => if E = xIAE then some ((1 : Int32), uT, fO) else none)
set_option maxHeartbeats 4000000 in
set_option maxRecDepth 100000 in
theorem c_L_subscribersIn (l : Launch) (hlt : l.stackTraces = false) (dC : Nat → ClassId) (dI : Nat → Nat → Nat) (cI cZ cJ : ClassId) (n0 h0 h3 h4 h5 h6 c0 c8 c9 c10 c11 c12 c13 t0 t8 t9 t10 t11 t12 t13 i0 i1 i2 i3 i4 m0 m1 m2 o0 : Nat) (sz : Nat) (sa : Nat → Nat) (uH : tX1) (uC : tX0) (uT : tX0) (uI : tX2) (uM : tX3) (fO : Nat → Int64) (a1 : Int32) {z : (Int32 × tX0 × (Nat → Int64))} (hok : p_L_subscribersIn uH uC uT uI uM fO a1 = some z) : Met l yL_subscribersIn (Cond.codeWith yL_subscribersIn cL_subscribersIn 4 (some .int) [(0, 9, 12, 13)] :: lw_all) { frames := 8, cells := 1, slots := 6, locals := 133 } (prH (dC, dI) vwCl (TYJ cI cZ cJ) (wN cI cZ n0 h0 h3 h4 h5 h6 c0 c8 c9 c10 c11 c12 c13 t0 t8 t9 t10 t11 t12 t13 i0 i1 i2 i3 i4 m0 m1 m2 uH uC uT uI uM ++ [(o0, .inl (cJ, 1, .inr (.inl fO)))]) sz sa [.ref n0, .int a1, .ref o0]) (va_Qi (fun (r : Int32) (_ : Unit) => r = z.1) (fun _ t => va_P (dC, dI) vwCl (wN cI cZ n0 h0 h3 h4 h5 h6 c0 c8 c9 c10 c11 c12 c13 t0 t8 t9 t10 t11 t12 t13 i0 i1 i2 i3 i4 m0 m1 m2 uH uC z.2.1 uI uM ++ [(o0, .inl (cJ, 1, .inr (.inl z.2.2)))]) t.heap) (va_A (wN cI cZ n0 h0 h3 h4 h5 h6 c0 c8 c9 c10 c11 c12 c13 t0 t8 t9 t10 t11 t12 t13 i0 i1 i2 i3 i4 m0 m1 m2 uH uC uT uI uM ++ [(o0, .inl (cJ, 1, .inr (.inl fO)))]) sz)) 1 6 (va_A (wN cI cZ n0 h0 h3 h4 h5 h6 c0 c8 c9 c10 c11 c12 c13 t0 t8 t9 t10 t11 t12 t13 i0 i1 i2 i3 i4 m0 m1 m2 uH uC uT uI uM ++ [(o0, .inl (cJ, 1, .inr (.inl fO)))]) sz) := by
  refine oH (by decide) (Nat.le_of_ble_eq_true rfl) ?_
  intro p e s m args below meth c S hr hlk hT hB ls hl
  have hx := S.1
  have hb := S.2.1
  have hown : s.vm.findClass RL = some m.cls := S.2.2.2.1
  have hts := S.2.2.2.2
  have S : CallFix p m c cL_subscribersIn 4 s args lw_all RL := S
  have hl : lv_has ls 4 [(0, .ref n0), (1, .int a1), (2, .ref o0)] := hl
  obtain ⟨hsz, hP, hK, hD0, hX, hxn⟩ := hB
  subst hsz
  have hD := hD0.self (sz := s.heap.size)
  generalize hAe : va_A (wN cI cZ n0 h0 h3 h4 h5 h6 c0 c8 c9 c10 c11 c12 c13 t0 t8 t9 t10 t11 t12 t13 i0 i1 i2 i3 i4 m0 m1 m2 uH uC uT uI uM ++ [(o0, .inl (cJ, 1, .inr (.inl fO)))]) s.heap.size = A at hD hX ⊢
  have hA : ∀ q : Nat, s.heap.size ≤ q → A q := fun q h => by rw [← hAe]; exact Or.inr h
  have hS0 : va_S (fun _ => False) s.heap s.heap [] := va_S.rf
  have hS : va_S A s.heap s.heap [] := va_S.rf
  have hP : va_P (dC, dI) vwCl (wN cI cZ n0 h0 h3 h4 h5 h6 c0 c8 c9 c10 c11 c12 c13 t0 t8 t9 t10 t11 t12 t13 i0 i1 i2 i3 i4 m0 m1 m2 uH uC uT uI uM ++ [(o0, .inl (cJ, 1, .inr (.inl fO)))]) s.heap := hP
  unfold p_L_subscribersIn at hok
  refine lv_aload_n hx hb dL_subscribersIn_0 rfl (lv_at hl 2 rfl) ?_
  refine lv_iconst (v := (0 : Int32)) hx hb dL_subscribersIn_1 (by decide) ?_
  refine lv_aload_n hx hb dL_subscribersIn_2 rfl (lv_at hl 0 rfl) ?_
  refine lv_iload_n hx hb dL_subscribersIn_3 rfl (lv_at hl 1 rfl) ?_
  obtain ⟨y, hc1, hok⟩ := bC_some hok
  refine cXUi (ci := 4) (q0 := 0) [.int a1] S (hK.sub (tys' := TYS cI cZ) [0, 1] rfl) (cP_NO hP) (cD_NO hD) hS hA hX (c_X4_subscribersIn l hlt dC dI cI cZ n0 h0 h3 h4 h5 h6 c0 c8 c9 c10 c11 c12 c13 t0 t8 t9 t10 t11 t12 t13 i0 i1 i2 i3 i4 m0 m1 m2 _ sa uH uC uT uI uM a1 hc1) (lw_V qm_L_103 qi_X4_subscribersIn qs_X4_subscribersIn qn_X4 qc_X4_subscribersIn) hd_X4_subscribersIn ⟨rfl, rfl⟩ ⟨Nat.le_of_ble_eq_true rfl, Nat.le_of_ble_eq_true rfl⟩ ⟨Nat.le_of_ble_eq_true rfl, Nat.le_of_ble_eq_true rfl⟩ rfl rfl rfl hl.1 (Nat.le_of_ble_eq_true rfl) rfl dL_subscribersIn_4 (fun a H1 hk9 h9 => cJ_NO hP hD hk9 h9) (fun a => D_NO hD) (fun E ce q9 H1 locs1 hz hs1 hq1 hS1 hce hcv hcl => ?_) (fun v H locs hz hP hD hS => ?_)
  · have hPx := va_Pkept hP (fun q hq _ => hq1 q hq)
    rw [hz] at hok
    change (if E = xIAE then _ else _) = some z at hok
    by_cases hE : E = xIAE
    · have hok2 := Option.some.inj (ip hok hE)
      subst hE
      subst hok2
      refine vx_catch hown [] ⟨0, 9, 12, 13⟩ [] (hT.trans rfl) (fun z hz => absurd hz List.not_mem_nil) rfl (by decide) (hts _ qk_L_13) (va_Nw.use rfl hX.2.2.1) hce hcv hcl ?_
      refine lv_astore_n (lv' := [(3, .ref q9), (0, .ref n0), (1, .int a1), (2, .ref o0)]) hx hb dL_subscribersIn_12 rfl hl (by decide) rfl (fun ls hl => ?_)
      refine lv_iconst (v := (1 : Int32)) hx hb dL_subscribersIn_13 (by decide) ?_
      exact eWi S hr hlk rfl hPx hS1 (Nat.le_of_ble_eq_true rfl) (Nat.le_of_ble_eq_true rfl) dL_subscribersIn_14
    · have hok := iq hok hE
      cases hok
  · rw [hz] at hok
    change some ((0 : Int32), v.2, vp_updL fO 0 v.1.toInt64) = some z at hok
    refine lv_i2l (v := v.1.toInt64) hx hb dL_subscribersIn_7 rfl ?_
    refine va_lastK hx hb hK hP hD hS 28 2 rfl rfl (j := 0) (by decide) (vp_inK (by decide)) dL_subscribersIn_8 (fun H locs hP _ hS => ?_)
    have hP : va_P (dC, dI) vwCl (wN cI cZ n0 h0 h3 h4 h5 h6 c0 c8 c9 c10 c11 c12 c13 t0 t8 t9 t10 t11 t12 t13 i0 i1 i2 i3 i4 m0 m1 m2 uH uC v.2 uI uM ++ [(o0, .inl (cJ, 1, .inr (.inl (vp_updL fO 0 v.1.toInt64))))]) H := hP
    refine lv_goto (tgt := 15) hx hb dL_subscribersIn_9 (by decide) ?_
    refine lv_iconst (v := (0 : Int32)) hx hb dL_subscribersIn_15 (by decide) ?_
    have hok := Option.some.inj hok
    subst hok
    exact eWi S hr hlk rfl hP hS (Nat.le_of_ble_eq_true rfl) (Nat.le_of_ble_eq_true rfl) dL_subscribersIn_16
theorem hd_L_bestToCall : yL_bestToCall.cls ≠ "java/lang/invoke/MethodHandle" ∧ yL_bestToCall.cls ≠ "java/lang/invoke/VarHandle" ∧ (parseMethodDescriptor yL_bestToCall.desc).map (fun d => d.parameters.length) = some 3 := by decide +kernel
def p_L_bestToCall (uH : tX1) (uC : tX0) (uT : tX0) (uI : tX2) (uM : tX3) (fO : Nat → Int64) (a1 : Int32) : Option (Int32 × tX0 × (Nat → Int64)) := bC (p_X4_bestToCall uH uC uT uI uM a1) (fun v => some ((0 : Int32), v.2, vp_updL fO 0 v.1.toInt64)) (fun E => if E = xIAE then some ((1 : Int32), uT, fO) else none)
set_option maxHeartbeats 4000000 in
set_option maxRecDepth 100000 in
theorem c_L_bestToCall (l : Launch) (hlt : l.stackTraces = false) (dC : Nat → ClassId) (dI : Nat → Nat → Nat) (cI cZ cJ : ClassId) (n0 h0 h3 h4 h5 h6 c0 c8 c9 c10 c11 c12 c13 t0 t8 t9 t10 t11 t12 t13 i0 i1 i2 i3 i4 m0 m1 m2 o0 : Nat) (sz : Nat) (sa : Nat → Nat) (uH : tX1) (uC : tX0) (uT : tX0) (uI : tX2) (uM : tX3) (fO : Nat → Int64) (a1 : Int32) {z : (Int32 × tX0 × (Nat → Int64))} (hok : p_L_bestToCall uH uC uT uI uM fO a1 = some z) : Met l yL_bestToCall (Cond.codeWith yL_bestToCall cL_bestToCall 4 (some .int) [(0, 9, 12, 13)] :: lw_all) { frames := 8, cells := 1, slots := 6, locals := 137 } (prH (dC, dI) vwCl (TYJ cI cZ cJ) (wN cI cZ n0 h0 h3 h4 h5 h6 c0 c8 c9 c10 c11 c12 c13 t0 t8 t9 t10 t11 t12 t13 i0 i1 i2 i3 i4 m0 m1 m2 uH uC uT uI uM ++ [(o0, .inl (cJ, 1, .inr (.inl fO)))]) sz sa [.ref n0, .int a1, .ref o0]) (va_Qi (fun (r : Int32) (_ : Unit) => r = z.1) (fun _ t => va_P (dC, dI) vwCl (wN cI cZ n0 h0 h3 h4 h5 h6 c0 c8 c9 c10 c11 c12 c13 t0 t8 t9 t10 t11 t12 t13 i0 i1 i2 i3 i4 m0 m1 m2 uH uC z.2.1 uI uM ++ [(o0, .inl (cJ, 1, .inr (.inl z.2.2)))]) t.heap) (va_A (wN cI cZ n0 h0 h3 h4 h5 h6 c0 c8 c9 c10 c11 c12 c13 t0 t8 t9 t10 t11 t12 t13 i0 i1 i2 i3 i4 m0 m1 m2 uH uC uT uI uM ++ [(o0, .inl (cJ, 1, .inr (.inl fO)))]) sz)) 1 6 (va_A (wN cI cZ n0 h0 h3 h4 h5 h6 c0 c8 c9 c10 c11 c12 c13 t0 t8 t9 t10 t11 t12 t13 i0 i1 i2 i3 i4 m0 m1 m2 uH uC uT uI uM ++ [(o0, .inl (cJ, 1, .inr (.inl fO)))]) sz) := by
  refine oH (by decide) (Nat.le_of_ble_eq_true rfl) ?_
  intro p e s m args below meth c S hr hlk hT hB ls hl
  have hx := S.1
  have hb := S.2.1
  have hown : s.vm.findClass RL = some m.cls := S.2.2.2.1
  have hts := S.2.2.2.2
  have S : CallFix p m c cL_bestToCall 4 s args lw_all RL := S
  have hl : lv_has ls 4 [(0, .ref n0), (1, .int a1), (2, .ref o0)] := hl
  obtain ⟨hsz, hP, hK, hD0, hX, hxn⟩ := hB
  subst hsz
  have hD := hD0.self (sz := s.heap.size)
  generalize hAe : va_A (wN cI cZ n0 h0 h3 h4 h5 h6 c0 c8 c9 c10 c11 c12 c13 t0 t8 t9 t10 t11 t12 t13 i0 i1 i2 i3 i4 m0 m1 m2 uH uC uT uI uM ++ [(o0, .inl (cJ, 1, .inr (.inl fO)))]) s.heap.size = A at hD hX ⊢
  have hA : ∀ q : Nat, s.heap.size ≤ q → A q := fun q h => by rw [← hAe]; exact Or.inr h
  have hS0 : va_S (fun _ => False) s.heap s.heap [] := va_S.rf
  have hS : va_S A s.heap s.heap [] := va_S.rf
  have hP : va_P (dC, dI) vwCl (wN cI cZ n0 h0 h3 h4 h5 h6 c0 c8 c9 c10 c11 c12 c13 t0 t8 t9 t10 t11 t12 t13 i0 i1 i2 i3 i4 m0 m1 m2 uH uC uT uI uM ++ [(o0, .inl (cJ, 1, .inr (.inl fO)))]) s.heap := hP
  unfold p_L_bestToCall at hok
  refine lv_aload_n hx hb dL_bestToCall_0 rfl (lv_at hl 2 rfl) ?_
  refine lv_iconst (v := (0 : Int32)) hx hb dL_bestToCall_1 (by decide) ?_
  refine lv_aload_n hx hb dL_bestToCall_2 rfl (lv_at hl 0 rfl) ?_
  refine lv_iload_n hx hb dL_bestToCall_3 rfl (lv_at hl 1 rfl) ?_
  obtain ⟨y, hc1, hok⟩ := bC_some hok
  refine cXUi (ci := 4) (q0 := 0) [.int a1] S (hK.sub (tys' := TYS cI cZ) [0, 1] rfl) (cP_NO hP) (cD_NO hD) hS hA hX (c_X4_bestToCall l hlt dC dI cI cZ n0 h0 h3 h4 h5 h6 c0 c8 c9 c10 c11 c12 c13 t0 t8 t9 t10 t11 t12 t13 i0 i1 i2 i3 i4 m0 m1 m2 _ sa uH uC uT uI uM a1 hc1) (lw_V qm_L_106 qi_X4_bestToCall qs_X4_bestToCall qn_X4 qc_X4_bestToCall) hd_X4_bestToCall ⟨rfl, rfl⟩ ⟨Nat.le_of_ble_eq_true rfl, Nat.le_of_ble_eq_true rfl⟩ ⟨Nat.le_of_ble_eq_true rfl, Nat.le_of_ble_eq_true rfl⟩ rfl rfl rfl hl.1 (Nat.le_of_ble_eq_true rfl) rfl dL_bestToCall_4 (fun a H1 hk9 h9 => cJ_NO hP hD hk9 h9) (fun a => D_NO hD) (fun E ce q9 H1 locs1 hz hs1 hq1 hS1 hce hcv hcl => ?_) (fun v H locs hz hP hD hS => ?_)
  · have hPx := va_Pkept hP (fun q hq _ => hq1 q hq)
    rw [hz] at hok
    change (if E = xIAE then _ else _) = some z at hok
    by_cases hE : E = xIAE
    · have hok2 := Option.some.inj (ip hok hE)
      subst hE
      subst hok2
      refine vx_catch hown [] ⟨0, 9, 12, 13⟩ [] (hT.trans rfl) (fun z hz => absurd hz List.not_mem_nil) rfl (by decide) (hts _ qk_L_13) (va_Nw.use rfl hX.2.2.1) hce hcv hcl ?_
      refine lv_astore_n (lv' := [(3, .ref q9), (0, .ref n0), (1, .int a1), (2, .ref o0)]) hx hb dL_bestToCall_12 rfl hl (by decide) rfl (fun ls hl => ?_)
      refine lv_iconst (v := (1 : Int32)) hx hb dL_bestToCall_13 (by decide) ?_
      exact eWi S hr hlk rfl hPx hS1 (Nat.le_of_ble_eq_true rfl) (Nat.le_of_ble_eq_true rfl) dL_bestToCall_14
    · have hok := iq hok hE
      cases hok
  · rw [hz] at hok
    change some ((0 : Int32), v.2, vp_updL fO 0 v.1.toInt64) = some z at hok
    refine lv_i2l (v := v.1.toInt64) hx hb dL_bestToCall_7 rfl ?_
    refine va_lastK hx hb hK hP hD hS 28 2 rfl rfl (j := 0) (by decide) (vp_inK (by decide)) dL_bestToCall_8 (fun H locs hP _ hS => ?_)
    have hP : va_P (dC, dI) vwCl (wN cI cZ n0 h0 h3 h4 h5 h6 c0 c8 c9 c10 c11 c12 c13 t0 t8 t9 t10 t11 t12 t13 i0 i1 i2 i3 i4 m0 m1 m2 uH uC v.2 uI uM ++ [(o0, .inl (cJ, 1, .inr (.inl (vp_updL fO 0 v.1.toInt64))))]) H := hP
    refine lv_goto (tgt := 15) hx hb dL_bestToCall_9 (by decide) ?_
    refine lv_iconst (v := (0 : Int32)) hx hb dL_bestToCall_15 (by decide) ?_
    have hok := Option.some.inj hok
    subst hok
    exact eWi S hr hlk rfl hP hS (Nat.le_of_ble_eq_true rfl) (Nat.le_of_ble_eq_true rfl) dL_bestToCall_16
theorem hd_L_bestToAllow : yL_bestToAllow.cls ≠ "java/lang/invoke/MethodHandle" ∧ yL_bestToAllow.cls ≠ "java/lang/invoke/VarHandle" ∧ (parseMethodDescriptor yL_bestToAllow.desc).map (fun d => d.parameters.length) = some 3 := by decide +kernel
def p_L_bestToAllow (uH : tX1) (uC : tX0) (uT : tX0) (uI : tX2) (uM : tX3) (fO : Nat → Int64) (a1 : Int32) : Option (Int32 × tX0 × (Nat → Int64)) := bC (p_X4_bestToAllow uH uC uT uI uM a1) (fun v => some ((0 : Int32), v.2, vp_updL fO 0 v.1.toInt64)) (fun E => if E = xIAE then some ((1 : Int32), uT, fO) else none)
set_option maxHeartbeats 4000000 in
set_option maxRecDepth 100000 in
theorem c_L_bestToAllow (l : Launch) (hlt : l.stackTraces = false) (dC : Nat → ClassId) (dI : Nat → Nat → Nat) (cI cZ cJ : ClassId) (n0 h0 h3 h4 h5 h6 c0 c8 c9 c10 c11 c12 c13 t0 t8 t9 t10 t11 t12 t13 i0 i1 i2 i3 i4 m0 m1 m2 o0 : Nat) (sz : Nat) (sa : Nat → Nat) (uH : tX1) (uC : tX0) (uT : tX0) (uI : tX2) (uM : tX3) (fO : Nat → Int64) (a1 : Int32) {z : (Int32 × tX0 × (Nat → Int64))} (hok : p_L_bestToAllow uH uC uT uI uM fO a1 = some z) : Met l yL_bestToAllow (Cond.codeWith yL_bestToAllow cL_bestToAllow 4 (some .int) [(0, 9, 12, 13)] :: lw_all) { frames := 8, cells := 1, slots := 6, locals := 137 } (prH (dC, dI) vwCl (TYJ cI cZ cJ) (wN cI cZ n0 h0 h3 h4 h5 h6 c0 c8 c9 c10 c11 c12 c13 t0 t8 t9 t10 t11 t12 t13 i0 i1 i2 i3 i4 m0 m1 m2 uH uC uT uI uM ++ [(o0, .inl (cJ, 1, .inr (.inl fO)))]) sz sa [.ref n0, .int a1, .ref o0]) (va_Qi (fun (r : Int32) (_ : Unit) => r = z.1) (fun _ t => va_P (dC, dI) vwCl (wN cI cZ n0 h0 h3 h4 h5 h6 c0 c8 c9 c10 c11 c12 c13 t0 t8 t9 t10 t11 t12 t13 i0 i1 i2 i3 i4 m0 m1 m2 uH uC z.2.1 uI uM ++ [(o0, .inl (cJ, 1, .inr (.inl z.2.2)))]) t.heap) (va_A (wN cI cZ n0 h0 h3 h4 h5 h6 c0 c8 c9 c10 c11 c12 c13 t0 t8 t9 t10 t11 t12 t13 i0 i1 i2 i3 i4 m0 m1 m2 uH uC uT uI uM ++ [(o0, .inl (cJ, 1, .inr (.inl fO)))]) sz)) 1 6 (va_A (wN cI cZ n0 h0 h3 h4 h5 h6 c0 c8 c9 c10 c11 c12 c13 t0 t8 t9 t10 t11 t12 t13 i0 i1 i2 i3 i4 m0 m1 m2 uH uC uT uI uM ++ [(o0, .inl (cJ, 1, .inr (.inl fO)))]) sz) := by
  refine oH (by decide) (Nat.le_of_ble_eq_true rfl) ?_
  intro p e s m args below meth c S hr hlk hT hB ls hl
  have hx := S.1
  have hb := S.2.1
  have hown : s.vm.findClass RL = some m.cls := S.2.2.2.1
  have hts := S.2.2.2.2
  have S : CallFix p m c cL_bestToAllow 4 s args lw_all RL := S
  have hl : lv_has ls 4 [(0, .ref n0), (1, .int a1), (2, .ref o0)] := hl
  obtain ⟨hsz, hP, hK, hD0, hX, hxn⟩ := hB
  subst hsz
  have hD := hD0.self (sz := s.heap.size)
  generalize hAe : va_A (wN cI cZ n0 h0 h3 h4 h5 h6 c0 c8 c9 c10 c11 c12 c13 t0 t8 t9 t10 t11 t12 t13 i0 i1 i2 i3 i4 m0 m1 m2 uH uC uT uI uM ++ [(o0, .inl (cJ, 1, .inr (.inl fO)))]) s.heap.size = A at hD hX ⊢
  have hA : ∀ q : Nat, s.heap.size ≤ q → A q := fun q h => by rw [← hAe]; exact Or.inr h
  have hS0 : va_S (fun _ => False) s.heap s.heap [] := va_S.rf
  have hS : va_S A s.heap s.heap [] := va_S.rf
  have hP : va_P (dC, dI) vwCl (wN cI cZ n0 h0 h3 h4 h5 h6 c0 c8 c9 c10 c11 c12 c13 t0 t8 t9 t10 t11 t12 t13 i0 i1 i2 i3 i4 m0 m1 m2 uH uC uT uI uM ++ [(o0, .inl (cJ, 1, .inr (.inl fO)))]) s.heap := hP
  unfold p_L_bestToAllow at hok
  refine lv_aload_n hx hb dL_bestToAllow_0 rfl (lv_at hl 2 rfl) ?_
  refine lv_iconst (v := (0 : Int32)) hx hb dL_bestToAllow_1 (by decide) ?_
  refine lv_aload_n hx hb dL_bestToAllow_2 rfl (lv_at hl 0 rfl) ?_
  refine lv_iload_n hx hb dL_bestToAllow_3 rfl (lv_at hl 1 rfl) ?_
  obtain ⟨y, hc1, hok⟩ := bC_some hok
  refine cXUi (ci := 4) (q0 := 0) [.int a1] S (hK.sub (tys' := TYS cI cZ) [0, 1] rfl) (cP_NO hP) (cD_NO hD) hS hA hX (c_X4_bestToAllow l hlt dC dI cI cZ n0 h0 h3 h4 h5 h6 c0 c8 c9 c10 c11 c12 c13 t0 t8 t9 t10 t11 t12 t13 i0 i1 i2 i3 i4 m0 m1 m2 _ sa uH uC uT uI uM a1 hc1) (lw_V qm_L_109 qi_X4_bestToAllow qs_X4_bestToAllow qn_X4 qc_X4_bestToAllow) hd_X4_bestToAllow ⟨rfl, rfl⟩ ⟨Nat.le_of_ble_eq_true rfl, Nat.le_of_ble_eq_true rfl⟩ ⟨Nat.le_of_ble_eq_true rfl, Nat.le_of_ble_eq_true rfl⟩ rfl rfl rfl hl.1 (Nat.le_of_ble_eq_true rfl) rfl dL_bestToAllow_4 (fun a H1 hk9 h9 => cJ_NO hP hD hk9 h9) (fun a => D_NO hD) (fun E ce q9 H1 locs1 hz hs1 hq1 hS1 hce hcv hcl => ?_) (fun v H locs hz hP hD hS => ?_)
  · have hPx := va_Pkept hP (fun q hq _ => hq1 q hq)
    rw [hz] at hok
    change (if E = xIAE then _ else _) = some z at hok
    by_cases hE : E = xIAE
    · have hok2 := Option.some.inj (ip hok hE)
      subst hE
      subst hok2
      refine vx_catch hown [] ⟨0, 9, 12, 13⟩ [] (hT.trans rfl) (fun z hz => absurd hz List.not_mem_nil) rfl (by decide) (hts _ qk_L_13) (va_Nw.use rfl hX.2.2.1) hce hcv hcl ?_
      refine lv_astore_n (lv' := [(3, .ref q9), (0, .ref n0), (1, .int a1), (2, .ref o0)]) hx hb dL_bestToAllow_12 rfl hl (by decide) rfl (fun ls hl => ?_)
      refine lv_iconst (v := (1 : Int32)) hx hb dL_bestToAllow_13 (by decide) ?_
      exact eWi S hr hlk rfl hPx hS1 (Nat.le_of_ble_eq_true rfl) (Nat.le_of_ble_eq_true rfl) dL_bestToAllow_14
    · have hok := iq hok hE
      cases hok
  · rw [hz] at hok
    change some ((0 : Int32), v.2, vp_updL fO 0 v.1.toInt64) = some z at hok
    refine lv_i2l (v := v.1.toInt64) hx hb dL_bestToAllow_7 rfl ?_
    refine va_lastK hx hb hK hP hD hS 28 2 rfl rfl (j := 0) (by decide) (vp_inK (by decide)) dL_bestToAllow_8 (fun H locs hP _ hS => ?_)
    have hP : va_P (dC, dI) vwCl (wN cI cZ n0 h0 h3 h4 h5 h6 c0 c8 c9 c10 c11 c12 c13 t0 t8 t9 t10 t11 t12 t13 i0 i1 i2 i3 i4 m0 m1 m2 uH uC v.2 uI uM ++ [(o0, .inl (cJ, 1, .inr (.inl (vp_updL fO 0 v.1.toInt64))))]) H := hP
    refine lv_goto (tgt := 15) hx hb dL_bestToAllow_9 (by decide) ?_
    refine lv_iconst (v := (0 : Int32)) hx hb dL_bestToAllow_15 (by decide) ?_
    have hok := Option.some.inj hok
    subst hok
    exact eWi S hr hlk rfl hP hS (Nat.le_of_ble_eq_true rfl) (Nat.le_of_ble_eq_true rfl) dL_bestToAllow_16
