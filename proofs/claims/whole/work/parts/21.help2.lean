theorem hd_L_floorIn : yL_floorIn.cls ≠ "java/lang/invoke/MethodHandle" ∧ yL_floorIn.cls ≠ "java/lang/invoke/VarHandle" ∧ (parseMethodDescriptor yL_floorIn.desc).map (fun d => d.parameters.length) = some 3 := by decide +kernel
def p_L_floorIn (uH : tX1) (uC : tX0) (uT : tX0) (uI : tX2) (uM : tX3) (fO : Nat → Int64) (a1 : Int32) : Option (Int32 × (Nat → Int64)) := bC (p_X4_floorIn uH uC uT uI uM a1) (fun v => some ((0 : Int32), vp_updL fO 0 v.toInt64)) (fun E => if E = xIOB then some ((1 : Int32), fO) else none)
set_option maxHeartbeats 4000000 in
set_option maxRecDepth 100000 in
theorem c_L_floorIn (l : Launch) (hlt : l.stackTraces = false) (dC : Nat → ClassId) (dI : Nat → Nat → Nat) (cI cZ cJ : ClassId) (n0 h0 h3 h4 h5 h6 c0 c8 c9 c10 c11 c12 c13 t0 t8 t9 t10 t11 t12 t13 i0 i1 i2 i3 i4 m0 m1 m2 o0 : Nat) (sz : Nat) (sa : Nat → Nat) (uH : tX1) (uC : tX0) (uT : tX0) (uI : tX2) (uM : tX3) (fO : Nat → Int64) (a1 : Int32) {z : (Int32 × (Nat → Int64))} (hok : p_L_floorIn uH uC uT uI uM fO a1 = some z) : Met l yL_floorIn (Cond.codeWith yL_floorIn cL_floorIn 4 (some .int) [(0, 9, 12, 19)] :: lw_all) { frames := 8, cells := 1, slots := 6, locals := 132 } (prH (dC, dI) vwCl (TYJ cI cZ cJ) (wN cI cZ n0 h0 h3 h4 h5 h6 c0 c8 c9 c10 c11 c12 c13 t0 t8 t9 t10 t11 t12 t13 i0 i1 i2 i3 i4 m0 m1 m2 uH uC uT uI uM ++ [(o0, .inl (cJ, 1, .inr (.inl fO)))]) sz sa [.ref n0, .int a1, .ref o0]) (va_Qi (fun (r : Int32) (_ : Unit) => r = z.1) (fun _ t => va_P (dC, dI) vwCl (wN cI cZ n0 h0 h3 h4 h5 h6 c0 c8 c9 c10 c11 c12 c13 t0 t8 t9 t10 t11 t12 t13 i0 i1 i2 i3 i4 m0 m1 m2 uH uC uT uI uM ++ [(o0, .inl (cJ, 1, .inr (.inl z.2)))]) t.heap) (va_A (wN cI cZ n0 h0 h3 h4 h5 h6 c0 c8 c9 c10 c11 c12 c13 t0 t8 t9 t10 t11 t12 t13 i0 i1 i2 i3 i4 m0 m1 m2 uH uC uT uI uM ++ [(o0, .inl (cJ, 1, .inr (.inl fO)))]) sz)) 1 6 (va_A (wN cI cZ n0 h0 h3 h4 h5 h6 c0 c8 c9 c10 c11 c12 c13 t0 t8 t9 t10 t11 t12 t13 i0 i1 i2 i3 i4 m0 m1 m2 uH uC uT uI uM ++ [(o0, .inl (cJ, 1, .inr (.inl fO)))]) sz) := by
  refine oH (by decide) (Nat.le_of_ble_eq_true rfl) ?_
  intro p e s m args below meth c S hr hlk hT hB ls hl
  have hx := S.1
  have hb := S.2.1
  have hown : s.vm.findClass RL = some m.cls := S.2.2.2.1
  have hts := S.2.2.2.2
  have S : CallFix p m c cL_floorIn 4 s args lw_all RL := S
  have hl : lv_has ls 4 [(0, .ref n0), (1, .int a1), (2, .ref o0)] := hl
  obtain ⟨hsz, hP, hK, hD0, hX, hxn⟩ := hB
  subst hsz
  have hD := hD0.self (sz := s.heap.size)
  generalize hAe : va_A (wN cI cZ n0 h0 h3 h4 h5 h6 c0 c8 c9 c10 c11 c12 c13 t0 t8 t9 t10 t11 t12 t13 i0 i1 i2 i3 i4 m0 m1 m2 uH uC uT uI uM ++ [(o0, .inl (cJ, 1, .inr (.inl fO)))]) s.heap.size = A at hD hX ⊢
  have hA : ∀ q : Nat, s.heap.size ≤ q → A q := fun q h => by rw [← hAe]; exact Or.inr h
  have hS0 : va_S (fun _ => False) s.heap s.heap [] := va_S.rf
  have hS : va_S A s.heap s.heap [] := va_S.rf
  have hP : va_P (dC, dI) vwCl (wN cI cZ n0 h0 h3 h4 h5 h6 c0 c8 c9 c10 c11 c12 c13 t0 t8 t9 t10 t11 t12 t13 i0 i1 i2 i3 i4 m0 m1 m2 uH uC uT uI uM ++ [(o0, .inl (cJ, 1, .inr (.inl fO)))]) s.heap := hP
  unfold p_L_floorIn at hok
  refine lv_aload_n hx hb dL_floorIn_0 rfl (lv_at hl 2 rfl) ?_
  refine lv_iconst (v := (0 : Int32)) hx hb dL_floorIn_1 (by decide) ?_
  refine lv_aload_n hx hb dL_floorIn_2 rfl (lv_at hl 0 rfl) ?_
  refine lv_iload_n hx hb dL_floorIn_3 rfl (lv_at hl 1 rfl) ?_
  obtain ⟨y, hc1, hok⟩ := bC_some hok
  refine cYVi (ci := 4) (q0 := 0) [.int a1] S (hK.sub (tys' := TYS cI cZ) [0, 1] rfl) hP (cP_NO hP) (cD_NO hD) hS0 (va_S0 hS0) hA hX (c_X4_floorIn l hlt dC dI cI cZ n0 h0 h3 h4 h5 h6 c0 c8 c9 c10 c11 c12 c13 t0 t8 t9 t10 t11 t12 t13 i0 i1 i2 i3 i4 m0 m1 m2 _ sa uH uC uT uI uM a1 hc1) (lw_V qm_L_67 qi_X4_floorIn qs_X4_floorIn qn_X4 qc_X4_floorIn) hd_X4_floorIn ⟨rfl, rfl⟩ ⟨Nat.le_of_ble_eq_true rfl, Nat.le_of_ble_eq_true rfl⟩ ⟨Nat.le_of_ble_eq_true rfl, Nat.le_of_ble_eq_true rfl⟩ rfl rfl rfl hl.1 (Nat.le_of_ble_eq_true rfl) rfl dL_floorIn_4 (fun E ce q9 H1 locs1 hz hS1 hce hcv hcl => ?_) (fun v H locs hz hP hS => ?_)
  · have hPx := va_Pkept hP (fun q hq hn => hS1.2.1 q hq hn)
    have hS1 : va_S A s.heap H1 locs1 := va_S0 hS1
    rw [hz] at hok
    change (if E = xIOB then _ else _) = some z at hok
    by_cases hE : E = xIOB
    · have hok2 := Option.some.inj (ip hok hE)
      subst hE
      subst hok2
      refine vx_catch hown [] ⟨0, 9, 12, 19⟩ [] (hT.trans rfl) (fun z hz => absurd hz List.not_mem_nil) rfl (by decide) (hts _ qk_L_19) (va_Nw.use rfl hX.2.2.2.2.1) hce hcv hcl ?_
      refine lv_astore_n (lv' := [(3, .ref q9), (0, .ref n0), (1, .int a1), (2, .ref o0)]) hx hb dL_floorIn_12 rfl hl (by decide) rfl (fun ls hl => ?_)
      refine lv_iconst (v := (1 : Int32)) hx hb dL_floorIn_13 (by decide) ?_
      exact eWi S hr hlk rfl hPx hS1 (Nat.le_of_ble_eq_true rfl) (Nat.le_of_ble_eq_true rfl) dL_floorIn_14
    · have hok := iq hok hE
      cases hok
  · have hS : va_S A s.heap H locs := va_S0 hS
    rw [hz] at hok
    change some ((0 : Int32), vp_updL fO 0 v.toInt64) = some z at hok
    refine lv_i2l (v := v.toInt64) hx hb dL_floorIn_7 rfl ?_
    refine va_lastK hx hb hK hP hD hS 28 2 rfl rfl (j := 0) (by decide) (vp_inK (by decide)) dL_floorIn_8 (fun H locs hP _ hS => ?_)
    have hP : va_P (dC, dI) vwCl (wN cI cZ n0 h0 h3 h4 h5 h6 c0 c8 c9 c10 c11 c12 c13 t0 t8 t9 t10 t11 t12 t13 i0 i1 i2 i3 i4 m0 m1 m2 uH uC uT uI uM ++ [(o0, .inl (cJ, 1, .inr (.inl (vp_updL fO 0 v.toInt64))))]) H := hP
    refine lv_goto (tgt := 15) hx hb dL_floorIn_9 (by decide) ?_
    refine lv_iconst (v := (0 : Int32)) hx hb dL_floorIn_15 (by decide) ?_
    have hok := Option.some.inj hok
    subst hok
    exact eWi S hr hlk rfl hP hS (Nat.le_of_ble_eq_true rfl) (Nat.le_of_ble_eq_true rfl) dL_floorIn_16
theorem hd_L_paragraphIn : yL_paragraphIn.cls ≠ "java/lang/invoke/MethodHandle" ∧ yL_paragraphIn.cls ≠ "java/lang/invoke/VarHandle" ∧ (parseMethodDescriptor yL_paragraphIn.desc).map (fun d => d.parameters.length) = some 3 := by decide +kernel
def p_L_paragraphIn (uH : tX1) (uC : tX0) (uT : tX0) (uI : tX2) (uM : tX3) (fO : Nat → Int64) (a1 : Int32) : Option (Int32 × (Nat → Int64)) := bC (p_X4_paragraphIn uH uC uT uI uM a1) (fun v => some ((0 : Int32), vp_updL fO 0 v.toInt64)) (fun E => if E = xIOB then some ((1 : Int32), fO) else none)
set_option maxHeartbeats 4000000 in
set_option maxRecDepth 100000 in
theorem c_L_paragraphIn (l : Launch) (hlt : l.stackTraces = false) (dC : Nat → ClassId) (dI : Nat → Nat → Nat) (cI cZ cJ : ClassId) (n0 h0 h3 h4 h5 h6 c0 c8 c9 c10 c11 c12 c13 t0 t8 t9 t10 t11 t12 t13 i0 i1 i2 i3 i4 m0 m1 m2 o0 : Nat) (sz : Nat) (sa : Nat → Nat) (uH : tX1) (uC : tX0) (uT : tX0) (uI : tX2) (uM : tX3) (fO : Nat → Int64) (a1 : Int32) {z : (Int32 × (Nat → Int64))} (hok : p_L_paragraphIn uH uC uT uI uM fO a1 = some z) : Met l yL_paragraphIn (Cond.codeWith yL_paragraphIn cL_paragraphIn 4 (some .int) [(0, 9, 12, 19)] :: lw_all) { frames := 8, cells := 1, slots := 6, locals := 132 } (prH (dC, dI) vwCl (TYJ cI cZ cJ) (wN cI cZ n0 h0 h3 h4 h5 h6 c0 c8 c9 c10 c11 c12 c13 t0 t8 t9 t10 t11 t12 t13 i0 i1 i2 i3 i4 m0 m1 m2 uH uC uT uI uM ++ [(o0, .inl (cJ, 1, .inr (.inl fO)))]) sz sa [.ref n0, .int a1, .ref o0]) (va_Qi (fun (r : Int32) (_ : Unit) => r = z.1) (fun _ t => va_P (dC, dI) vwCl (wN cI cZ n0 h0 h3 h4 h5 h6 c0 c8 c9 c10 c11 c12 c13 t0 t8 t9 t10 t11 t12 t13 i0 i1 i2 i3 i4 m0 m1 m2 uH uC uT uI uM ++ [(o0, .inl (cJ, 1, .inr (.inl z.2)))]) t.heap) (va_A (wN cI cZ n0 h0 h3 h4 h5 h6 c0 c8 c9 c10 c11 c12 c13 t0 t8 t9 t10 t11 t12 t13 i0 i1 i2 i3 i4 m0 m1 m2 uH uC uT uI uM ++ [(o0, .inl (cJ, 1, .inr (.inl fO)))]) sz)) 1 6 (va_A (wN cI cZ n0 h0 h3 h4 h5 h6 c0 c8 c9 c10 c11 c12 c13 t0 t8 t9 t10 t11 t12 t13 i0 i1 i2 i3 i4 m0 m1 m2 uH uC uT uI uM ++ [(o0, .inl (cJ, 1, .inr (.inl fO)))]) sz) := by
  refine oH (by decide) (Nat.le_of_ble_eq_true rfl) ?_
  intro p e s m args below meth c S hr hlk hT hB ls hl
  have hx := S.1
  have hb := S.2.1
  have hown : s.vm.findClass RL = some m.cls := S.2.2.2.1
  have hts := S.2.2.2.2
  have S : CallFix p m c cL_paragraphIn 4 s args lw_all RL := S
  have hl : lv_has ls 4 [(0, .ref n0), (1, .int a1), (2, .ref o0)] := hl
  obtain ⟨hsz, hP, hK, hD0, hX, hxn⟩ := hB
  subst hsz
  have hD := hD0.self (sz := s.heap.size)
  generalize hAe : va_A (wN cI cZ n0 h0 h3 h4 h5 h6 c0 c8 c9 c10 c11 c12 c13 t0 t8 t9 t10 t11 t12 t13 i0 i1 i2 i3 i4 m0 m1 m2 uH uC uT uI uM ++ [(o0, .inl (cJ, 1, .inr (.inl fO)))]) s.heap.size = A at hD hX ⊢
  have hA : ∀ q : Nat, s.heap.size ≤ q → A q := fun q h => by rw [← hAe]; exact Or.inr h
  have hS0 : va_S (fun _ => False) s.heap s.heap [] := va_S.rf
  have hS : va_S A s.heap s.heap [] := va_S.rf
  have hP : va_P (dC, dI) vwCl (wN cI cZ n0 h0 h3 h4 h5 h6 c0 c8 c9 c10 c11 c12 c13 t0 t8 t9 t10 t11 t12 t13 i0 i1 i2 i3 i4 m0 m1 m2 uH uC uT uI uM ++ [(o0, .inl (cJ, 1, .inr (.inl fO)))]) s.heap := hP
  unfold p_L_paragraphIn at hok
  refine lv_aload_n hx hb dL_paragraphIn_0 rfl (lv_at hl 2 rfl) ?_
  refine lv_iconst (v := (0 : Int32)) hx hb dL_paragraphIn_1 (by decide) ?_
  refine lv_aload_n hx hb dL_paragraphIn_2 rfl (lv_at hl 0 rfl) ?_
  refine lv_iload_n hx hb dL_paragraphIn_3 rfl (lv_at hl 1 rfl) ?_
  obtain ⟨y, hc1, hok⟩ := bC_some hok
  refine cYVi (ci := 4) (q0 := 0) [.int a1] S (hK.sub (tys' := TYS cI cZ) [0, 1] rfl) hP (cP_NO hP) (cD_NO hD) hS0 (va_S0 hS0) hA hX (c_X4_paragraphIn l hlt dC dI cI cZ n0 h0 h3 h4 h5 h6 c0 c8 c9 c10 c11 c12 c13 t0 t8 t9 t10 t11 t12 t13 i0 i1 i2 i3 i4 m0 m1 m2 _ sa uH uC uT uI uM a1 hc1) (lw_V qm_L_70 qi_X4_paragraphIn qs_X4_paragraphIn qn_X4 qc_X4_paragraphIn) hd_X4_paragraphIn ⟨rfl, rfl⟩ ⟨Nat.le_of_ble_eq_true rfl, Nat.le_of_ble_eq_true rfl⟩ ⟨Nat.le_of_ble_eq_true rfl, Nat.le_of_ble_eq_true rfl⟩ rfl rfl rfl hl.1 (Nat.le_of_ble_eq_true rfl) rfl dL_paragraphIn_4 (fun E ce q9 H1 locs1 hz hS1 hce hcv hcl => ?_) (fun v H locs hz hP hS => ?_)
  · have hPx := va_Pkept hP (fun q hq hn => hS1.2.1 q hq hn)
    have hS1 : va_S A s.heap H1 locs1 := va_S0 hS1
    rw [hz] at hok
    change (if E = xIOB then _ else _) = some z at hok
    by_cases hE : E = xIOB
    · have hok2 := Option.some.inj (ip hok hE)
      subst hE
      subst hok2
      refine vx_catch hown [] ⟨0, 9, 12, 19⟩ [] (hT.trans rfl) (fun z hz => absurd hz List.not_mem_nil) rfl (by decide) (hts _ qk_L_19) (va_Nw.use rfl hX.2.2.2.2.1) hce hcv hcl ?_
      refine lv_astore_n (lv' := [(3, .ref q9), (0, .ref n0), (1, .int a1), (2, .ref o0)]) hx hb dL_paragraphIn_12 rfl hl (by decide) rfl (fun ls hl => ?_)
      refine lv_iconst (v := (1 : Int32)) hx hb dL_paragraphIn_13 (by decide) ?_
      exact eWi S hr hlk rfl hPx hS1 (Nat.le_of_ble_eq_true rfl) (Nat.le_of_ble_eq_true rfl) dL_paragraphIn_14
    · have hok := iq hok hE
      cases hok
  · have hS : va_S A s.heap H locs := va_S0 hS
    rw [hz] at hok
    change some ((0 : Int32), vp_updL fO 0 v.toInt64) = some z at hok
    refine lv_i2l (v := v.toInt64) hx hb dL_paragraphIn_7 rfl ?_
    refine va_lastK hx hb hK hP hD hS 28 2 rfl rfl (j := 0) (by decide) (vp_inK (by decide)) dL_paragraphIn_8 (fun H locs hP _ hS => ?_)
    have hP : va_P (dC, dI) vwCl (wN cI cZ n0 h0 h3 h4 h5 h6 c0 c8 c9 c10 c11 c12 c13 t0 t8 t9 t10 t11 t12 t13 i0 i1 i2 i3 i4 m0 m1 m2 uH uC uT uI uM ++ [(o0, .inl (cJ, 1, .inr (.inl (vp_updL fO 0 v.toInt64))))]) H := hP
    refine lv_goto (tgt := 15) hx hb dL_paragraphIn_9 (by decide) ?_
    refine lv_iconst (v := (0 : Int32)) hx hb dL_paragraphIn_15 (by decide) ?_
    have hok := Option.some.inj hok
    subst hok
    exact eWi S hr hlk rfl hP hS (Nat.le_of_ble_eq_true rfl) (Nat.le_of_ble_eq_true rfl) dL_paragraphIn_16
theorem hd_L_thrillIn : yL_thrillIn.cls ≠ "java/lang/invoke/MethodHandle" ∧ yL_thrillIn.cls ≠ "java/lang/invoke/VarHandle" ∧ (parseMethodDescriptor yL_thrillIn.desc).map (fun d => d.parameters.length) = some 3 := by decide +kernel
def p_L_thrillIn (uH : tX1) (uC : tX0) (uT : tX0) (uI : tX2) (uM : tX3) (fO : Nat → Int64) (a1 : Int32) : Option (Int32 × (Nat → Int64)) := bC (p_X4_thrillIn uH uC uT uI uM a1) (fun v => some ((0 : Int32), vp_updL fO 0 v.toInt64)) (fun E => if E = xIOB then some ((1 : Int32), fO) else none)
set_option maxHeartbeats 4000000 in
set_option maxRecDepth 100000 in
theorem c_L_thrillIn (l : Launch) (hlt : l.stackTraces = false) (dC : Nat → ClassId) (dI : Nat → Nat → Nat) (cI cZ cJ : ClassId) (n0 h0 h3 h4 h5 h6 c0 c8 c9 c10 c11 c12 c13 t0 t8 t9 t10 t11 t12 t13 i0 i1 i2 i3 i4 m0 m1 m2 o0 : Nat) (sz : Nat) (sa : Nat → Nat) (uH : tX1) (uC : tX0) (uT : tX0) (uI : tX2) (uM : tX3) (fO : Nat → Int64) (a1 : Int32) {z : (Int32 × (Nat → Int64))} (hok : p_L_thrillIn uH uC uT uI uM fO a1 = some z) : Met l yL_thrillIn (Cond.codeWith yL_thrillIn cL_thrillIn 4 (some .int) [(0, 9, 12, 19)] :: lw_all) { frames := 8, cells := 1, slots := 6, locals := 132 } (prH (dC, dI) vwCl (TYJ cI cZ cJ) (wN cI cZ n0 h0 h3 h4 h5 h6 c0 c8 c9 c10 c11 c12 c13 t0 t8 t9 t10 t11 t12 t13 i0 i1 i2 i3 i4 m0 m1 m2 uH uC uT uI uM ++ [(o0, .inl (cJ, 1, .inr (.inl fO)))]) sz sa [.ref n0, .int a1, .ref o0]) (va_Qi (fun (r : Int32) (_ : Unit) => r = z.1) (fun _ t => va_P (dC, dI) vwCl (wN cI cZ n0 h0 h3 h4 h5 h6 c0 c8 c9 c10 c11 c12 c13 t0 t8 t9 t10 t11 t12 t13 i0 i1 i2 i3 i4 m0 m1 m2 uH uC uT uI uM ++ [(o0, .inl (cJ, 1, .inr (.inl z.2)))]) t.heap) (va_A (wN cI cZ n0 h0 h3 h4 h5 h6 c0 c8 c9 c10 c11 c12 c13 t0 t8 t9 t10 t11 t12 t13 i0 i1 i2 i3 i4 m0 m1 m2 uH uC uT uI uM ++ [(o0, .inl (cJ, 1, .inr (.inl fO)))]) sz)) 1 6 (va_A (wN cI cZ n0 h0 h3 h4 h5 h6 c0 c8 c9 c10 c11 c12 c13 t0 t8 t9 t10 t11 t12 t13 i0 i1 i2 i3 i4 m0 m1 m2 uH uC uT uI uM ++ [(o0, .inl (cJ, 1, .inr (.inl fO)))]) sz) := by
  refine oH (by decide) (Nat.le_of_ble_eq_true rfl) ?_
  intro p e s m args below meth c S hr hlk hT hB ls hl
  have hx := S.1
  have hb := S.2.1
  have hown : s.vm.findClass RL = some m.cls := S.2.2.2.1
  have hts := S.2.2.2.2
  have S : CallFix p m c cL_thrillIn 4 s args lw_all RL := S
  have hl : lv_has ls 4 [(0, .ref n0), (1, .int a1), (2, .ref o0)] := hl
  obtain ⟨hsz, hP, hK, hD0, hX, hxn⟩ := hB
  subst hsz
  have hD := hD0.self (sz := s.heap.size)
  generalize hAe : va_A (wN cI cZ n0 h0 h3 h4 h5 h6 c0 c8 c9 c10 c11 c12 c13 t0 t8 t9 t10 t11 t12 t13 i0 i1 i2 i3 i4 m0 m1 m2 uH uC uT uI uM ++ [(o0, .inl (cJ, 1, .inr (.inl fO)))]) s.heap.size = A at hD hX ⊢
  have hA : ∀ q : Nat, s.heap.size ≤ q → A q := fun q h => by rw [← hAe]; exact Or.inr h
  have hS0 : va_S (fun _ => False) s.heap s.heap [] := va_S.rf
  have hS : va_S A s.heap s.heap [] := va_S.rf
  have hP : va_P (dC, dI) vwCl (wN cI cZ n0 h0 h3 h4 h5 h6 c0 c8 c9 c10 c11 c12 c13 t0 t8 t9 t10 t11 t12 t13 i0 i1 i2 i3 i4 m0 m1 m2 uH uC uT uI uM ++ [(o0, .inl (cJ, 1, .inr (.inl fO)))]) s.heap := hP
  unfold p_L_thrillIn at hok
  refine lv_aload_n hx hb dL_thrillIn_0 rfl (lv_at hl 2 rfl) ?_
  refine lv_iconst (v := (0 : Int32)) hx hb dL_thrillIn_1 (by decide) ?_
  refine lv_aload_n hx hb dL_thrillIn_2 rfl (lv_at hl 0 rfl) ?_
  refine lv_iload_n hx hb dL_thrillIn_3 rfl (lv_at hl 1 rfl) ?_
  obtain ⟨y, hc1, hok⟩ := bC_some hok
  refine cYVi (ci := 4) (q0 := 0) [.int a1] S (hK.sub (tys' := TYS cI cZ) [0, 1] rfl) hP (cP_NO hP) (cD_NO hD) hS0 (va_S0 hS0) hA hX (c_X4_thrillIn l hlt dC dI cI cZ n0 h0 h3 h4 h5 h6 c0 c8 c9 c10 c11 c12 c13 t0 t8 t9 t10 t11 t12 t13 i0 i1 i2 i3 i4 m0 m1 m2 _ sa uH uC uT uI uM a1 hc1) (lw_V qm_L_73 qi_X4_thrillIn qs_X4_thrillIn qn_X4 qc_X4_thrillIn) hd_X4_thrillIn ⟨rfl, rfl⟩ ⟨Nat.le_of_ble_eq_true rfl, Nat.le_of_ble_eq_true rfl⟩ ⟨Nat.le_of_ble_eq_true rfl, Nat.le_of_ble_eq_true rfl⟩ rfl rfl rfl hl.1 (Nat.le_of_ble_eq_true rfl) rfl dL_thrillIn_4 (fun E ce q9 H1 locs1 hz hS1 hce hcv hcl => ?_) (fun v H locs hz hP hS => ?_)
  · have hPx := va_Pkept hP (fun q hq hn => hS1.2.1 q hq hn)
    have hS1 : va_S A s.heap H1 locs1 := va_S0 hS1
    rw [hz] at hok
    change (if E = xIOB then _ else _) = some z at hok
    by_cases hE : E = xIOB
    · have hok2 := Option.some.inj (ip hok hE)
      subst hE
      subst hok2
      refine vx_catch hown [] ⟨0, 9, 12, 19⟩ [] (hT.trans rfl) (fun z hz => absurd hz List.not_mem_nil) rfl (by decide) (hts _ qk_L_19) (va_Nw.use rfl hX.2.2.2.2.1) hce hcv hcl ?_
      refine lv_astore_n (lv' := [(3, .ref q9), (0, .ref n0), (1, .int a1), (2, .ref o0)]) hx hb dL_thrillIn_12 rfl hl (by decide) rfl (fun ls hl => ?_)
      refine lv_iconst (v := (1 : Int32)) hx hb dL_thrillIn_13 (by decide) ?_
      exact eWi S hr hlk rfl hPx hS1 (Nat.le_of_ble_eq_true rfl) (Nat.le_of_ble_eq_true rfl) dL_thrillIn_14
    · have hok := iq hok hE
      cases hok
  · have hS : va_S A s.heap H locs := va_S0 hS
    rw [hz] at hok
    change some ((0 : Int32), vp_updL fO 0 v.toInt64) = some z at hok
    refine lv_i2l (v := v.toInt64) hx hb dL_thrillIn_7 rfl ?_
    refine va_lastK hx hb hK hP hD hS 28 2 rfl rfl (j := 0) (by decide) (vp_inK (by decide)) dL_thrillIn_8 (fun H locs hP _ hS => ?_)
    have hP : va_P (dC, dI) vwCl (wN cI cZ n0 h0 h3 h4 h5 h6 c0 c8 c9 c10 c11 c12 c13 t0 t8 t9 t10 t11 t12 t13 i0 i1 i2 i3 i4 m0 m1 m2 uH uC uT uI uM ++ [(o0, .inl (cJ, 1, .inr (.inl (vp_updL fO 0 v.toInt64))))]) H := hP
    refine lv_goto (tgt := 15) hx hb dL_thrillIn_9 (by decide) ?_
    refine lv_iconst (v := (0 : Int32)) hx hb dL_thrillIn_15 (by decide) ?_
    have hok := Option.some.inj hok
    subst hok
    exact eWi S hr hlk rfl hP hS (Nat.le_of_ble_eq_true rfl) (Nat.le_of_ble_eq_true rfl) dL_thrillIn_16
theorem hd_L_hourIn : yL_hourIn.cls ≠ "java/lang/invoke/MethodHandle" ∧ yL_hourIn.cls ≠ "java/lang/invoke/VarHandle" ∧ (parseMethodDescriptor yL_hourIn.desc).map (fun d => d.parameters.length) = some 3 := by decide +kernel
def p_L_hourIn (uH : tX1) (uC : tX0) (uT : tX0) (uI : tX2) (uM : tX3) (fO : Nat → Int64) (a1 : Int32) : Option (Int32 × (Nat → Int64)) := bC (p_X4_hourIn uH uC uT uI uM a1) (fun v => some ((0 : Int32), vp_updL fO 0 v.toInt64)) (fun E => if E = xIOB then some ((1 : Int32), fO) else none)
set_option maxHeartbeats 4000000 in
set_option maxRecDepth 100000 in
theorem c_L_hourIn (l : Launch) (hlt : l.stackTraces = false) (dC : Nat → ClassId) (dI : Nat → Nat → Nat) (cI cZ cJ : ClassId) (n0 h0 h3 h4 h5 h6 c0 c8 c9 c10 c11 c12 c13 t0 t8 t9 t10 t11 t12 t13 i0 i1 i2 i3 i4 m0 m1 m2 o0 : Nat) (sz : Nat) (sa : Nat → Nat) (uH : tX1) (uC : tX0) (uT : tX0) (uI : tX2) (uM : tX3) (fO : Nat → Int64) (a1 : Int32) {z : (Int32 × (Nat → Int64))} (hok : p_L_hourIn uH uC uT uI uM fO a1 = some z) : Met l yL_hourIn (Cond.codeWith yL_hourIn cL_hourIn 4 (some .int) [(0, 9, 12, 19)] :: lw_all) { frames := 8, cells := 1, slots := 6, locals := 132 } (prH (dC, dI) vwCl (TYJ cI cZ cJ) (wN cI cZ n0 h0 h3 h4 h5 h6 c0 c8 c9 c10 c11 c12 c13 t0 t8 t9 t10 t11 t12 t13 i0 i1 i2 i3 i4 m0 m1 m2 uH uC uT uI uM ++ [(o0, .inl (cJ, 1, .inr (.inl fO)))]) sz sa [.ref n0, .int a1, .ref o0]) (va_Qi (fun (r : Int32) (_ : Unit) => r = z.1) (fun _ t => va_P (dC, dI) vwCl (wN cI cZ n0 h0 h3 h4 h5 h6 c0 c8 c9 c10 c11 c12 c13 t0 t8 t9 t10 t11 t12 t13 i0 i1 i2 i3 i4 m0 m1 m2 uH uC uT uI uM ++ [(o0, .inl (cJ, 1, .inr (.inl z.2)))]) t.heap) (va_A (wN cI cZ n0 h0 h3 h4 h5 h6 c0 c8 c9 c10 c11 c12 c13 t0 t8 t9 t10 t11 t12 t13 i0 i1 i2 i3 i4 m0 m1 m2 uH uC uT uI uM ++ [(o0, .inl (cJ, 1, .inr (.inl fO)))]) sz)) 1 6 (va_A (wN cI cZ n0 h0 h3 h4 h5 h6 c0 c8 c9 c10 c11 c12 c13 t0 t8 t9 t10 t11 t12 t13 i0 i1 i2 i3 i4 m0 m1 m2 uH uC uT uI uM ++ [(o0, .inl (cJ, 1, .inr (.inl fO)))]) sz) := by
  refine oH (by decide) (Nat.le_of_ble_eq_true rfl) ?_
  intro p e s m args below meth c S hr hlk hT hB ls hl
  have hx := S.1
  have hb := S.2.1
  have hown : s.vm.findClass RL = some m.cls := S.2.2.2.1
  have hts := S.2.2.2.2
  have S : CallFix p m c cL_hourIn 4 s args lw_all RL := S
  have hl : lv_has ls 4 [(0, .ref n0), (1, .int a1), (2, .ref o0)] := hl
  obtain ⟨hsz, hP, hK, hD0, hX, hxn⟩ := hB
  subst hsz
  have hD := hD0.self (sz := s.heap.size)
  generalize hAe : va_A (wN cI cZ n0 h0 h3 h4 h5 h6 c0 c8 c9 c10 c11 c12 c13 t0 t8 t9 t10 t11 t12 t13 i0 i1 i2 i3 i4 m0 m1 m2 uH uC uT uI uM ++ [(o0, .inl (cJ, 1, .inr (.inl fO)))]) s.heap.size = A at hD hX ⊢
  have hA : ∀ q : Nat, s.heap.size ≤ q → A q := fun q h => by rw [← hAe]; exact Or.inr h
  have hS0 : va_S (fun _ => False) s.heap s.heap [] := va_S.rf
  have hS : va_S A s.heap s.heap [] := va_S.rf
  have hP : va_P (dC, dI) vwCl (wN cI cZ n0 h0 h3 h4 h5 h6 c0 c8 c9 c10 c11 c12 c13 t0 t8 t9 t10 t11 t12 t13 i0 i1 i2 i3 i4 m0 m1 m2 uH uC uT uI uM ++ [(o0, .inl (cJ, 1, .inr (.inl fO)))]) s.heap := hP
  unfold p_L_hourIn at hok
  refine lv_aload_n hx hb dL_hourIn_0 rfl (lv_at hl 2 rfl) ?_
  refine lv_iconst (v := (0 : Int32)) hx hb dL_hourIn_1 (by decide) ?_
  refine lv_aload_n hx hb dL_hourIn_2 rfl (lv_at hl 0 rfl) ?_
  refine lv_iload_n hx hb dL_hourIn_3 rfl (lv_at hl 1 rfl) ?_
  obtain ⟨y, hc1, hok⟩ := bC_some hok
  refine cYVi (ci := 4) (q0 := 0) [.int a1] S (hK.sub (tys' := TYS cI cZ) [0, 1] rfl) hP (cP_NO hP) (cD_NO hD) hS0 (va_S0 hS0) hA hX (c_X4_hourIn l hlt dC dI cI cZ n0 h0 h3 h4 h5 h6 c0 c8 c9 c10 c11 c12 c13 t0 t8 t9 t10 t11 t12 t13 i0 i1 i2 i3 i4 m0 m1 m2 _ sa uH uC uT uI uM a1 hc1) (lw_V qm_L_76 qi_X4_hourIn qs_X4_hourIn qn_X4 qc_X4_hourIn) hd_X4_hourIn ⟨rfl, rfl⟩ ⟨Nat.le_of_ble_eq_true rfl, Nat.le_of_ble_eq_true rfl⟩ ⟨Nat.le_of_ble_eq_true rfl, Nat.le_of_ble_eq_true rfl⟩ rfl rfl rfl hl.1 (Nat.le_of_ble_eq_true rfl) rfl dL_hourIn_4 (fun E ce q9 H1 locs1 hz hS1 hce hcv hcl => ?_) (fun v H locs hz hP hS => ?_)
  · have hPx := va_Pkept hP (fun q hq hn => hS1.2.1 q hq hn)
    have hS1 : va_S A s.heap H1 locs1 := va_S0 hS1
    rw [hz] at hok
    change (if E = xIOB then _ else _) = some z at hok
    by_cases hE : E = xIOB
    · have hok2 := Option.some.inj (ip hok hE)
      subst hE
      subst hok2
      refine vx_catch hown [] ⟨0, 9, 12, 19⟩ [] (hT.trans rfl) (fun z hz => absurd hz List.not_mem_nil) rfl (by decide) (hts _ qk_L_19) (va_Nw.use rfl hX.2.2.2.2.1) hce hcv hcl ?_
      refine lv_astore_n (lv' := [(3, .ref q9), (0, .ref n0), (1, .int a1), (2, .ref o0)]) hx hb dL_hourIn_12 rfl hl (by decide) rfl (fun ls hl => ?_)
      refine lv_iconst (v := (1 : Int32)) hx hb dL_hourIn_13 (by decide) ?_
      exact eWi S hr hlk rfl hPx hS1 (Nat.le_of_ble_eq_true rfl) (Nat.le_of_ble_eq_true rfl) dL_hourIn_14
    · have hok := iq hok hE
      cases hok
  · have hS : va_S A s.heap H locs := va_S0 hS
    rw [hz] at hok
    change some ((0 : Int32), vp_updL fO 0 v.toInt64) = some z at hok
    refine lv_i2l (v := v.toInt64) hx hb dL_hourIn_7 rfl ?_
    refine va_lastK hx hb hK hP hD hS 28 2 rfl rfl (j := 0) (by decide) (vp_inK (by decide)) dL_hourIn_8 (fun H locs hP _ hS => ?_)
    have hP : va_P (dC, dI) vwCl (wN cI cZ n0 h0 h3 h4 h5 h6 c0 c8 c9 c10 c11 c12 c13 t0 t8 t9 t10 t11 t12 t13 i0 i1 i2 i3 i4 m0 m1 m2 uH uC uT uI uM ++ [(o0, .inl (cJ, 1, .inr (.inl (vp_updL fO 0 v.toInt64))))]) H := hP
    refine lv_goto (tgt := 15) hx hb dL_hourIn_9 (by decide) ?_
    refine lv_iconst (v := (0 : Int32)) hx hb dL_hourIn_15 (by decide) ?_
    have hok := Option.some.inj hok
    subst hok
    exact eWi S hr hlk rfl hP hS (Nat.le_of_ble_eq_true rfl) (Nat.le_of_ble_eq_true rfl) dL_hourIn_16
theorem hd_L_tasteOf : yL_tasteOf.cls ≠ "java/lang/invoke/MethodHandle" ∧ yL_tasteOf.cls ≠ "java/lang/invoke/VarHandle" ∧ (parseMethodDescriptor yL_tasteOf.desc).map (fun d => d.parameters.length) = some 3 := by decide +kernel
def p_L_tasteOf (uH : tX1) (uC : tX0) (uT : tX0) (uI : tX2) (uM : tX3) (fO : Nat → Int64) (a1 : Int32) : Option (Int32 × (Nat → Int64)) := bC (p_X4_tasteOf uH uC uT uI uM a1) (fun v => some ((0 : Int32), vp_updL fO 0 v.toInt64)) (fun E => if E = xIOB then some ((1 : Int32), fO) else none)
set_option maxHeartbeats 4000000 in
set_option maxRecDepth 100000 in
theorem c_L_tasteOf (l : Launch) (hlt : l.stackTraces = false) (dC : Nat → ClassId) (dI : Nat → Nat → Nat) (cI cZ cJ : ClassId) (n0 h0 h3 h4 h5 h6 c0 c8 c9 c10 c11 c12 c13 t0 t8 t9 t10 t11 t12 t13 i0 i1 i2 i3 i4 m0 m1 m2 o0 : Nat) (sz : Nat) (sa : Nat → Nat) (uH : tX1) (uC : tX0) (uT : tX0) (uI : tX2) (uM : tX3) (fO : Nat → Int64) (a1 : Int32) {z : (Int32 × (Nat → Int64))} (hok : p_L_tasteOf uH uC uT uI uM fO a1 = some z) : Met l yL_tasteOf (Cond.codeWith yL_tasteOf cL_tasteOf 4 (some .int) [(0, 9, 12, 19)] :: lw_all) { frames := 8, cells := 1, slots := 6, locals := 132 } (prH (dC, dI) vwCl (TYJ cI cZ cJ) (wN cI cZ n0 h0 h3 h4 h5 h6 c0 c8 c9 c10 c11 c12 c13 t0 t8 t9 t10 t11 t12 t13 i0 i1 i2 i3 i4 m0 m1 m2 uH uC uT uI uM ++ [(o0, .inl (cJ, 1, .inr (.inl fO)))]) sz sa [.ref n0, .int a1, .ref o0]) (va_Qi (fun (r : Int32) (_ : Unit) => r = z.1) (fun _ t => va_P (dC, dI) vwCl (wN cI cZ n0 h0 h3 h4 h5 h6 c0 c8 c9 c10 c11 c12 c13 t0 t8 t9 t10 t11 t12 t13 i0 i1 i2 i3 i4 m0 m1 m2 uH uC uT uI uM ++ [(o0, .inl (cJ, 1, .inr (.inl z.2)))]) t.heap) (va_A (wN cI cZ n0 h0 h3 h4 h5 h6 c0 c8 c9 c10 c11 c12 c13 t0 t8 t9 t10 t11 t12 t13 i0 i1 i2 i3 i4 m0 m1 m2 uH uC uT uI uM ++ [(o0, .inl (cJ, 1, .inr (.inl fO)))]) sz)) 1 6 (va_A (wN cI cZ n0 h0 h3 h4 h5 h6 c0 c8 c9 c10 c11 c12 c13 t0 t8 t9 t10 t11 t12 t13 i0 i1 i2 i3 i4 m0 m1 m2 uH uC uT uI uM ++ [(o0, .inl (cJ, 1, .inr (.inl fO)))]) sz) := by
  refine oH (by decide) (Nat.le_of_ble_eq_true rfl) ?_
  intro p e s m args below meth c S hr hlk hT hB ls hl
  have hx := S.1
  have hb := S.2.1
  have hown : s.vm.findClass RL = some m.cls := S.2.2.2.1
  have hts := S.2.2.2.2
  have S : CallFix p m c cL_tasteOf 4 s args lw_all RL := S
  have hl : lv_has ls 4 [(0, .ref n0), (1, .int a1), (2, .ref o0)] := hl
  obtain ⟨hsz, hP, hK, hD0, hX, hxn⟩ := hB
  subst hsz
  have hD := hD0.self (sz := s.heap.size)
  generalize hAe : va_A (wN cI cZ n0 h0 h3 h4 h5 h6 c0 c8 c9 c10 c11 c12 c13 t0 t8 t9 t10 t11 t12 t13 i0 i1 i2 i3 i4 m0 m1 m2 uH uC uT uI uM ++ [(o0, .inl (cJ, 1, .inr (.inl fO)))]) s.heap.size = A at hD hX ⊢
  have hA : ∀ q : Nat, s.heap.size ≤ q → A q := fun q h => by rw [← hAe]; exact Or.inr h
  have hS0 : va_S (fun _ => False) s.heap s.heap [] := va_S.rf
  have hS : va_S A s.heap s.heap [] := va_S.rf
  have hP : va_P (dC, dI) vwCl (wN cI cZ n0 h0 h3 h4 h5 h6 c0 c8 c9 c10 c11 c12 c13 t0 t8 t9 t10 t11 t12 t13 i0 i1 i2 i3 i4 m0 m1 m2 uH uC uT uI uM ++ [(o0, .inl (cJ, 1, .inr (.inl fO)))]) s.heap := hP
  unfold p_L_tasteOf at hok
  refine lv_aload_n hx hb dL_tasteOf_0 rfl (lv_at hl 2 rfl) ?_
  refine lv_iconst (v := (0 : Int32)) hx hb dL_tasteOf_1 (by decide) ?_
  refine lv_aload_n hx hb dL_tasteOf_2 rfl (lv_at hl 0 rfl) ?_
  refine lv_iload_n hx hb dL_tasteOf_3 rfl (lv_at hl 1 rfl) ?_
  obtain ⟨y, hc1, hok⟩ := bC_some hok
  refine cYVi (ci := 4) (q0 := 0) [.int a1] S (hK.sub (tys' := TYS cI cZ) [0, 1] rfl) hP (cP_NO hP) (cD_NO hD) hS0 (va_S0 hS0) hA hX (c_X4_tasteOf l hlt dC dI cI cZ n0 h0 h3 h4 h5 h6 c0 c8 c9 c10 c11 c12 c13 t0 t8 t9 t10 t11 t12 t13 i0 i1 i2 i3 i4 m0 m1 m2 _ sa uH uC uT uI uM a1 hc1) (lw_V qm_L_79 qi_X4_tasteOf qs_X4_tasteOf qn_X4 qc_X4_tasteOf) hd_X4_tasteOf ⟨rfl, rfl⟩ ⟨Nat.le_of_ble_eq_true rfl, Nat.le_of_ble_eq_true rfl⟩ ⟨Nat.le_of_ble_eq_true rfl, Nat.le_of_ble_eq_true rfl⟩ rfl rfl rfl hl.1 (Nat.le_of_ble_eq_true rfl) rfl dL_tasteOf_4 (fun E ce q9 H1 locs1 hz hS1 hce hcv hcl => ?_) (fun v H locs hz hP hS => ?_)
  · have hPx := va_Pkept hP (fun q hq hn => hS1.2.1 q hq hn)
    have hS1 : va_S A s.heap H1 locs1 := va_S0 hS1
    rw [hz] at hok
    change (if E = xIOB then _ else _) = some z at hok
    by_cases hE : E = xIOB
    · have hok2 := Option.some.inj (ip hok hE)
      subst hE
      subst hok2
      refine vx_catch hown [] ⟨0, 9, 12, 19⟩ [] (hT.trans rfl) (fun z hz => absurd hz List.not_mem_nil) rfl (by decide) (hts _ qk_L_19) (va_Nw.use rfl hX.2.2.2.2.1) hce hcv hcl ?_
      refine lv_astore_n (lv' := [(3, .ref q9), (0, .ref n0), (1, .int a1), (2, .ref o0)]) hx hb dL_tasteOf_12 rfl hl (by decide) rfl (fun ls hl => ?_)
      refine lv_iconst (v := (1 : Int32)) hx hb dL_tasteOf_13 (by decide) ?_
      exact eWi S hr hlk rfl hPx hS1 (Nat.le_of_ble_eq_true rfl) (Nat.le_of_ble_eq_true rfl) dL_tasteOf_14
    · have hok := iq hok hE
      cases hok
  · have hS : va_S A s.heap H locs := va_S0 hS
    rw [hz] at hok
    change some ((0 : Int32), vp_updL fO 0 v.toInt64) = some z at hok
    refine lv_i2l (v := v.toInt64) hx hb dL_tasteOf_7 rfl ?_
    refine va_lastK hx hb hK hP hD hS 28 2 rfl rfl (j := 0) (by decide) (vp_inK (by decide)) dL_tasteOf_8 (fun H locs hP _ hS => ?_)
    have hP : va_P (dC, dI) vwCl (wN cI cZ n0 h0 h3 h4 h5 h6 c0 c8 c9 c10 c11 c12 c13 t0 t8 t9 t10 t11 t12 t13 i0 i1 i2 i3 i4 m0 m1 m2 uH uC uT uI uM ++ [(o0, .inl (cJ, 1, .inr (.inl (vp_updL fO 0 v.toInt64))))]) H := hP
    refine lv_goto (tgt := 15) hx hb dL_tasteOf_9 (by decide) ?_
    refine lv_iconst (v := (0 : Int32)) hx hb dL_tasteOf_15 (by decide) ?_
    have hok := Option.some.inj hok
    subst hok
    exact eWi S hr hlk rfl hP hS (Nat.le_of_ble_eq_true rfl) (Nat.le_of_ble_eq_true rfl) dL_tasteOf_16
theorem hd_L_warmthOf : yL_warmthOf.cls ≠ "java/lang/invoke/MethodHandle" ∧ yL_warmthOf.cls ≠ "java/lang/invoke/VarHandle" ∧ (parseMethodDescriptor yL_warmthOf.desc).map (fun d => d.parameters.length) = some 3 := by decide +kernel
def p_L_warmthOf (uH : tX1) (uC : tX0) (uT : tX0) (uI : tX2) (uM : tX3) (fO : Nat → Int64) (a1 : Int32) : Option (Int32 × (Nat → Int64)) := bC (p_X4_warmthOf uH uC uT uI uM a1) (fun v => some ((0 : Int32), vp_updL fO 0 v.toInt64)) (fun E => if E = xIOB then some ((1 : Int32), fO) else none)
set_option maxHeartbeats 4000000 in
set_option maxRecDepth 100000 in
theorem c_L_warmthOf (l : Launch) (hlt : l.stackTraces = false) (dC : Nat → ClassId) (dI : Nat → Nat → Nat) (cI cZ cJ : ClassId) (n0 h0 h3 h4 h5 h6 c0 c8 c9 c10 c11 c12 c13 t0 t8 t9 t10 t11 t12 t13 i0 i1 i2 i3 i4 m0 m1 m2 o0 : Nat) (sz : Nat) (sa : Nat → Nat) (uH : tX1) (uC : tX0) (uT : tX0) (uI : tX2) (uM : tX3) (fO : Nat → Int64) (a1 : Int32) {z : (Int32 × (Nat → Int64))} (hok : p_L_warmthOf uH uC uT uI uM fO a1 = some z) : Met l yL_warmthOf (Cond.codeWith yL_warmthOf cL_warmthOf 4 (some .int) [(0, 9, 12, 19)] :: lw_all) { frames := 8, cells := 1, slots := 6, locals := 132 } (prH (dC, dI) vwCl (TYJ cI cZ cJ) (wN cI cZ n0 h0 h3 h4 h5 h6 c0 c8 c9 c10 c11 c12 c13 t0 t8 t9 t10 t11 t12 t13 i0 i1 i2 i3 i4 m0 m1 m2 uH uC uT uI uM ++ [(o0, .inl (cJ, 1, .inr (.inl fO)))]) sz sa [.ref n0, .int a1, .ref o0]) (va_Qi (fun (r : Int32) (_ : Unit) => r = z.1) (fun _ t => va_P (dC, dI) vwCl (wN cI cZ n0 h0 h3 h4 h5 h6 c0 c8 c9 c10 c11 c12 c13 t0 t8 t9 t10 t11 t12 t13 i0 i1 i2 i3 i4 m0 m1 m2 uH uC uT uI uM ++ [(o0, .inl (cJ, 1, .inr (.inl z.2)))]) t.heap) (va_A (wN cI cZ n0 h0 h3 h4 h5 h6 c0 c8 c9 c10 c11 c12 c13 t0 t8 t9 t10 t11 t12 t13 i0 i1 i2 i3 i4 m0 m1 m2 uH uC uT uI uM ++ [(o0, .inl (cJ, 1, .inr (.inl fO)))]) sz)) 1 6 (va_A (wN cI cZ n0 h0 h3 h4 h5 h6 c0 c8 c9 c10 c11 c12 c13 t0 t8 t9 t10 t11 t12 t13 i0 i1 i2 i3 i4 m0 m1 m2 uH uC uT uI uM ++ [(o0, .inl (cJ, 1, .inr (.inl fO)))]) sz) := by
  refine oH (by decide) (Nat.le_of_ble_eq_true rfl) ?_
  intro p e s m args below meth c S hr hlk hT hB ls hl
  have hx := S.1
  have hb := S.2.1
  have hown : s.vm.findClass RL = some m.cls := S.2.2.2.1
  have hts := S.2.2.2.2
  have S : CallFix p m c cL_warmthOf 4 s args lw_all RL := S
  have hl : lv_has ls 4 [(0, .ref n0), (1, .int a1), (2, .ref o0)] := hl
  obtain ⟨hsz, hP, hK, hD0, hX, hxn⟩ := hB
  subst hsz
  have hD := hD0.self (sz := s.heap.size)
  generalize hAe : va_A (wN cI cZ n0 h0 h3 h4 h5 h6 c0 c8 c9 c10 c11 c12 c13 t0 t8 t9 t10 t11 t12 t13 i0 i1 i2 i3 i4 m0 m1 m2 uH uC uT uI uM ++ [(o0, .inl (cJ, 1, .inr (.inl fO)))]) s.heap.size = A at hD hX ⊢
  have hA : ∀ q : Nat, s.heap.size ≤ q → A q := fun q h => by rw [← hAe]; exact Or.inr h
  have hS0 : va_S (fun _ => False) s.heap s.heap [] := va_S.rf
  have hS : va_S A s.heap s.heap [] := va_S.rf
  have hP : va_P (dC, dI) vwCl (wN cI cZ n0 h0 h3 h4 h5 h6 c0 c8 c9 c10 c11 c12 c13 t0 t8 t9 t10 t11 t12 t13 i0 i1 i2 i3 i4 m0 m1 m2 uH uC uT uI uM ++ [(o0, .inl (cJ, 1, .inr (.inl fO)))]) s.heap := hP
  unfold p_L_warmthOf at hok
  refine lv_aload_n hx hb dL_warmthOf_0 rfl (lv_at hl 2 rfl) ?_
  refine lv_iconst (v := (0 : Int32)) hx hb dL_warmthOf_1 (by decide) ?_
  refine lv_aload_n hx hb dL_warmthOf_2 rfl (lv_at hl 0 rfl) ?_
  refine lv_iload_n hx hb dL_warmthOf_3 rfl (lv_at hl 1 rfl) ?_
  obtain ⟨y, hc1, hok⟩ := bC_some hok
  refine cYVi (ci := 4) (q0 := 0) [.int a1] S (hK.sub (tys' := TYS cI cZ) [0, 1] rfl) hP (cP_NO hP) (cD_NO hD) hS0 (va_S0 hS0) hA hX (c_X4_warmthOf l hlt dC dI cI cZ n0 h0 h3 h4 h5 h6 c0 c8 c9 c10 c11 c12 c13 t0 t8 t9 t10 t11 t12 t13 i0 i1 i2 i3 i4 m0 m1 m2 _ sa uH uC uT uI uM a1 hc1) (lw_V qm_L_82 qi_X4_warmthOf qs_X4_warmthOf qn_X4 qc_X4_warmthOf) hd_X4_warmthOf ⟨rfl, rfl⟩ ⟨Nat.le_of_ble_eq_true rfl, Nat.le_of_ble_eq_true rfl⟩ ⟨Nat.le_of_ble_eq_true rfl, Nat.le_of_ble_eq_true rfl⟩ rfl rfl rfl hl.1 (Nat.le_of_ble_eq_true rfl) rfl dL_warmthOf_4 (fun E ce q9 H1 locs1 hz hS1 hce hcv hcl => ?_) (fun v H locs hz hP hS => ?_)
  · have hPx := va_Pkept hP (fun q hq hn => hS1.2.1 q hq hn)
    have hS1 : va_S A s.heap H1 locs1 := va_S0 hS1
    rw [hz] at hok
    change (if E = xIOB then _ else _) = some z at hok
    by_cases hE : E = xIOB
    · have hok2 := Option.some.inj (ip hok hE)
      subst hE
      subst hok2
      refine vx_catch hown [] ⟨0, 9, 12, 19⟩ [] (hT.trans rfl) (fun z hz => absurd hz List.not_mem_nil) rfl (by decide) (hts _ qk_L_19) (va_Nw.use rfl hX.2.2.2.2.1) hce hcv hcl ?_
      refine lv_astore_n (lv' := [(3, .ref q9), (0, .ref n0), (1, .int a1), (2, .ref o0)]) hx hb dL_warmthOf_12 rfl hl (by decide) rfl (fun ls hl => ?_)
      refine lv_iconst (v := (1 : Int32)) hx hb dL_warmthOf_13 (by decide) ?_
      exact eWi S hr hlk rfl hPx hS1 (Nat.le_of_ble_eq_true rfl) (Nat.le_of_ble_eq_true rfl) dL_warmthOf_14
    · have hok := iq hok hE
      cases hok
  · have hS : va_S A s.heap H locs := va_S0 hS
    rw [hz] at hok
    change some ((0 : Int32), vp_updL fO 0 v.toInt64) = some z at hok
    refine lv_i2l (v := v.toInt64) hx hb dL_warmthOf_7 rfl ?_
    refine va_lastK hx hb hK hP hD hS 28 2 rfl rfl (j := 0) (by decide) (vp_inK (by decide)) dL_warmthOf_8 (fun H locs hP _ hS => ?_)
    have hP : va_P (dC, dI) vwCl (wN cI cZ n0 h0 h3 h4 h5 h6 c0 c8 c9 c10 c11 c12 c13 t0 t8 t9 t10 t11 t12 t13 i0 i1 i2 i3 i4 m0 m1 m2 uH uC uT uI uM ++ [(o0, .inl (cJ, 1, .inr (.inl (vp_updL fO 0 v.toInt64))))]) H := hP
    refine lv_goto (tgt := 15) hx hb dL_warmthOf_9 (by decide) ?_
    refine lv_iconst (v := (0 : Int32)) hx hb dL_warmthOf_15 (by decide) ?_
    have hok := Option.some.inj hok
    subst hok
    exact eWi S hr hlk rfl hP hS (Nat.le_of_ble_eq_true rfl) (Nat.le_of_ble_eq_true rfl) dL_warmthOf_16
theorem hd_L_isSubscriber : yL_isSubscriber.cls ≠ "java/lang/invoke/MethodHandle" ∧ yL_isSubscriber.cls ≠ "java/lang/invoke/VarHandle" ∧ (parseMethodDescriptor yL_isSubscriber.desc).map (fun d => d.parameters.length) = some 3 := by decide +kernel
def p_L_isSubscriber (uH : tX1) (uC : tX0) (uT : tX0) (uI : tX2) (uM : tX3) (fO : Nat → Int64) (a1 : Int32) : Option (Int32 × (Nat → Int64)) := bC (p_X4_isSubscriber uH uC uT uI uM a1) (fun v => if v = 0 then some ((0 : Int32), vp_updL fO 0 (0 : Int64)) else some ((0 : Int32), vp_updL fO 0 (1 : Int64))) (fun E => if E = xIOB then some ((1 : Int32), fO) else none)
set_option maxHeartbeats 4000000 in
set_option maxRecDepth 100000 in
theorem c_L_isSubscriber (l : Launch) (hlt : l.stackTraces = false) (dC : Nat → ClassId) (dI : Nat → Nat → Nat) (cI cZ cJ : ClassId) (n0 h0 h3 h4 h5 h6 c0 c8 c9 c10 c11 c12 c13 t0 t8 t9 t10 t11 t12 t13 i0 i1 i2 i3 i4 m0 m1 m2 o0 : Nat) (sz : Nat) (sa : Nat → Nat) (uH : tX1) (uC : tX0) (uT : tX0) (uI : tX2) (uM : tX3) (fO : Nat → Int64) (a1 : Int32) {z : (Int32 × (Nat → Int64))} (hok : p_L_isSubscriber uH uC uT uI uM fO a1 = some z) : Met l yL_isSubscriber (Cond.codeWith yL_isSubscriber cL_isSubscriber 4 (some .int) [(0, 16, 19, 19)] :: lw_all) { frames := 8, cells := 1, slots := 6, locals := 132 } (prH (dC, dI) vwCl (TYJ cI cZ cJ) (wN cI cZ n0 h0 h3 h4 h5 h6 c0 c8 c9 c10 c11 c12 c13 t0 t8 t9 t10 t11 t12 t13 i0 i1 i2 i3 i4 m0 m1 m2 uH uC uT uI uM ++ [(o0, .inl (cJ, 1, .inr (.inl fO)))]) sz sa [.ref n0, .int a1, .ref o0]) (va_Qi (fun (r : Int32) (_ : Unit) => r = z.1) (fun _ t => va_P (dC, dI) vwCl (wN cI cZ n0 h0 h3 h4 h5 h6 c0 c8 c9 c10 c11 c12 c13 t0 t8 t9 t10 t11 t12 t13 i0 i1 i2 i3 i4 m0 m1 m2 uH uC uT uI uM ++ [(o0, .inl (cJ, 1, .inr (.inl z.2)))]) t.heap) (va_A (wN cI cZ n0 h0 h3 h4 h5 h6 c0 c8 c9 c10 c11 c12 c13 t0 t8 t9 t10 t11 t12 t13 i0 i1 i2 i3 i4 m0 m1 m2 uH uC uT uI uM ++ [(o0, .inl (cJ, 1, .inr (.inl fO)))]) sz)) 1 6 (va_A (wN cI cZ n0 h0 h3 h4 h5 h6 c0 c8 c9 c10 c11 c12 c13 t0 t8 t9 t10 t11 t12 t13 i0 i1 i2 i3 i4 m0 m1 m2 uH uC uT uI uM ++ [(o0, .inl (cJ, 1, .inr (.inl fO)))]) sz) := by
  refine oH (by decide) (Nat.le_of_ble_eq_true rfl) ?_
  intro p e s m args below meth c S hr hlk hT hB ls hl
  have hx := S.1
  have hb := S.2.1
  have hown : s.vm.findClass RL = some m.cls := S.2.2.2.1
  have hts := S.2.2.2.2
  have S : CallFix p m c cL_isSubscriber 4 s args lw_all RL := S
  have hl : lv_has ls 4 [(0, .ref n0), (1, .int a1), (2, .ref o0)] := hl
  obtain ⟨hsz, hP, hK, hD0, hX, hxn⟩ := hB
  subst hsz
  have hD := hD0.self (sz := s.heap.size)
  generalize hAe : va_A (wN cI cZ n0 h0 h3 h4 h5 h6 c0 c8 c9 c10 c11 c12 c13 t0 t8 t9 t10 t11 t12 t13 i0 i1 i2 i3 i4 m0 m1 m2 uH uC uT uI uM ++ [(o0, .inl (cJ, 1, .inr (.inl fO)))]) s.heap.size = A at hD hX ⊢
  have hA : ∀ q : Nat, s.heap.size ≤ q → A q := fun q h => by rw [← hAe]; exact Or.inr h
  have hS0 : va_S (fun _ => False) s.heap s.heap [] := va_S.rf
  have hS : va_S A s.heap s.heap [] := va_S.rf
  have hP : va_P (dC, dI) vwCl (wN cI cZ n0 h0 h3 h4 h5 h6 c0 c8 c9 c10 c11 c12 c13 t0 t8 t9 t10 t11 t12 t13 i0 i1 i2 i3 i4 m0 m1 m2 uH uC uT uI uM ++ [(o0, .inl (cJ, 1, .inr (.inl fO)))]) s.heap := hP
  unfold p_L_isSubscriber at hok
  refine lv_aload_n hx hb dL_isSubscriber_0 rfl (lv_at hl 2 rfl) ?_
  refine lv_iconst (v := (0 : Int32)) hx hb dL_isSubscriber_1 (by decide) ?_
  refine lv_aload_n hx hb dL_isSubscriber_2 rfl (lv_at hl 0 rfl) ?_
  refine lv_iload_n hx hb dL_isSubscriber_3 rfl (lv_at hl 1 rfl) ?_
  obtain ⟨y, hc1, hok⟩ := bC_some hok
  refine cYVi (ci := 4) (q0 := 0) [.int a1] S (hK.sub (tys' := TYS cI cZ) [0, 1] rfl) hP (cP_NO hP) (cD_NO hD) hS0 (va_S0 hS0) hA hX (c_X4_isSubscriber l hlt dC dI cI cZ n0 h0 h3 h4 h5 h6 c0 c8 c9 c10 c11 c12 c13 t0 t8 t9 t10 t11 t12 t13 i0 i1 i2 i3 i4 m0 m1 m2 _ sa uH uC uT uI uM a1 hc1) (lw_V qm_L_85 qi_X4_isSubscriber qs_X4_isSubscriber qn_X4 qc_X4_isSubscriber) hd_X4_isSubscriber ⟨rfl, rfl⟩ ⟨Nat.le_of_ble_eq_true rfl, Nat.le_of_ble_eq_true rfl⟩ ⟨Nat.le_of_ble_eq_true rfl, Nat.le_of_ble_eq_true rfl⟩ rfl rfl rfl hl.1 (Nat.le_of_ble_eq_true rfl) rfl dL_isSubscriber_4 (fun E ce q9 H1 locs1 hz hS1 hce hcv hcl => ?_) (fun v H locs hz hP hS => ?_)
  · have hPx := va_Pkept hP (fun q hq hn => hS1.2.1 q hq hn)
    have hS1 : va_S A s.heap H1 locs1 := va_S0 hS1
    rw [hz] at hok
    change (if E = xIOB then _ else _) = some z at hok
    by_cases hE : E = xIOB
    · have hok2 := Option.some.inj (ip hok hE)
      subst hE
      subst hok2
      refine vx_catch hown [] ⟨0, 16, 19, 19⟩ [] (hT.trans rfl) (fun z hz => absurd hz List.not_mem_nil) rfl (by decide) (hts _ qk_L_19) (va_Nw.use rfl hX.2.2.2.2.1) hce hcv hcl ?_
      refine lv_astore_n (lv' := [(3, .ref q9), (0, .ref n0), (1, .int a1), (2, .ref o0)]) hx hb dL_isSubscriber_19 rfl hl (by decide) rfl (fun ls hl => ?_)
      refine lv_iconst (v := (1 : Int32)) hx hb dL_isSubscriber_20 (by decide) ?_
      exact eWi S hr hlk rfl hPx hS1 (Nat.le_of_ble_eq_true rfl) (Nat.le_of_ble_eq_true rfl) dL_isSubscriber_21
    · have hok := iq hok hE
      cases hok
  · have hS : va_S A s.heap H locs := va_S0 hS
    rw [hz] at hok
    change (if v = 0 then _ else _) = some z at hok
    refine lv_if_eq (tgt := 14) hx hb dL_isSubscriber_7 (by decide) (fun hc => ?_) (fun hc => ?_)
    · have hok := ip hok hc
      refine lv_lconst (v := (0 : Int64)) hx hb dL_isSubscriber_14 (by decide) ?_
      refine va_lastK hx hb hK hP hD hS 28 2 rfl rfl (j := 0) (by decide) (vp_inK (by decide)) dL_isSubscriber_15 (fun H locs hP _ hS => ?_)
      have hP : va_P (dC, dI) vwCl (wN cI cZ n0 h0 h3 h4 h5 h6 c0 c8 c9 c10 c11 c12 c13 t0 t8 t9 t10 t11 t12 t13 i0 i1 i2 i3 i4 m0 m1 m2 uH uC uT uI uM ++ [(o0, .inl (cJ, 1, .inr (.inl (vp_updL fO 0 (0 : Int64)))))]) H := hP
      refine lv_goto (tgt := 22) hx hb dL_isSubscriber_16 (by decide) ?_
      refine lv_iconst (v := (0 : Int32)) hx hb dL_isSubscriber_22 (by decide) ?_
      have hok := Option.some.inj hok
      subst hok
      exact eWi S hr hlk rfl hP hS (Nat.le_of_ble_eq_true rfl) (Nat.le_of_ble_eq_true rfl) dL_isSubscriber_23
    · have hok := iq hok hc
      refine lv_lconst (v := (1 : Int64)) hx hb dL_isSubscriber_10 (by decide) ?_
      refine lv_goto (tgt := 15) hx hb dL_isSubscriber_11 (by decide) ?_
      refine va_lastK hx hb hK hP hD hS 28 2 rfl rfl (j := 0) (by decide) (vp_inK (by decide)) dL_isSubscriber_15 (fun H locs hP _ hS => ?_)
      have hP : va_P (dC, dI) vwCl (wN cI cZ n0 h0 h3 h4 h5 h6 c0 c8 c9 c10 c11 c12 c13 t0 t8 t9 t10 t11 t12 t13 i0 i1 i2 i3 i4 m0 m1 m2 uH uC uT uI uM ++ [(o0, .inl (cJ, 1, .inr (.inl (vp_updL fO 0 (1 : Int64)))))]) H := hP
      refine lv_goto (tgt := 22) hx hb dL_isSubscriber_16 (by decide) ?_
      refine lv_iconst (v := (0 : Int32)) hx hb dL_isSubscriber_22 (by decide) ?_
      have hok := Option.some.inj hok
      subst hok
      exact eWi S hr hlk rfl hP hS (Nat.le_of_ble_eq_true rfl) (Nat.le_of_ble_eq_true rfl) dL_isSubscriber_23
theorem hd_L_grade : yL_grade.cls ≠ "java/lang/invoke/MethodHandle" ∧ yL_grade.cls ≠ "java/lang/invoke/VarHandle" ∧ (parseMethodDescriptor yL_grade.desc).map (fun d => d.parameters.length) = some 4 := by decide +kernel
def p_L_grade (uH : tX1) (uC : tX0) (uT : tX0) (uI : tX2) (uM : tX3) (fO : Nat → Int64) (a1 : Int32) (a2 : Int32) : Option (Int32 × (Nat → Int64)) := bC (p_X4_grade uH uC uT uI uM a1 a2) (fun v => some ((0 : Int32), vp_updL fO 0 v.toInt64)) (fun E => if E = xIOB then some ((1 : Int32), fO) else none)
set_option maxHeartbeats 4000000 in
set_option maxRecDepth 100000 in
theorem c_L_grade (l : Launch) (hlt : l.stackTraces = false) (dC : Nat → ClassId) (dI : Nat → Nat → Nat) (cI cZ cJ : ClassId) (n0 h0 h3 h4 h5 h6 c0 c8 c9 c10 c11 c12 c13 t0 t8 t9 t10 t11 t12 t13 i0 i1 i2 i3 i4 m0 m1 m2 o0 : Nat) (sz : Nat) (sa : Nat → Nat) (uH : tX1) (uC : tX0) (uT : tX0) (uI : tX2) (uM : tX3) (fO : Nat → Int64) (a1 : Int32) (a2 : Int32) {z : (Int32 × (Nat → Int64))} (hok : p_L_grade uH uC uT uI uM fO a1 a2 = some z) : Met l yL_grade (Cond.codeWith yL_grade cL_grade 5 (some .int) [(0, 10, 13, 19)] :: lw_all) { frames := 8, cells := 2, slots := 12, locals := 133 } (prH (dC, dI) vwCl (TYJ cI cZ cJ) (wN cI cZ n0 h0 h3 h4 h5 h6 c0 c8 c9 c10 c11 c12 c13 t0 t8 t9 t10 t11 t12 t13 i0 i1 i2 i3 i4 m0 m1 m2 uH uC uT uI uM ++ [(o0, .inl (cJ, 1, .inr (.inl fO)))]) sz sa [.ref n0, .int a1, .int a2, .ref o0]) (va_Qi (fun (r : Int32) (_ : Unit) => r = z.1) (fun _ t => va_P (dC, dI) vwCl (wN cI cZ n0 h0 h3 h4 h5 h6 c0 c8 c9 c10 c11 c12 c13 t0 t8 t9 t10 t11 t12 t13 i0 i1 i2 i3 i4 m0 m1 m2 uH uC uT uI uM ++ [(o0, .inl (cJ, 1, .inr (.inl z.2)))]) t.heap) (va_A (wN cI cZ n0 h0 h3 h4 h5 h6 c0 c8 c9 c10 c11 c12 c13 t0 t8 t9 t10 t11 t12 t13 i0 i1 i2 i3 i4 m0 m1 m2 uH uC uT uI uM ++ [(o0, .inl (cJ, 1, .inr (.inl fO)))]) sz)) 2 12 (va_A (wN cI cZ n0 h0 h3 h4 h5 h6 c0 c8 c9 c10 c11 c12 c13 t0 t8 t9 t10 t11 t12 t13 i0 i1 i2 i3 i4 m0 m1 m2 uH uC uT uI uM ++ [(o0, .inl (cJ, 1, .inr (.inl fO)))]) sz) := by
  refine oH (by decide) (Nat.le_of_ble_eq_true rfl) ?_
  intro p e s m args below meth c S hr hlk hT hB ls hl
  have hx := S.1
  have hb := S.2.1
  have hown : s.vm.findClass RL = some m.cls := S.2.2.2.1
  have hts := S.2.2.2.2
  have S : CallFix p m c cL_grade 5 s args lw_all RL := S
  have hl : lv_has ls 5 [(0, .ref n0), (1, .int a1), (2, .int a2), (3, .ref o0)] := hl
  obtain ⟨hsz, hP, hK, hD0, hX, hxn⟩ := hB
  subst hsz
  have hD := hD0.self (sz := s.heap.size)
  generalize hAe : va_A (wN cI cZ n0 h0 h3 h4 h5 h6 c0 c8 c9 c10 c11 c12 c13 t0 t8 t9 t10 t11 t12 t13 i0 i1 i2 i3 i4 m0 m1 m2 uH uC uT uI uM ++ [(o0, .inl (cJ, 1, .inr (.inl fO)))]) s.heap.size = A at hD hX ⊢
  have hA : ∀ q : Nat, s.heap.size ≤ q → A q := fun q h => by rw [← hAe]; exact Or.inr h
  have hS0 : va_S (fun _ => False) s.heap s.heap [] := va_S.rf
  have hS : va_S A s.heap s.heap [] := va_S.rf
  have hP : va_P (dC, dI) vwCl (wN cI cZ n0 h0 h3 h4 h5 h6 c0 c8 c9 c10 c11 c12 c13 t0 t8 t9 t10 t11 t12 t13 i0 i1 i2 i3 i4 m0 m1 m2 uH uC uT uI uM ++ [(o0, .inl (cJ, 1, .inr (.inl fO)))]) s.heap := hP
  unfold p_L_grade at hok
  refine lv_aload_n hx hb dL_grade_0 rfl (lv_at hl 3 rfl) ?_
  refine lv_iconst (v := (0 : Int32)) hx hb dL_grade_1 (by decide) ?_
  refine lv_aload_n hx hb dL_grade_2 rfl (lv_at hl 0 rfl) ?_
  refine lv_iload_n hx hb dL_grade_3 rfl (lv_at hl 1 rfl) ?_
  refine lv_iload_n hx hb dL_grade_4 rfl (lv_at hl 2 rfl) ?_
  obtain ⟨y, hc1, hok⟩ := bC_some hok
  refine cYVi (ci := 4) (q0 := 0) [.int a1, .int a2] S (hK.sub (tys' := TYS cI cZ) [0, 1] rfl) hP (cP_NO hP) (cD_NO hD) hS0 (va_S0 hS0) hA hX (c_X4_grade l hlt dC dI cI cZ n0 h0 h3 h4 h5 h6 c0 c8 c9 c10 c11 c12 c13 t0 t8 t9 t10 t11 t12 t13 i0 i1 i2 i3 i4 m0 m1 m2 _ sa uH uC uT uI uM a1 a2 hc1) (lw_V qm_L_88 qi_X4_grade qs_X4_grade qn_X4 qc_X4_grade) hd_X4_grade ⟨rfl, rfl⟩ ⟨Nat.le_of_ble_eq_true rfl, Nat.le_of_ble_eq_true rfl⟩ ⟨Nat.le_of_ble_eq_true rfl, Nat.le_of_ble_eq_true rfl⟩ rfl rfl rfl hl.1 (Nat.le_of_ble_eq_true rfl) rfl dL_grade_5 (fun E ce q9 H1 locs1 hz hS1 hce hcv hcl => ?_) (fun v H locs hz hP hS => ?_)
  · have hPx := va_Pkept hP (fun q hq hn => hS1.2.1 q hq hn)
    have hS1 : va_S A s.heap H1 locs1 := va_S0 hS1
    rw [hz] at hok
    change (if E = xIOB then _ else _) = some z at hok
    by_cases hE : E = xIOB
    · have hok2 := Option.some.inj (ip hok hE)
      subst hE
      subst hok2
      refine vx_catch hown [] ⟨0, 10, 13, 19⟩ [] (hT.trans rfl) (fun z hz => absurd hz List.not_mem_nil) rfl (by decide) (hts _ qk_L_19) (va_Nw.use rfl hX.2.2.2.2.1) hce hcv hcl ?_
      refine lv_astore (lv' := [(4, .ref q9), (0, .ref n0), (1, .int a1), (2, .int a2), (3, .ref o0)]) hx hb dL_grade_13 hl (by decide) rfl (fun ls hl => ?_)
      refine lv_iconst (v := (1 : Int32)) hx hb dL_grade_15 (by decide) ?_
      exact eWi S hr hlk rfl hPx hS1 (Nat.le_of_ble_eq_true rfl) (Nat.le_of_ble_eq_true rfl) dL_grade_16
    · have hok := iq hok hE
      cases hok
  · have hS : va_S A s.heap H locs := va_S0 hS
    rw [hz] at hok
    change some ((0 : Int32), vp_updL fO 0 v.toInt64) = some z at hok
    refine lv_i2l (v := v.toInt64) hx hb dL_grade_8 rfl ?_
    refine va_lastK hx hb hK hP hD hS 28 2 rfl rfl (j := 0) (by decide) (vp_inK (by decide)) dL_grade_9 (fun H locs hP _ hS => ?_)
    have hP : va_P (dC, dI) vwCl (wN cI cZ n0 h0 h3 h4 h5 h6 c0 c8 c9 c10 c11 c12 c13 t0 t8 t9 t10 t11 t12 t13 i0 i1 i2 i3 i4 m0 m1 m2 uH uC uT uI uM ++ [(o0, .inl (cJ, 1, .inr (.inl (vp_updL fO 0 v.toInt64))))]) H := hP
    refine lv_goto (tgt := 17) hx hb dL_grade_10 (by decide) ?_
    refine lv_iconst (v := (0 : Int32)) hx hb dL_grade_17 (by decide) ?_
    have hok := Option.some.inj hok
    subst hok
    exact eWi S hr hlk rfl hP hS (Nat.le_of_ble_eq_true rfl) (Nat.le_of_ble_eq_true rfl) dL_grade_18
