theorem hd_L_begin : yL_begin.cls ≠ "java/lang/invoke/MethodHandle" ∧ yL_begin.cls ≠ "java/lang/invoke/VarHandle" ∧ (parseMethodDescriptor yL_begin.desc).map (fun d => d.parameters.length) = some 3 := by decide +kernel
def p_L_begin (uH : tX1) (uC : tX0) (uT : tX0) (uI : tX2) (uM : tX3) (fO : Nat → Int64) (a1 : Int32) : Option (Int32 × tX1 × tX0 × tX2 × (Nat → Int64)) := bC (p_X4_begin uH uC uT uI uM a1) (fun v => some ((0 : Int32), v.2.1, v.2.2.1, v.2.2.2, vp_updL fO 0 v.1.toInt64)) (fun E => if E = xIAE then some ((1 : Int32), uH, uC, uI, fO) else none)
set_option maxHeartbeats 4000000 in
set_option maxRecDepth 100000 in
theorem c_L_begin (l : Launch) (hlt : l.stackTraces = false) (dC : Nat → ClassId) (dI : Nat → Nat → Nat) (cI cZ cJ : ClassId) (n0 h0 h3 h4 h5 h6 c0 c8 c9 c10 c11 c12 c13 t0 t8 t9 t10 t11 t12 t13 i0 i1 i2 i3 i4 m0 m1 m2 o0 : Nat) (sz : Nat) (sa : Nat → Nat) (uH : tX1) (uC : tX0) (uT : tX0) (uI : tX2) (uM : tX3) (fO : Nat → Int64) (a1 : Int32) {z : (Int32 × tX1 × tX0 × tX2 × (Nat → Int64))} (hok : p_L_begin uH uC uT uI uM fO a1 = some z) : Met l yL_begin (Cond.codeWith yL_begin cL_begin 4 (some .int) [(0, 9, 12, 13)] :: lw_all) { frames := 7, cells := 1, slots := 6, locals := 111 } (prH (dC, dI) vwCl (TYJ cI cZ cJ) (wN cI cZ n0 h0 h3 h4 h5 h6 c0 c8 c9 c10 c11 c12 c13 t0 t8 t9 t10 t11 t12 t13 i0 i1 i2 i3 i4 m0 m1 m2 uH uC uT uI uM ++ [(o0, .inl (cJ, 1, .inr (.inl fO)))]) sz sa [.ref n0, .int a1, .ref o0]) (va_Qi (fun (r : Int32) (_ : Unit) => r = z.1) (fun _ t => va_P (dC, dI) vwCl (wN cI cZ n0 h0 h3 h4 h5 h6 c0 c8 c9 c10 c11 c12 c13 t0 t8 t9 t10 t11 t12 t13 i0 i1 i2 i3 i4 m0 m1 m2 z.2.1 z.2.2.1 uT z.2.2.2.1 uM ++ [(o0, .inl (cJ, 1, .inr (.inl z.2.2.2.2)))]) t.heap) (va_A (wN cI cZ n0 h0 h3 h4 h5 h6 c0 c8 c9 c10 c11 c12 c13 t0 t8 t9 t10 t11 t12 t13 i0 i1 i2 i3 i4 m0 m1 m2 uH uC uT uI uM ++ [(o0, .inl (cJ, 1, .inr (.inl fO)))]) sz)) 1 6 (va_A (wN cI cZ n0 h0 h3 h4 h5 h6 c0 c8 c9 c10 c11 c12 c13 t0 t8 t9 t10 t11 t12 t13 i0 i1 i2 i3 i4 m0 m1 m2 uH uC uT uI uM ++ [(o0, .inl (cJ, 1, .inr (.inl fO)))]) sz) := by
  refine oH (by decide) (Nat.le_of_ble_eq_true rfl) ?_
  intro p e s m args below meth c S hr hlk hT hB ls hl
  have hx := S.1
  have hb := S.2.1
  have hown : s.vm.findClass RL = some m.cls := S.2.2.2.1
  have hts := S.2.2.2.2
  have S : CallFix p m c cL_begin 4 s args lw_all RL := S
  have hl : lv_has ls 4 [(0, .ref n0), (1, .int a1), (2, .ref o0)] := hl
  obtain ⟨hsz, hP, hK, hD0, hX, hxn⟩ := hB
  subst hsz
  have hD := hD0.self (sz := s.heap.size)
  generalize hAe : va_A (wN cI cZ n0 h0 h3 h4 h5 h6 c0 c8 c9 c10 c11 c12 c13 t0 t8 t9 t10 t11 t12 t13 i0 i1 i2 i3 i4 m0 m1 m2 uH uC uT uI uM ++ [(o0, .inl (cJ, 1, .inr (.inl fO)))]) s.heap.size = A at hD hX ⊢
  have hA : ∀ q : Nat, s.heap.size ≤ q → A q := fun q h => by rw [← hAe]; exact Or.inr h
  have hS0 : va_S (fun _ => False) s.heap s.heap [] := va_S.rf
  have hS : va_S A s.heap s.heap [] := va_S.rf
  have hP : va_P (dC, dI) vwCl (wN cI cZ n0 h0 h3 h4 h5 h6 c0 c8 c9 c10 c11 c12 c13 t0 t8 t9 t10 t11 t12 t13 i0 i1 i2 i3 i4 m0 m1 m2 uH uC uT uI uM ++ [(o0, .inl (cJ, 1, .inr (.inl fO)))]) s.heap := hP
  unfold p_L_begin at hok
  refine lv_aload_n hx hb dL_begin_0 rfl (lv_at hl 2 rfl) ?_
  refine lv_iconst (v := (0 : Int32)) hx hb dL_begin_1 (by decide) ?_
  refine lv_aload_n hx hb dL_begin_2 rfl (lv_at hl 0 rfl) ?_
  refine lv_iload_n hx hb dL_begin_3 rfl (lv_at hl 1 rfl) ?_
  obtain ⟨y, hc1, hok⟩ := bC_some hok
  refine cXUi (ci := 4) (q0 := 0) [.int a1] S (hK.sub (tys' := TYS cI cZ) [0, 1] rfl) (cP_NO hP) (cD_NO hD) hS hA hX (c_X4_begin l hlt dC dI cI cZ n0 h0 h3 h4 h5 h6 c0 c8 c9 c10 c11 c12 c13 t0 t8 t9 t10 t11 t12 t13 i0 i1 i2 i3 i4 m0 m1 m2 _ sa uH uC uT uI uM a1 hc1) (lw_V qm_L_7 qi_X4_begin qs_X4_begin qn_X4 qc_X4_begin) hd_X4_begin ⟨rfl, rfl⟩ ⟨Nat.le_of_ble_eq_true rfl, Nat.le_of_ble_eq_true rfl⟩ ⟨Nat.le_of_ble_eq_true rfl, Nat.le_of_ble_eq_true rfl⟩ rfl rfl rfl hl.1 (Nat.le_of_ble_eq_true rfl) rfl dL_begin_4 (fun a H1 hk9 h9 => cJ_NO hP hD hk9 h9) (fun a => D_NO hD) (fun E ce q9 H1 locs1 hz hs1 hq1 hS1 hce hcv hcl => ?_) (fun v H locs hz hP hD hS => ?_)
  · have hPx := va_Pkept hP (fun q hq _ => hq1 q hq)
    rw [hz] at hok
    change (if E = xIAE then _ else _) = some z at hok
    by_cases hE : E = xIAE
    · have hok2 := Option.some.inj (ip hok hE)
      subst hE
      subst hok2
      refine vx_catch hown [] ⟨0, 9, 12, 13⟩ [] (hT.trans rfl) (fun z hz => absurd hz List.not_mem_nil) rfl (by decide) (hts _ qk_L_13) (va_Nw.use rfl hX.2.2.1) hce hcv hcl ?_
      refine lv_astore_n (lv' := [(3, .ref q9), (0, .ref n0), (1, .int a1), (2, .ref o0)]) hx hb dL_begin_12 rfl hl (by decide) rfl (fun ls hl => ?_)
      refine lv_iconst (v := (1 : Int32)) hx hb dL_begin_13 (by decide) ?_
      exact eWi S hr hlk rfl hPx hS1 (Nat.le_of_ble_eq_true rfl) (Nat.le_of_ble_eq_true rfl) dL_begin_14
    · have hok := iq hok hE
      cases hok
  · rw [hz] at hok
    change some ((0 : Int32), v.2.1, v.2.2.1, v.2.2.2, vp_updL fO 0 v.1.toInt64) = some z at hok
    refine lv_i2l (v := v.1.toInt64) hx hb dL_begin_7 rfl ?_
    refine va_lastK hx hb hK hP hD hS 28 2 rfl rfl (j := 0) (by decide) (vp_inK (by decide)) dL_begin_8 (fun H locs hP _ hS => ?_)
    have hP : va_P (dC, dI) vwCl (wN cI cZ n0 h0 h3 h4 h5 h6 c0 c8 c9 c10 c11 c12 c13 t0 t8 t9 t10 t11 t12 t13 i0 i1 i2 i3 i4 m0 m1 m2 v.2.1 v.2.2.1 uT v.2.2.2 uM ++ [(o0, .inl (cJ, 1, .inr (.inl (vp_updL fO 0 v.1.toInt64))))]) H := hP
    refine lv_goto (tgt := 15) hx hb dL_begin_9 (by decide) ?_
    refine lv_iconst (v := (0 : Int32)) hx hb dL_begin_15 (by decide) ?_
    have hok := Option.some.inj hok
    subst hok
    exact eWi S hr hlk rfl hP hS (Nat.le_of_ble_eq_true rfl) (Nat.le_of_ble_eq_true rfl) dL_begin_16
theorem hd_L_addParagraph : yL_addParagraph.cls ≠ "java/lang/invoke/MethodHandle" ∧ yL_addParagraph.cls ≠ "java/lang/invoke/VarHandle" ∧ (parseMethodDescriptor yL_addParagraph.desc).map (fun d => d.parameters.length) = some 5 := by decide +kernel
def p_L_addParagraph (uH : tX1) (uC : tX0) (uT : tX0) (uI : tX2) (uM : tX3) (fO : Nat → Int64) (a1 : Int32) (a2 : Int32) (a3 : Int32) : Option (Int32 × tX1 × (Nat → Int64)) := bC (p_X4_addParagraph uH uC uT uI uM a1 a2 a3) (fun v => some ((0 : Int32), v.2, vp_updL fO 0 v.1.toInt64)) (fun E => if E = xIOB then some ((1 : Int32), uH, fO) else if E = xIAE then some ((2 : Int32), uH, fO) else if E = xISE then some ((3 : Int32), uH, fO) else none)
set_option maxHeartbeats 4000000 in
set_option maxRecDepth 100000 in
theorem c_L_addParagraph (l : Launch) (hlt : l.stackTraces = false) (dC : Nat → ClassId) (dI : Nat → Nat → Nat) (cI cZ cJ : ClassId) (n0 h0 h3 h4 h5 h6 c0 c8 c9 c10 c11 c12 c13 t0 t8 t9 t10 t11 t12 t13 i0 i1 i2 i3 i4 m0 m1 m2 o0 : Nat) (sz : Nat) (sa : Nat → Nat) (uH : tX1) (uC : tX0) (uT : tX0) (uI : tX2) (uM : tX3) (fO : Nat → Int64) (a1 : Int32) (a2 : Int32) (a3 : Int32) {z : (Int32 × tX1 × (Nat → Int64))} (hok : p_L_addParagraph uH uC uT uI uM fO a1 a2 a3 = some z) : Met l yL_addParagraph (Cond.codeWith yL_addParagraph cL_addParagraph 6 (some .int) [(0, 12, 15, 19), (0, 12, 19, 13), (0, 12, 23, 21)] :: lw_all) { frames := 8, cells := 2, slots := 12, locals := 134 } (prH (dC, dI) vwCl (TYJ cI cZ cJ) (wN cI cZ n0 h0 h3 h4 h5 h6 c0 c8 c9 c10 c11 c12 c13 t0 t8 t9 t10 t11 t12 t13 i0 i1 i2 i3 i4 m0 m1 m2 uH uC uT uI uM ++ [(o0, .inl (cJ, 1, .inr (.inl fO)))]) sz sa [.ref n0, .int a1, .int a2, .int a3, .ref o0]) (va_Qi (fun (r : Int32) (_ : Unit) => r = z.1) (fun _ t => va_P (dC, dI) vwCl (wN cI cZ n0 h0 h3 h4 h5 h6 c0 c8 c9 c10 c11 c12 c13 t0 t8 t9 t10 t11 t12 t13 i0 i1 i2 i3 i4 m0 m1 m2 z.2.1 uC uT uI uM ++ [(o0, .inl (cJ, 1, .inr (.inl z.2.2)))]) t.heap) (va_A (wN cI cZ n0 h0 h3 h4 h5 h6 c0 c8 c9 c10 c11 c12 c13 t0 t8 t9 t10 t11 t12 t13 i0 i1 i2 i3 i4 m0 m1 m2 uH uC uT uI uM ++ [(o0, .inl (cJ, 1, .inr (.inl fO)))]) sz)) 2 12 (va_A (wN cI cZ n0 h0 h3 h4 h5 h6 c0 c8 c9 c10 c11 c12 c13 t0 t8 t9 t10 t11 t12 t13 i0 i1 i2 i3 i4 m0 m1 m2 uH uC uT uI uM ++ [(o0, .inl (cJ, 1, .inr (.inl fO)))]) sz) := by
  refine oH (by decide) (Nat.le_of_ble_eq_true rfl) ?_
  intro p e s m args below meth c S hr hlk hT hB ls hl
  have hx := S.1
  have hb := S.2.1
  have hown : s.vm.findClass RL = some m.cls := S.2.2.2.1
  have hts := S.2.2.2.2
  have S : CallFix p m c cL_addParagraph 6 s args lw_all RL := S
  have hl : lv_has ls 6 [(0, .ref n0), (1, .int a1), (2, .int a2), (3, .int a3), (4, .ref o0)] := hl
  obtain ⟨hsz, hP, hK, hD0, hX, hxn⟩ := hB
  subst hsz
  have hD := hD0.self (sz := s.heap.size)
  generalize hAe : va_A (wN cI cZ n0 h0 h3 h4 h5 h6 c0 c8 c9 c10 c11 c12 c13 t0 t8 t9 t10 t11 t12 t13 i0 i1 i2 i3 i4 m0 m1 m2 uH uC uT uI uM ++ [(o0, .inl (cJ, 1, .inr (.inl fO)))]) s.heap.size = A at hD hX ⊢
  have hA : ∀ q : Nat, s.heap.size ≤ q → A q := fun q h => by rw [← hAe]; exact Or.inr h
  have hS0 : va_S (fun _ => False) s.heap s.heap [] := va_S.rf
  have hS : va_S A s.heap s.heap [] := va_S.rf
  have hP : va_P (dC, dI) vwCl (wN cI cZ n0 h0 h3 h4 h5 h6 c0 c8 c9 c10 c11 c12 c13 t0 t8 t9 t10 t11 t12 t13 i0 i1 i2 i3 i4 m0 m1 m2 uH uC uT uI uM ++ [(o0, .inl (cJ, 1, .inr (.inl fO)))]) s.heap := hP
  unfold p_L_addParagraph at hok
  refine lv_aload hx hb dL_addParagraph_0 (lv_at hl 4 rfl) ?_
  refine lv_iconst (v := (0 : Int32)) hx hb dL_addParagraph_2 (by decide) ?_
  refine lv_aload_n hx hb dL_addParagraph_3 rfl (lv_at hl 0 rfl) ?_
  refine lv_iload_n hx hb dL_addParagraph_4 rfl (lv_at hl 1 rfl) ?_
  refine lv_iload_n hx hb dL_addParagraph_5 rfl (lv_at hl 2 rfl) ?_
  refine lv_iload_n hx hb dL_addParagraph_6 rfl (lv_at hl 3 rfl) ?_
  obtain ⟨y, hc1, hok⟩ := bC_some hok
  refine cXUi (ci := 4) (q0 := 0) [.int a1, .int a2, .int a3] S (hK.sub (tys' := TYS cI cZ) [0, 1] rfl) (cP_NO hP) (cD_NO hD) hS hA hX (c_X4_addParagraph l hlt dC dI cI cZ n0 h0 h3 h4 h5 h6 c0 c8 c9 c10 c11 c12 c13 t0 t8 t9 t10 t11 t12 t13 i0 i1 i2 i3 i4 m0 m1 m2 _ sa uH uC uT uI uM a1 a2 a3 hc1) (lw_V qm_L_15 qi_X4_addParagraph qs_X4_addParagraph qn_X4 qc_X4_addParagraph) hd_X4_addParagraph ⟨rfl, rfl⟩ ⟨Nat.le_of_ble_eq_true rfl, Nat.le_of_ble_eq_true rfl⟩ ⟨Nat.le_of_ble_eq_true rfl, Nat.le_of_ble_eq_true rfl⟩ rfl rfl rfl hl.1 (Nat.le_of_ble_eq_true rfl) rfl dL_addParagraph_7 (fun a H1 hk9 h9 => cJ_NO hP hD hk9 h9) (fun a => D_NO hD) (fun E ce q9 H1 locs1 hz hs1 hq1 hS1 hce hcv hcl => ?_) (fun v H locs hz hP hD hS => ?_)
  · have hPx := va_Pkept hP (fun q hq _ => hq1 q hq)
    rw [hz] at hok
    change (if E = xIOB then _ else _) = some z at hok
    by_cases hE : E = xIOB
    · have hok2 := Option.some.inj (ip hok hE)
      subst hE
      subst hok2
      refine vx_catch hown [] ⟨0, 12, 15, 19⟩ [⟨0, 12, 19, 13⟩, ⟨0, 12, 23, 21⟩] (hT.trans rfl) (fun z hz => absurd hz List.not_mem_nil) rfl (by decide) (hts _ qk_L_19) (va_Nw.use rfl hX.2.2.2.2.1) hce hcv hcl ?_
      refine lv_astore (lv' := [(5, .ref q9), (0, .ref n0), (1, .int a1), (2, .int a2), (3, .int a3), (4, .ref o0)]) hx hb dL_addParagraph_15 hl (by decide) rfl (fun ls hl => ?_)
      refine lv_iconst (v := (1 : Int32)) hx hb dL_addParagraph_17 (by decide) ?_
      exact eWi S hr hlk rfl hPx hS1 (Nat.le_of_ble_eq_true rfl) (Nat.le_of_ble_eq_true rfl) dL_addParagraph_18
    · have hok := iq hok hE
      by_cases hE : E = xIAE
      · have hok2 := Option.some.inj (ip hok hE)
        subst hE
        subst hok2
        refine vx_catch hown [⟨0, 12, 15, 19⟩] ⟨0, 12, 19, 13⟩ [⟨0, 12, 23, 21⟩] (hT.trans rfl) (List.forall_mem_cons.mpr ⟨Or.inr ⟨by decide, _, hts _ qk_L_19, hxn.1⟩, fun z hz => absurd hz List.not_mem_nil⟩) rfl (by decide) (hts _ qk_L_13) (va_Nw.use rfl hX.2.2.1) hce hcv hcl ?_
        refine lv_astore (lv' := [(5, .ref q9), (0, .ref n0), (1, .int a1), (2, .int a2), (3, .int a3), (4, .ref o0)]) hx hb dL_addParagraph_19 hl (by decide) rfl (fun ls hl => ?_)
        refine lv_iconst (v := (2 : Int32)) hx hb dL_addParagraph_21 (by decide) ?_
        exact eWi S hr hlk rfl hPx hS1 (Nat.le_of_ble_eq_true rfl) (Nat.le_of_ble_eq_true rfl) dL_addParagraph_22
      · have hok := iq hok hE
        by_cases hE : E = xISE
        · have hok2 := Option.some.inj (ip hok hE)
          subst hE
          subst hok2
          refine vx_catch hown [⟨0, 12, 15, 19⟩, ⟨0, 12, 19, 13⟩] ⟨0, 12, 23, 21⟩ [] (hT.trans rfl) (List.forall_mem_cons.mpr ⟨Or.inr ⟨by decide, _, hts _ qk_L_19, hxn.2.1⟩, List.forall_mem_cons.mpr ⟨Or.inr ⟨by decide, _, hts _ qk_L_13, hxn.2.2⟩, fun z hz => absurd hz List.not_mem_nil⟩⟩) rfl (by decide) (hts _ qk_L_21) (va_Nw.use rfl hX.2.2.2.1) hce hcv hcl ?_
          refine lv_astore (lv' := [(5, .ref q9), (0, .ref n0), (1, .int a1), (2, .int a2), (3, .int a3), (4, .ref o0)]) hx hb dL_addParagraph_23 hl (by decide) rfl (fun ls hl => ?_)
          refine lv_iconst (v := (3 : Int32)) hx hb dL_addParagraph_25 (by decide) ?_
          exact eWi S hr hlk rfl hPx hS1 (Nat.le_of_ble_eq_true rfl) (Nat.le_of_ble_eq_true rfl) dL_addParagraph_26
        · have hok := iq hok hE
          cases hok
  · rw [hz] at hok
    change some ((0 : Int32), v.2, vp_updL fO 0 v.1.toInt64) = some z at hok
    refine lv_i2l (v := v.1.toInt64) hx hb dL_addParagraph_10 rfl ?_
    refine va_lastK hx hb hK hP hD hS 28 2 rfl rfl (j := 0) (by decide) (vp_inK (by decide)) dL_addParagraph_11 (fun H locs hP _ hS => ?_)
    have hP : va_P (dC, dI) vwCl (wN cI cZ n0 h0 h3 h4 h5 h6 c0 c8 c9 c10 c11 c12 c13 t0 t8 t9 t10 t11 t12 t13 i0 i1 i2 i3 i4 m0 m1 m2 v.2 uC uT uI uM ++ [(o0, .inl (cJ, 1, .inr (.inl (vp_updL fO 0 v.1.toInt64))))]) H := hP
    refine lv_goto (tgt := 27) hx hb dL_addParagraph_12 (by decide) ?_
    refine lv_iconst (v := (0 : Int32)) hx hb dL_addParagraph_27 (by decide) ?_
    have hok := Option.some.inj hok
    subst hok
    exact eWi S hr hlk rfl hP hS (Nat.le_of_ble_eq_true rfl) (Nat.le_of_ble_eq_true rfl) dL_addParagraph_28
theorem hd_L_turnTopic : yL_turnTopic.cls ≠ "java/lang/invoke/MethodHandle" ∧ yL_turnTopic.cls ≠ "java/lang/invoke/VarHandle" ∧ (parseMethodDescriptor yL_turnTopic.desc).map (fun d => d.parameters.length) = some 3 := by decide +kernel
def p_L_turnTopic (uH : tX1) (uC : tX0) (uT : tX0) (uI : tX2) (uM : tX3) (fO : Nat → Int64) (a1 : Int32) : Option (Int32 × tX0 × (Nat → Int64)) := bC (p_X4_turnTopic uH uC uT uI uM a1) (fun v => if v.1 = 0 then some ((0 : Int32), v.2, vp_updL fO 0 (0 : Int64)) else some ((0 : Int32), v.2, vp_updL fO 0 (1 : Int64))) (fun E => if E = xIOB then some ((1 : Int32), uC, fO) else none)
set_option maxHeartbeats 4000000 in
set_option maxRecDepth 100000 in
theorem c_L_turnTopic (l : Launch) (hlt : l.stackTraces = false) (dC : Nat → ClassId) (dI : Nat → Nat → Nat) (cI cZ cJ : ClassId) (n0 h0 h3 h4 h5 h6 c0 c8 c9 c10 c11 c12 c13 t0 t8 t9 t10 t11 t12 t13 i0 i1 i2 i3 i4 m0 m1 m2 o0 : Nat) (sz : Nat) (sa : Nat → Nat) (uH : tX1) (uC : tX0) (uT : tX0) (uI : tX2) (uM : tX3) (fO : Nat → Int64) (a1 : Int32) {z : (Int32 × tX0 × (Nat → Int64))} (hok : p_L_turnTopic uH uC uT uI uM fO a1 = some z) : Met l yL_turnTopic (Cond.codeWith yL_turnTopic cL_turnTopic 4 (some .int) [(0, 16, 19, 19)] :: lw_all) { frames := 8, cells := 1, slots := 6, locals := 131 } (prH (dC, dI) vwCl (TYJ cI cZ cJ) (wN cI cZ n0 h0 h3 h4 h5 h6 c0 c8 c9 c10 c11 c12 c13 t0 t8 t9 t10 t11 t12 t13 i0 i1 i2 i3 i4 m0 m1 m2 uH uC uT uI uM ++ [(o0, .inl (cJ, 1, .inr (.inl fO)))]) sz sa [.ref n0, .int a1, .ref o0]) (va_Qi (fun (r : Int32) (_ : Unit) => r = z.1) (fun _ t => va_P (dC, dI) vwCl (wN cI cZ n0 h0 h3 h4 h5 h6 c0 c8 c9 c10 c11 c12 c13 t0 t8 t9 t10 t11 t12 t13 i0 i1 i2 i3 i4 m0 m1 m2 uH z.2.1 uT uI uM ++ [(o0, .inl (cJ, 1, .inr (.inl z.2.2)))]) t.heap) (va_A (wN cI cZ n0 h0 h3 h4 h5 h6 c0 c8 c9 c10 c11 c12 c13 t0 t8 t9 t10 t11 t12 t13 i0 i1 i2 i3 i4 m0 m1 m2 uH uC uT uI uM ++ [(o0, .inl (cJ, 1, .inr (.inl fO)))]) sz)) 1 6 (va_A (wN cI cZ n0 h0 h3 h4 h5 h6 c0 c8 c9 c10 c11 c12 c13 t0 t8 t9 t10 t11 t12 t13 i0 i1 i2 i3 i4 m0 m1 m2 uH uC uT uI uM ++ [(o0, .inl (cJ, 1, .inr (.inl fO)))]) sz) := by
  refine oH (by decide) (Nat.le_of_ble_eq_true rfl) ?_
  intro p e s m args below meth c S hr hlk hT hB ls hl
  have hx := S.1
  have hb := S.2.1
  have hown : s.vm.findClass RL = some m.cls := S.2.2.2.1
  have hts := S.2.2.2.2
  have S : CallFix p m c cL_turnTopic 4 s args lw_all RL := S
  have hl : lv_has ls 4 [(0, .ref n0), (1, .int a1), (2, .ref o0)] := hl
  obtain ⟨hsz, hP, hK, hD0, hX, hxn⟩ := hB
  subst hsz
  have hD := hD0.self (sz := s.heap.size)
  generalize hAe : va_A (wN cI cZ n0 h0 h3 h4 h5 h6 c0 c8 c9 c10 c11 c12 c13 t0 t8 t9 t10 t11 t12 t13 i0 i1 i2 i3 i4 m0 m1 m2 uH uC uT uI uM ++ [(o0, .inl (cJ, 1, .inr (.inl fO)))]) s.heap.size = A at hD hX ⊢
  have hA : ∀ q : Nat, s.heap.size ≤ q → A q := fun q h => by rw [← hAe]; exact Or.inr h
  have hS0 : va_S (fun _ => False) s.heap s.heap [] := va_S.rf
  have hS : va_S A s.heap s.heap [] := va_S.rf
  have hP : va_P (dC, dI) vwCl (wN cI cZ n0 h0 h3 h4 h5 h6 c0 c8 c9 c10 c11 c12 c13 t0 t8 t9 t10 t11 t12 t13 i0 i1 i2 i3 i4 m0 m1 m2 uH uC uT uI uM ++ [(o0, .inl (cJ, 1, .inr (.inl fO)))]) s.heap := hP
  unfold p_L_turnTopic at hok
  refine lv_aload_n hx hb dL_turnTopic_0 rfl (lv_at hl 2 rfl) ?_
  refine lv_iconst (v := (0 : Int32)) hx hb dL_turnTopic_1 (by decide) ?_
  refine lv_aload_n hx hb dL_turnTopic_2 rfl (lv_at hl 0 rfl) ?_
  refine lv_iload_n hx hb dL_turnTopic_3 rfl (lv_at hl 1 rfl) ?_
  obtain ⟨y, hc1, hok⟩ := bC_some hok
  refine cXUi (ci := 4) (q0 := 0) [.int a1] S (hK.sub (tys' := TYS cI cZ) [0, 1] rfl) (cP_NO hP) (cD_NO hD) hS hA hX (c_X4_turnTopic l hlt dC dI cI cZ n0 h0 h3 h4 h5 h6 c0 c8 c9 c10 c11 c12 c13 t0 t8 t9 t10 t11 t12 t13 i0 i1 i2 i3 i4 m0 m1 m2 _ sa uH uC uT uI uM a1 hc1) (lw_V qm_L_23 qi_X4_turnTopic qs_X4_turnTopic qn_X4 qc_X4_turnTopic) hd_X4_turnTopic ⟨rfl, rfl⟩ ⟨Nat.le_of_ble_eq_true rfl, Nat.le_of_ble_eq_true rfl⟩ ⟨Nat.le_of_ble_eq_true rfl, Nat.le_of_ble_eq_true rfl⟩ rfl rfl rfl hl.1 (Nat.le_of_ble_eq_true rfl) rfl dL_turnTopic_4 (fun a H1 hk9 h9 => cJ_NO hP hD hk9 h9) (fun a => D_NO hD) (fun E ce q9 H1 locs1 hz hs1 hq1 hS1 hce hcv hcl => ?_) (fun v H locs hz hP hD hS => ?_)
  · have hPx := va_Pkept hP (fun q hq _ => hq1 q hq)
    rw [hz] at hok
    change (if E = xIOB then _ else _) = some z at hok
    by_cases hE : E = xIOB
    · have hok2 := Option.some.inj (ip hok hE)
      subst hE
      subst hok2
      refine vx_catch hown [] ⟨0, 16, 19, 19⟩ [] (hT.trans rfl) (fun z hz => absurd hz List.not_mem_nil) rfl (by decide) (hts _ qk_L_19) (va_Nw.use rfl hX.2.2.2.2.1) hce hcv hcl ?_
      refine lv_astore_n (lv' := [(3, .ref q9), (0, .ref n0), (1, .int a1), (2, .ref o0)]) hx hb dL_turnTopic_19 rfl hl (by decide) rfl (fun ls hl => ?_)
      refine lv_iconst (v := (1 : Int32)) hx hb dL_turnTopic_20 (by decide) ?_
      exact eWi S hr hlk rfl hPx hS1 (Nat.le_of_ble_eq_true rfl) (Nat.le_of_ble_eq_true rfl) dL_turnTopic_21
    · have hok := iq hok hE
      cases hok
  · rw [hz] at hok
    change (if v.1 = 0 then _ else _) = some z at hok
    refine lv_if_eq (tgt := 14) hx hb dL_turnTopic_7 (by decide) (fun hc => ?_) (fun hc => ?_)
    · have hok := ip hok hc
      refine lv_lconst (v := (0 : Int64)) hx hb dL_turnTopic_14 (by decide) ?_
      refine va_lastK hx hb hK hP hD hS 28 2 rfl rfl (j := 0) (by decide) (vp_inK (by decide)) dL_turnTopic_15 (fun H locs hP _ hS => ?_)
      have hP : va_P (dC, dI) vwCl (wN cI cZ n0 h0 h3 h4 h5 h6 c0 c8 c9 c10 c11 c12 c13 t0 t8 t9 t10 t11 t12 t13 i0 i1 i2 i3 i4 m0 m1 m2 uH v.2 uT uI uM ++ [(o0, .inl (cJ, 1, .inr (.inl (vp_updL fO 0 (0 : Int64)))))]) H := hP
      refine lv_goto (tgt := 22) hx hb dL_turnTopic_16 (by decide) ?_
      refine lv_iconst (v := (0 : Int32)) hx hb dL_turnTopic_22 (by decide) ?_
      have hok := Option.some.inj hok
      subst hok
      exact eWi S hr hlk rfl hP hS (Nat.le_of_ble_eq_true rfl) (Nat.le_of_ble_eq_true rfl) dL_turnTopic_23
    · have hok := iq hok hc
      refine lv_lconst (v := (1 : Int64)) hx hb dL_turnTopic_10 (by decide) ?_
      refine lv_goto (tgt := 15) hx hb dL_turnTopic_11 (by decide) ?_
      refine va_lastK hx hb hK hP hD hS 28 2 rfl rfl (j := 0) (by decide) (vp_inK (by decide)) dL_turnTopic_15 (fun H locs hP _ hS => ?_)
      have hP : va_P (dC, dI) vwCl (wN cI cZ n0 h0 h3 h4 h5 h6 c0 c8 c9 c10 c11 c12 c13 t0 t8 t9 t10 t11 t12 t13 i0 i1 i2 i3 i4 m0 m1 m2 uH v.2 uT uI uM ++ [(o0, .inl (cJ, 1, .inr (.inl (vp_updL fO 0 (1 : Int64)))))]) H := hP
      refine lv_goto (tgt := 22) hx hb dL_turnTopic_16 (by decide) ?_
      refine lv_iconst (v := (0 : Int32)) hx hb dL_turnTopic_22 (by decide) ?_
      have hok := Option.some.inj hok
      subst hok
      exact eWi S hr hlk rfl hP hS (Nat.le_of_ble_eq_true rfl) (Nat.le_of_ble_eq_true rfl) dL_turnTopic_23
theorem hd_L_setLimit : yL_setLimit.cls ≠ "java/lang/invoke/MethodHandle" ∧ yL_setLimit.cls ≠ "java/lang/invoke/VarHandle" ∧ (parseMethodDescriptor yL_setLimit.desc).map (fun d => d.parameters.length) = some 3 := by decide +kernel
def p_L_setLimit (uH : tX1) (uC : tX0) (uT : tX0) (uI : tX2) (uM : tX3) (fO : Nat → Int64) (a1 : Int32) : Option (Int32 × tX1 × (Nat → Int64)) := bC (p_X4_setLimit uH uC uT uI uM a1) (fun v => some ((0 : Int32), v.2, vp_updL fO 0 v.1.toInt64)) (fun E => if E = xIAE then some ((1 : Int32), uH, fO) else none)
set_option maxHeartbeats 4000000 in
set_option maxRecDepth 100000 in
theorem c_L_setLimit (l : Launch) (hlt : l.stackTraces = false) (dC : Nat → ClassId) (dI : Nat → Nat → Nat) (cI cZ cJ : ClassId) (n0 h0 h3 h4 h5 h6 c0 c8 c9 c10 c11 c12 c13 t0 t8 t9 t10 t11 t12 t13 i0 i1 i2 i3 i4 m0 m1 m2 o0 : Nat) (sz : Nat) (sa : Nat → Nat) (uH : tX1) (uC : tX0) (uT : tX0) (uI : tX2) (uM : tX3) (fO : Nat → Int64) (a1 : Int32) {z : (Int32 × tX1 × (Nat → Int64))} (hok : p_L_setLimit uH uC uT uI uM fO a1 = some z) : Met l yL_setLimit (Cond.codeWith yL_setLimit cL_setLimit 4 (some .int) [(0, 9, 12, 13)] :: lw_all) { frames := 7, cells := 1, slots := 6, locals := 112 } (prH (dC, dI) vwCl (TYJ cI cZ cJ) (wN cI cZ n0 h0 h3 h4 h5 h6 c0 c8 c9 c10 c11 c12 c13 t0 t8 t9 t10 t11 t12 t13 i0 i1 i2 i3 i4 m0 m1 m2 uH uC uT uI uM ++ [(o0, .inl (cJ, 1, .inr (.inl fO)))]) sz sa [.ref n0, .int a1, .ref o0]) (va_Qi (fun (r : Int32) (_ : Unit) => r = z.1) (fun _ t => va_P (dC, dI) vwCl (wN cI cZ n0 h0 h3 h4 h5 h6 c0 c8 c9 c10 c11 c12 c13 t0 t8 t9 t10 t11 t12 t13 i0 i1 i2 i3 i4 m0 m1 m2 z.2.1 uC uT uI uM ++ [(o0, .inl (cJ, 1, .inr (.inl z.2.2)))]) t.heap) (va_A (wN cI cZ n0 h0 h3 h4 h5 h6 c0 c8 c9 c10 c11 c12 c13 t0 t8 t9 t10 t11 t12 t13 i0 i1 i2 i3 i4 m0 m1 m2 uH uC uT uI uM ++ [(o0, .inl (cJ, 1, .inr (.inl fO)))]) sz)) 1 6 (va_A (wN cI cZ n0 h0 h3 h4 h5 h6 c0 c8 c9 c10 c11 c12 c13 t0 t8 t9 t10 t11 t12 t13 i0 i1 i2 i3 i4 m0 m1 m2 uH uC uT uI uM ++ [(o0, .inl (cJ, 1, .inr (.inl fO)))]) sz) := by
  refine oH (by decide) (Nat.le_of_ble_eq_true rfl) ?_
  intro p e s m args below meth c S hr hlk hT hB ls hl
  have hx := S.1
  have hb := S.2.1
  have hown : s.vm.findClass RL = some m.cls := S.2.2.2.1
  have hts := S.2.2.2.2
  have S : CallFix p m c cL_setLimit 4 s args lw_all RL := S
  have hl : lv_has ls 4 [(0, .ref n0), (1, .int a1), (2, .ref o0)] := hl
  obtain ⟨hsz, hP, hK, hD0, hX, hxn⟩ := hB
  subst hsz
  have hD := hD0.self (sz := s.heap.size)
  generalize hAe : va_A (wN cI cZ n0 h0 h3 h4 h5 h6 c0 c8 c9 c10 c11 c12 c13 t0 t8 t9 t10 t11 t12 t13 i0 i1 i2 i3 i4 m0 m1 m2 uH uC uT uI uM ++ [(o0, .inl (cJ, 1, .inr (.inl fO)))]) s.heap.size = A at hD hX ⊢
  have hA : ∀ q : Nat, s.heap.size ≤ q → A q := fun q h => by rw [← hAe]; exact Or.inr h
  have hS0 : va_S (fun _ => False) s.heap s.heap [] := va_S.rf
  have hS : va_S A s.heap s.heap [] := va_S.rf
  have hP : va_P (dC, dI) vwCl (wN cI cZ n0 h0 h3 h4 h5 h6 c0 c8 c9 c10 c11 c12 c13 t0 t8 t9 t10 t11 t12 t13 i0 i1 i2 i3 i4 m0 m1 m2 uH uC uT uI uM ++ [(o0, .inl (cJ, 1, .inr (.inl fO)))]) s.heap := hP
  unfold p_L_setLimit at hok
  refine lv_aload_n hx hb dL_setLimit_0 rfl (lv_at hl 2 rfl) ?_
  refine lv_iconst (v := (0 : Int32)) hx hb dL_setLimit_1 (by decide) ?_
  refine lv_aload_n hx hb dL_setLimit_2 rfl (lv_at hl 0 rfl) ?_
  refine lv_iload_n hx hb dL_setLimit_3 rfl (lv_at hl 1 rfl) ?_
  obtain ⟨y, hc1, hok⟩ := bC_some hok
  refine cXUi (ci := 4) (q0 := 0) [.int a1] S (hK.sub (tys' := TYS cI cZ) [0, 1] rfl) (cP_NO hP) (cD_NO hD) hS hA hX (c_X4_setLimit l hlt dC dI cI cZ n0 h0 h3 h4 h5 h6 c0 c8 c9 c10 c11 c12 c13 t0 t8 t9 t10 t11 t12 t13 i0 i1 i2 i3 i4 m0 m1 m2 _ sa uH uC uT uI uM a1 hc1) (lw_V qm_L_27 qi_X4_setLimit qs_X4_setLimit qn_X4 qc_X4_setLimit) hd_X4_setLimit ⟨rfl, rfl⟩ ⟨Nat.le_of_ble_eq_true rfl, Nat.le_of_ble_eq_true rfl⟩ ⟨Nat.le_of_ble_eq_true rfl, Nat.le_of_ble_eq_true rfl⟩ rfl rfl rfl hl.1 (Nat.le_of_ble_eq_true rfl) rfl dL_setLimit_4 (fun a H1 hk9 h9 => cJ_NO hP hD hk9 h9) (fun a => D_NO hD) (fun E ce q9 H1 locs1 hz hs1 hq1 hS1 hce hcv hcl => ?_) (fun v H locs hz hP hD hS => ?_)
  · have hPx := va_Pkept hP (fun q hq _ => hq1 q hq)
    rw [hz] at hok
    change (if E = xIAE then _ else _) = some z at hok
    by_cases hE : E = xIAE
    · have hok2 := Option.some.inj (ip hok hE)
      subst hE
      subst hok2
      refine vx_catch hown [] ⟨0, 9, 12, 13⟩ [] (hT.trans rfl) (fun z hz => absurd hz List.not_mem_nil) rfl (by decide) (hts _ qk_L_13) (va_Nw.use rfl hX.2.2.1) hce hcv hcl ?_
      refine lv_astore_n (lv' := [(3, .ref q9), (0, .ref n0), (1, .int a1), (2, .ref o0)]) hx hb dL_setLimit_12 rfl hl (by decide) rfl (fun ls hl => ?_)
      refine lv_iconst (v := (1 : Int32)) hx hb dL_setLimit_13 (by decide) ?_
      exact eWi S hr hlk rfl hPx hS1 (Nat.le_of_ble_eq_true rfl) (Nat.le_of_ble_eq_true rfl) dL_setLimit_14
    · have hok := iq hok hE
      cases hok
  · rw [hz] at hok
    change some ((0 : Int32), v.2, vp_updL fO 0 v.1.toInt64) = some z at hok
    refine lv_i2l (v := v.1.toInt64) hx hb dL_setLimit_7 rfl ?_
    refine va_lastK hx hb hK hP hD hS 28 2 rfl rfl (j := 0) (by decide) (vp_inK (by decide)) dL_setLimit_8 (fun H locs hP _ hS => ?_)
    have hP : va_P (dC, dI) vwCl (wN cI cZ n0 h0 h3 h4 h5 h6 c0 c8 c9 c10 c11 c12 c13 t0 t8 t9 t10 t11 t12 t13 i0 i1 i2 i3 i4 m0 m1 m2 v.2 uC uT uI uM ++ [(o0, .inl (cJ, 1, .inr (.inl (vp_updL fO 0 v.1.toInt64))))]) H := hP
    refine lv_goto (tgt := 15) hx hb dL_setLimit_9 (by decide) ?_
    refine lv_iconst (v := (0 : Int32)) hx hb dL_setLimit_15 (by decide) ?_
    have hok := Option.some.inj hok
    subst hok
    exact eWi S hr hlk rfl hP hS (Nat.le_of_ble_eq_true rfl) (Nat.le_of_ble_eq_true rfl) dL_setLimit_16
theorem hd_L_addReader : yL_addReader.cls ≠ "java/lang/invoke/MethodHandle" ∧ yL_addReader.cls ≠ "java/lang/invoke/VarHandle" ∧ (parseMethodDescriptor yL_addReader.desc).map (fun d => d.parameters.length) = some 4 := by decide +kernel
def p_L_addReader (uH : tX1) (uC : tX0) (uT : tX0) (uI : tX2) (uM : tX3) (fO : Nat → Int64) (a1 : Int32) (a2 : Int32) : Option (Int32 × tX1 × tX0 × (Nat → Int64)) := bC (p_X4_addReader uH uC uT uI uM a1 a2) (fun v => some ((0 : Int32), v.2.1, v.2.2, vp_updL fO 0 v.1.toInt64)) (fun E => if E = xIAE then some ((1 : Int32), uH, uC, fO) else if E = xISE then some ((2 : Int32), uH, uC, fO) else none)
set_option maxHeartbeats 4000000 in
set_option maxRecDepth 100000 in
theorem c_L_addReader (l : Launch) (hlt : l.stackTraces = false) (dC : Nat → ClassId) (dI : Nat → Nat → Nat) (cI cZ cJ : ClassId) (n0 h0 h3 h4 h5 h6 c0 c8 c9 c10 c11 c12 c13 t0 t8 t9 t10 t11 t12 t13 i0 i1 i2 i3 i4 m0 m1 m2 o0 : Nat) (sz : Nat) (sa : Nat → Nat) (uH : tX1) (uC : tX0) (uT : tX0) (uI : tX2) (uM : tX3) (fO : Nat → Int64) (a1 : Int32) (a2 : Int32) {z : (Int32 × tX1 × tX0 × (Nat → Int64))} (hok : p_L_addReader uH uC uT uI uM fO a1 a2 = some z) : Met l yL_addReader (Cond.codeWith yL_addReader cL_addReader 5 (some .int) [(0, 10, 13, 13), (0, 10, 17, 21)] :: lw_all) { frames := 7, cells := 1, slots := 6, locals := 113 } (prH (dC, dI) vwCl (TYJ cI cZ cJ) (wN cI cZ n0 h0 h3 h4 h5 h6 c0 c8 c9 c10 c11 c12 c13 t0 t8 t9 t10 t11 t12 t13 i0 i1 i2 i3 i4 m0 m1 m2 uH uC uT uI uM ++ [(o0, .inl (cJ, 1, .inr (.inl fO)))]) sz sa [.ref n0, .int a1, .int a2, .ref o0]) (va_Qi (fun (r : Int32) (_ : Unit) => r = z.1) (fun _ t => va_P (dC, dI) vwCl (wN cI cZ n0 h0 h3 h4 h5 h6 c0 c8 c9 c10 c11 c12 c13 t0 t8 t9 t10 t11 t12 t13 i0 i1 i2 i3 i4 m0 m1 m2 z.2.1 z.2.2.1 uT uI uM ++ [(o0, .inl (cJ, 1, .inr (.inl z.2.2.2)))]) t.heap) (va_A (wN cI cZ n0 h0 h3 h4 h5 h6 c0 c8 c9 c10 c11 c12 c13 t0 t8 t9 t10 t11 t12 t13 i0 i1 i2 i3 i4 m0 m1 m2 uH uC uT uI uM ++ [(o0, .inl (cJ, 1, .inr (.inl fO)))]) sz)) 1 6 (va_A (wN cI cZ n0 h0 h3 h4 h5 h6 c0 c8 c9 c10 c11 c12 c13 t0 t8 t9 t10 t11 t12 t13 i0 i1 i2 i3 i4 m0 m1 m2 uH uC uT uI uM ++ [(o0, .inl (cJ, 1, .inr (.inl fO)))]) sz) := by
  refine oH (by decide) (Nat.le_of_ble_eq_true rfl) ?_
  intro p e s m args below meth c S hr hlk hT hB ls hl
  have hx := S.1
  have hb := S.2.1
  have hown : s.vm.findClass RL = some m.cls := S.2.2.2.1
  have hts := S.2.2.2.2
  have S : CallFix p m c cL_addReader 5 s args lw_all RL := S
  have hl : lv_has ls 5 [(0, .ref n0), (1, .int a1), (2, .int a2), (3, .ref o0)] := hl
  obtain ⟨hsz, hP, hK, hD0, hX, hxn⟩ := hB
  subst hsz
  have hD := hD0.self (sz := s.heap.size)
  generalize hAe : va_A (wN cI cZ n0 h0 h3 h4 h5 h6 c0 c8 c9 c10 c11 c12 c13 t0 t8 t9 t10 t11 t12 t13 i0 i1 i2 i3 i4 m0 m1 m2 uH uC uT uI uM ++ [(o0, .inl (cJ, 1, .inr (.inl fO)))]) s.heap.size = A at hD hX ⊢
  have hA : ∀ q : Nat, s.heap.size ≤ q → A q := fun q h => by rw [← hAe]; exact Or.inr h
  have hS0 : va_S (fun _ => False) s.heap s.heap [] := va_S.rf
  have hS : va_S A s.heap s.heap [] := va_S.rf
  have hP : va_P (dC, dI) vwCl (wN cI cZ n0 h0 h3 h4 h5 h6 c0 c8 c9 c10 c11 c12 c13 t0 t8 t9 t10 t11 t12 t13 i0 i1 i2 i3 i4 m0 m1 m2 uH uC uT uI uM ++ [(o0, .inl (cJ, 1, .inr (.inl fO)))]) s.heap := hP
  unfold p_L_addReader at hok
  refine lv_aload_n hx hb dL_addReader_0 rfl (lv_at hl 3 rfl) ?_
  refine lv_iconst (v := (0 : Int32)) hx hb dL_addReader_1 (by decide) ?_
  refine lv_aload_n hx hb dL_addReader_2 rfl (lv_at hl 0 rfl) ?_
  refine lv_iload_n hx hb dL_addReader_3 rfl (lv_at hl 1 rfl) ?_
  refine lv_iload_n hx hb dL_addReader_4 rfl (lv_at hl 2 rfl) ?_
  obtain ⟨y, hc1, hok⟩ := bC_some hok
  refine cXUi (ci := 4) (q0 := 0) [.int a1, .int a2] S (hK.sub (tys' := TYS cI cZ) [0, 1] rfl) (cP_NO hP) (cD_NO hD) hS hA hX (c_X4_addReader l hlt dC dI cI cZ n0 h0 h3 h4 h5 h6 c0 c8 c9 c10 c11 c12 c13 t0 t8 t9 t10 t11 t12 t13 i0 i1 i2 i3 i4 m0 m1 m2 _ sa uH uC uT uI uM a1 a2 hc1) (lw_V qm_L_30 qi_X4_addReader qs_X4_addReader qn_X4 qc_X4_addReader) hd_X4_addReader ⟨rfl, rfl⟩ ⟨Nat.le_of_ble_eq_true rfl, Nat.le_of_ble_eq_true rfl⟩ ⟨Nat.le_of_ble_eq_true rfl, Nat.le_of_ble_eq_true rfl⟩ rfl rfl rfl hl.1 (Nat.le_of_ble_eq_true rfl) rfl dL_addReader_5 (fun a H1 hk9 h9 => cJ_NO hP hD hk9 h9) (fun a => D_NO hD) (fun E ce q9 H1 locs1 hz hs1 hq1 hS1 hce hcv hcl => ?_) (fun v H locs hz hP hD hS => ?_)
  · have hPx := va_Pkept hP (fun q hq _ => hq1 q hq)
    rw [hz] at hok
    change (if E = xIAE then _ else _) = some z at hok
    by_cases hE : E = xIAE
    · have hok2 := Option.some.inj (ip hok hE)
      subst hE
      subst hok2
      refine vx_catch hown [] ⟨0, 10, 13, 13⟩ [⟨0, 10, 17, 21⟩] (hT.trans rfl) (fun z hz => absurd hz List.not_mem_nil) rfl (by decide) (hts _ qk_L_13) (va_Nw.use rfl hX.2.2.1) hce hcv hcl ?_
      refine lv_astore (lv' := [(4, .ref q9), (0, .ref n0), (1, .int a1), (2, .int a2), (3, .ref o0)]) hx hb dL_addReader_13 hl (by decide) rfl (fun ls hl => ?_)
      refine lv_iconst (v := (1 : Int32)) hx hb dL_addReader_15 (by decide) ?_
      exact eWi S hr hlk rfl hPx hS1 (Nat.le_of_ble_eq_true rfl) (Nat.le_of_ble_eq_true rfl) dL_addReader_16
    · have hok := iq hok hE
      by_cases hE : E = xISE
      · have hok2 := Option.some.inj (ip hok hE)
        subst hE
        subst hok2
        refine vx_catch hown [⟨0, 10, 13, 13⟩] ⟨0, 10, 17, 21⟩ [] (hT.trans rfl) (List.forall_mem_cons.mpr ⟨Or.inr ⟨by decide, _, hts _ qk_L_13, hxn.2.2⟩, fun z hz => absurd hz List.not_mem_nil⟩) rfl (by decide) (hts _ qk_L_21) (va_Nw.use rfl hX.2.2.2.1) hce hcv hcl ?_
        refine lv_astore (lv' := [(4, .ref q9), (0, .ref n0), (1, .int a1), (2, .int a2), (3, .ref o0)]) hx hb dL_addReader_17 hl (by decide) rfl (fun ls hl => ?_)
        refine lv_iconst (v := (2 : Int32)) hx hb dL_addReader_19 (by decide) ?_
        exact eWi S hr hlk rfl hPx hS1 (Nat.le_of_ble_eq_true rfl) (Nat.le_of_ble_eq_true rfl) dL_addReader_20
      · have hok := iq hok hE
        cases hok
  · rw [hz] at hok
    change some ((0 : Int32), v.2.1, v.2.2, vp_updL fO 0 v.1.toInt64) = some z at hok
    refine lv_i2l (v := v.1.toInt64) hx hb dL_addReader_8 rfl ?_
    refine va_lastK hx hb hK hP hD hS 28 2 rfl rfl (j := 0) (by decide) (vp_inK (by decide)) dL_addReader_9 (fun H locs hP _ hS => ?_)
    have hP : va_P (dC, dI) vwCl (wN cI cZ n0 h0 h3 h4 h5 h6 c0 c8 c9 c10 c11 c12 c13 t0 t8 t9 t10 t11 t12 t13 i0 i1 i2 i3 i4 m0 m1 m2 v.2.1 v.2.2 uT uI uM ++ [(o0, .inl (cJ, 1, .inr (.inl (vp_updL fO 0 v.1.toInt64))))]) H := hP
    refine lv_goto (tgt := 21) hx hb dL_addReader_10 (by decide) ?_
    refine lv_iconst (v := (0 : Int32)) hx hb dL_addReader_21 (by decide) ?_
    have hok := Option.some.inj hok
    subst hok
    exact eWi S hr hlk rfl hP hS (Nat.le_of_ble_eq_true rfl) (Nat.le_of_ble_eq_true rfl) dL_addReader_22
theorem hd_L_addMirror : yL_addMirror.cls ≠ "java/lang/invoke/MethodHandle" ∧ yL_addMirror.cls ≠ "java/lang/invoke/VarHandle" ∧ (parseMethodDescriptor yL_addMirror.desc).map (fun d => d.parameters.length) = some 4 := by decide +kernel
def p_L_addMirror (uH : tX1) (uC : tX0) (uT : tX0) (uI : tX2) (uM : tX3) (fO : Nat → Int64) (a1 : Int32) (a2 : Int32) : Option (Int32 × tX3 × (Nat → Int64)) := bC (p_X4_addMirror uH uC uT uI uM a1 a2) (fun v => some ((0 : Int32), v.2, vp_updL fO 0 v.1.toInt64)) (fun E => if E = xIAE then some ((1 : Int32), uM, fO) else if E = xISE then some ((2 : Int32), uM, fO) else none)
set_option maxHeartbeats 4000000 in
set_option maxRecDepth 100000 in
theorem c_L_addMirror (l : Launch) (hlt : l.stackTraces = false) (dC : Nat → ClassId) (dI : Nat → Nat → Nat) (cI cZ cJ : ClassId) (n0 h0 h3 h4 h5 h6 c0 c8 c9 c10 c11 c12 c13 t0 t8 t9 t10 t11 t12 t13 i0 i1 i2 i3 i4 m0 m1 m2 o0 : Nat) (sz : Nat) (sa : Nat → Nat) (uH : tX1) (uC : tX0) (uT : tX0) (uI : tX2) (uM : tX3) (fO : Nat → Int64) (a1 : Int32) (a2 : Int32) {z : (Int32 × tX3 × (Nat → Int64))} (hok : p_L_addMirror uH uC uT uI uM fO a1 a2 = some z) : Met l yL_addMirror (Cond.codeWith yL_addMirror cL_addMirror 5 (some .int) [(0, 10, 13, 13), (0, 10, 17, 21)] :: lw_all) { frames := 7, cells := 1, slots := 6, locals := 112 } (prH (dC, dI) vwCl (TYJ cI cZ cJ) (wN cI cZ n0 h0 h3 h4 h5 h6 c0 c8 c9 c10 c11 c12 c13 t0 t8 t9 t10 t11 t12 t13 i0 i1 i2 i3 i4 m0 m1 m2 uH uC uT uI uM ++ [(o0, .inl (cJ, 1, .inr (.inl fO)))]) sz sa [.ref n0, .int a1, .int a2, .ref o0]) (va_Qi (fun (r : Int32) (_ : Unit) => r = z.1) (fun _ t => va_P (dC, dI) vwCl (wN cI cZ n0 h0 h3 h4 h5 h6 c0 c8 c9 c10 c11 c12 c13 t0 t8 t9 t10 t11 t12 t13 i0 i1 i2 i3 i4 m0 m1 m2 uH uC uT uI z.2.1 ++ [(o0, .inl (cJ, 1, .inr (.inl z.2.2)))]) t.heap) (va_A (wN cI cZ n0 h0 h3 h4 h5 h6 c0 c8 c9 c10 c11 c12 c13 t0 t8 t9 t10 t11 t12 t13 i0 i1 i2 i3 i4 m0 m1 m2 uH uC uT uI uM ++ [(o0, .inl (cJ, 1, .inr (.inl fO)))]) sz)) 1 6 (va_A (wN cI cZ n0 h0 h3 h4 h5 h6 c0 c8 c9 c10 c11 c12 c13 t0 t8 t9 t10 t11 t12 t13 i0 i1 i2 i3 i4 m0 m1 m2 uH uC uT uI uM ++ [(o0, .inl (cJ, 1, .inr (.inl fO)))]) sz) := by
  refine oH (by decide) (Nat.le_of_ble_eq_true rfl) ?_
  intro p e s m args below meth c S hr hlk hT hB ls hl
  have hx := S.1
  have hb := S.2.1
  have hown : s.vm.findClass RL = some m.cls := S.2.2.2.1
  have hts := S.2.2.2.2
  have S : CallFix p m c cL_addMirror 5 s args lw_all RL := S
  have hl : lv_has ls 5 [(0, .ref n0), (1, .int a1), (2, .int a2), (3, .ref o0)] := hl
  obtain ⟨hsz, hP, hK, hD0, hX, hxn⟩ := hB
  subst hsz
  have hD := hD0.self (sz := s.heap.size)
  generalize hAe : va_A (wN cI cZ n0 h0 h3 h4 h5 h6 c0 c8 c9 c10 c11 c12 c13 t0 t8 t9 t10 t11 t12 t13 i0 i1 i2 i3 i4 m0 m1 m2 uH uC uT uI uM ++ [(o0, .inl (cJ, 1, .inr (.inl fO)))]) s.heap.size = A at hD hX ⊢
  have hA : ∀ q : Nat, s.heap.size ≤ q → A q := fun q h => by rw [← hAe]; exact Or.inr h
  have hS0 : va_S (fun _ => False) s.heap s.heap [] := va_S.rf
  have hS : va_S A s.heap s.heap [] := va_S.rf
  have hP : va_P (dC, dI) vwCl (wN cI cZ n0 h0 h3 h4 h5 h6 c0 c8 c9 c10 c11 c12 c13 t0 t8 t9 t10 t11 t12 t13 i0 i1 i2 i3 i4 m0 m1 m2 uH uC uT uI uM ++ [(o0, .inl (cJ, 1, .inr (.inl fO)))]) s.heap := hP
  unfold p_L_addMirror at hok
  refine lv_aload_n hx hb dL_addMirror_0 rfl (lv_at hl 3 rfl) ?_
  refine lv_iconst (v := (0 : Int32)) hx hb dL_addMirror_1 (by decide) ?_
  refine lv_aload_n hx hb dL_addMirror_2 rfl (lv_at hl 0 rfl) ?_
  refine lv_iload_n hx hb dL_addMirror_3 rfl (lv_at hl 1 rfl) ?_
  refine lv_iload_n hx hb dL_addMirror_4 rfl (lv_at hl 2 rfl) ?_
  obtain ⟨y, hc1, hok⟩ := bC_some hok
  refine cXUi (ci := 4) (q0 := 0) [.int a1, .int a2] S (hK.sub (tys' := TYS cI cZ) [0, 1] rfl) (cP_NO hP) (cD_NO hD) hS hA hX (c_X4_addMirror l hlt dC dI cI cZ n0 h0 h3 h4 h5 h6 c0 c8 c9 c10 c11 c12 c13 t0 t8 t9 t10 t11 t12 t13 i0 i1 i2 i3 i4 m0 m1 m2 _ sa uH uC uT uI uM a1 a2 hc1) (lw_V qm_L_34 qi_X4_addMirror qs_X4_addMirror qn_X4 qc_X4_addMirror) hd_X4_addMirror ⟨rfl, rfl⟩ ⟨Nat.le_of_ble_eq_true rfl, Nat.le_of_ble_eq_true rfl⟩ ⟨Nat.le_of_ble_eq_true rfl, Nat.le_of_ble_eq_true rfl⟩ rfl rfl rfl hl.1 (Nat.le_of_ble_eq_true rfl) rfl dL_addMirror_5 (fun a H1 hk9 h9 => cJ_NO hP hD hk9 h9) (fun a => D_NO hD) (fun E ce q9 H1 locs1 hz hs1 hq1 hS1 hce hcv hcl => ?_) (fun v H locs hz hP hD hS => ?_)
  · have hPx := va_Pkept hP (fun q hq _ => hq1 q hq)
    rw [hz] at hok
    change (if E = xIAE then _ else _) = some z at hok
    by_cases hE : E = xIAE
    · have hok2 := Option.some.inj (ip hok hE)
      subst hE
      subst hok2
      refine vx_catch hown [] ⟨0, 10, 13, 13⟩ [⟨0, 10, 17, 21⟩] (hT.trans rfl) (fun z hz => absurd hz List.not_mem_nil) rfl (by decide) (hts _ qk_L_13) (va_Nw.use rfl hX.2.2.1) hce hcv hcl ?_
      refine lv_astore (lv' := [(4, .ref q9), (0, .ref n0), (1, .int a1), (2, .int a2), (3, .ref o0)]) hx hb dL_addMirror_13 hl (by decide) rfl (fun ls hl => ?_)
      refine lv_iconst (v := (1 : Int32)) hx hb dL_addMirror_15 (by decide) ?_
      exact eWi S hr hlk rfl hPx hS1 (Nat.le_of_ble_eq_true rfl) (Nat.le_of_ble_eq_true rfl) dL_addMirror_16
    · have hok := iq hok hE
      by_cases hE : E = xISE
      · have hok2 := Option.some.inj (ip hok hE)
        subst hE
        subst hok2
        refine vx_catch hown [⟨0, 10, 13, 13⟩] ⟨0, 10, 17, 21⟩ [] (hT.trans rfl) (List.forall_mem_cons.mpr ⟨Or.inr ⟨by decide, _, hts _ qk_L_13, hxn.2.2⟩, fun z hz => absurd hz List.not_mem_nil⟩) rfl (by decide) (hts _ qk_L_21) (va_Nw.use rfl hX.2.2.2.1) hce hcv hcl ?_
        refine lv_astore (lv' := [(4, .ref q9), (0, .ref n0), (1, .int a1), (2, .int a2), (3, .ref o0)]) hx hb dL_addMirror_17 hl (by decide) rfl (fun ls hl => ?_)
        refine lv_iconst (v := (2 : Int32)) hx hb dL_addMirror_19 (by decide) ?_
        exact eWi S hr hlk rfl hPx hS1 (Nat.le_of_ble_eq_true rfl) (Nat.le_of_ble_eq_true rfl) dL_addMirror_20
      · have hok := iq hok hE
        cases hok
  · rw [hz] at hok
    change some ((0 : Int32), v.2, vp_updL fO 0 v.1.toInt64) = some z at hok
    refine lv_i2l (v := v.1.toInt64) hx hb dL_addMirror_8 rfl ?_
    refine va_lastK hx hb hK hP hD hS 28 2 rfl rfl (j := 0) (by decide) (vp_inK (by decide)) dL_addMirror_9 (fun H locs hP _ hS => ?_)
    have hP : va_P (dC, dI) vwCl (wN cI cZ n0 h0 h3 h4 h5 h6 c0 c8 c9 c10 c11 c12 c13 t0 t8 t9 t10 t11 t12 t13 i0 i1 i2 i3 i4 m0 m1 m2 uH uC uT uI v.2 ++ [(o0, .inl (cJ, 1, .inr (.inl (vp_updL fO 0 v.1.toInt64))))]) H := hP
    refine lv_goto (tgt := 21) hx hb dL_addMirror_10 (by decide) ?_
    refine lv_iconst (v := (0 : Int32)) hx hb dL_addMirror_21 (by decide) ?_
    have hok := Option.some.inj hok
    subst hok
    exact eWi S hr hlk rfl hP hS (Nat.le_of_ble_eq_true rfl) (Nat.le_of_ble_eq_true rfl) dL_addMirror_22
theorem hd_L_call : yL_call.cls ≠ "java/lang/invoke/MethodHandle" ∧ yL_call.cls ≠ "java/lang/invoke/VarHandle" ∧ (parseMethodDescriptor yL_call.desc).map (fun d => d.parameters.length) = some 3 := by decide +kernel
def p_L_call (uH : tX1) (uC : tX0) (uT : tX0) (uI : tX2) (uM : tX3) (fO : Nat → Int64) (a1 : Int32) : Option (Int32 × tX0 × (Nat → Int64)) := bC (p_X4_call uH uC uT uI uM a1) (fun v => if v.1 = 0 then some ((0 : Int32), v.2, vp_updL fO 0 (0 : Int64)) else some ((0 : Int32), v.2, vp_updL fO 0 (1 : Int64))) (fun E => if E = xIOB then some ((1 : Int32), uC, fO) else none)
set_option maxHeartbeats 4000000 in
set_option maxRecDepth 100000 in
theorem c_L_call (l : Launch) (hlt : l.stackTraces = false) (dC : Nat → ClassId) (dI : Nat → Nat → Nat) (cI cZ cJ : ClassId) (n0 h0 h3 h4 h5 h6 c0 c8 c9 c10 c11 c12 c13 t0 t8 t9 t10 t11 t12 t13 i0 i1 i2 i3 i4 m0 m1 m2 o0 : Nat) (sz : Nat) (sa : Nat → Nat) (uH : tX1) (uC : tX0) (uT : tX0) (uI : tX2) (uM : tX3) (fO : Nat → Int64) (a1 : Int32) {z : (Int32 × tX0 × (Nat → Int64))} (hok : p_L_call uH uC uT uI uM fO a1 = some z) : Met l yL_call (Cond.codeWith yL_call cL_call 4 (some .int) [(0, 16, 19, 19)] :: lw_all) { frames := 8, cells := 1, slots := 6, locals := 133 } (prH (dC, dI) vwCl (TYJ cI cZ cJ) (wN cI cZ n0 h0 h3 h4 h5 h6 c0 c8 c9 c10 c11 c12 c13 t0 t8 t9 t10 t11 t12 t13 i0 i1 i2 i3 i4 m0 m1 m2 uH uC uT uI uM ++ [(o0, .inl (cJ, 1, .inr (.inl fO)))]) sz sa [.ref n0, .int a1, .ref o0]) (va_Qi (fun (r : Int32) (_ : Unit) => r = z.1) (fun _ t => va_P (dC, dI) vwCl (wN cI cZ n0 h0 h3 h4 h5 h6 c0 c8 c9 c10 c11 c12 c13 t0 t8 t9 t10 t11 t12 t13 i0 i1 i2 i3 i4 m0 m1 m2 uH z.2.1 uT uI uM ++ [(o0, .inl (cJ, 1, .inr (.inl z.2.2)))]) t.heap) (va_A (wN cI cZ n0 h0 h3 h4 h5 h6 c0 c8 c9 c10 c11 c12 c13 t0 t8 t9 t10 t11 t12 t13 i0 i1 i2 i3 i4 m0 m1 m2 uH uC uT uI uM ++ [(o0, .inl (cJ, 1, .inr (.inl fO)))]) sz)) 1 6 (va_A (wN cI cZ n0 h0 h3 h4 h5 h6 c0 c8 c9 c10 c11 c12 c13 t0 t8 t9 t10 t11 t12 t13 i0 i1 i2 i3 i4 m0 m1 m2 uH uC uT uI uM ++ [(o0, .inl (cJ, 1, .inr (.inl fO)))]) sz) := by
  refine oH (by decide) (Nat.le_of_ble_eq_true rfl) ?_
  intro p e s m args below meth c S hr hlk hT hB ls hl
  have hx := S.1
  have hb := S.2.1
  have hown : s.vm.findClass RL = some m.cls := S.2.2.2.1
  have hts := S.2.2.2.2
  have S : CallFix p m c cL_call 4 s args lw_all RL := S
  have hl : lv_has ls 4 [(0, .ref n0), (1, .int a1), (2, .ref o0)] := hl
  obtain ⟨hsz, hP, hK, hD0, hX, hxn⟩ := hB
  subst hsz
  have hD := hD0.self (sz := s.heap.size)
  generalize hAe : va_A (wN cI cZ n0 h0 h3 h4 h5 h6 c0 c8 c9 c10 c11 c12 c13 t0 t8 t9 t10 t11 t12 t13 i0 i1 i2 i3 i4 m0 m1 m2 uH uC uT uI uM ++ [(o0, .inl (cJ, 1, .inr (.inl fO)))]) s.heap.size = A at hD hX ⊢
  have hA : ∀ q : Nat, s.heap.size ≤ q → A q := fun q h => by rw [← hAe]; exact Or.inr h
  have hS0 : va_S (fun _ => False) s.heap s.heap [] := va_S.rf
  have hS : va_S A s.heap s.heap [] := va_S.rf
  have hP : va_P (dC, dI) vwCl (wN cI cZ n0 h0 h3 h4 h5 h6 c0 c8 c9 c10 c11 c12 c13 t0 t8 t9 t10 t11 t12 t13 i0 i1 i2 i3 i4 m0 m1 m2 uH uC uT uI uM ++ [(o0, .inl (cJ, 1, .inr (.inl fO)))]) s.heap := hP
  unfold p_L_call at hok
  refine lv_aload_n hx hb dL_call_0 rfl (lv_at hl 2 rfl) ?_
  refine lv_iconst (v := (0 : Int32)) hx hb dL_call_1 (by decide) ?_
  refine lv_aload_n hx hb dL_call_2 rfl (lv_at hl 0 rfl) ?_
  refine lv_iload_n hx hb dL_call_3 rfl (lv_at hl 1 rfl) ?_
  obtain ⟨y, hc1, hok⟩ := bC_some hok
  refine cXUi (ci := 4) (q0 := 0) [.int a1] S (hK.sub (tys' := TYS cI cZ) [0, 1] rfl) (cP_NO hP) (cD_NO hD) hS hA hX (c_X4_call l hlt dC dI cI cZ n0 h0 h3 h4 h5 h6 c0 c8 c9 c10 c11 c12 c13 t0 t8 t9 t10 t11 t12 t13 i0 i1 i2 i3 i4 m0 m1 m2 _ sa uH uC uT uI uM a1 hc1) (lw_V qm_L_37 qi_X4_call qs_X4_call qn_X4 qc_X4_call) hd_X4_call ⟨rfl, rfl⟩ ⟨Nat.le_of_ble_eq_true rfl, Nat.le_of_ble_eq_true rfl⟩ ⟨Nat.le_of_ble_eq_true rfl, Nat.le_of_ble_eq_true rfl⟩ rfl rfl rfl hl.1 (Nat.le_of_ble_eq_true rfl) rfl dL_call_4 (fun a H1 hk9 h9 => cJ_NO hP hD hk9 h9) (fun a => D_NO hD) (fun E ce q9 H1 locs1 hz hs1 hq1 hS1 hce hcv hcl => ?_) (fun v H locs hz hP hD hS => ?_)
  · have hPx := va_Pkept hP (fun q hq _ => hq1 q hq)
    rw [hz] at hok
    change (if E = xIOB then _ else _) = some z at hok
    by_cases hE : E = xIOB
    · have hok2 := Option.some.inj (ip hok hE)
      subst hE
      subst hok2
      refine vx_catch hown [] ⟨0, 16, 19, 19⟩ [] (hT.trans rfl) (fun z hz => absurd hz List.not_mem_nil) rfl (by decide) (hts _ qk_L_19) (va_Nw.use rfl hX.2.2.2.2.1) hce hcv hcl ?_
      refine lv_astore_n (lv' := [(3, .ref q9), (0, .ref n0), (1, .int a1), (2, .ref o0)]) hx hb dL_call_19 rfl hl (by decide) rfl (fun ls hl => ?_)
      refine lv_iconst (v := (1 : Int32)) hx hb dL_call_20 (by decide) ?_
      exact eWi S hr hlk rfl hPx hS1 (Nat.le_of_ble_eq_true rfl) (Nat.le_of_ble_eq_true rfl) dL_call_21
    · have hok := iq hok hE
      cases hok
  · rw [hz] at hok
    change (if v.1 = 0 then _ else _) = some z at hok
    refine lv_if_eq (tgt := 14) hx hb dL_call_7 (by decide) (fun hc => ?_) (fun hc => ?_)
    · have hok := ip hok hc
      refine lv_lconst (v := (0 : Int64)) hx hb dL_call_14 (by decide) ?_
      refine va_lastK hx hb hK hP hD hS 28 2 rfl rfl (j := 0) (by decide) (vp_inK (by decide)) dL_call_15 (fun H locs hP _ hS => ?_)
      have hP : va_P (dC, dI) vwCl (wN cI cZ n0 h0 h3 h4 h5 h6 c0 c8 c9 c10 c11 c12 c13 t0 t8 t9 t10 t11 t12 t13 i0 i1 i2 i3 i4 m0 m1 m2 uH v.2 uT uI uM ++ [(o0, .inl (cJ, 1, .inr (.inl (vp_updL fO 0 (0 : Int64)))))]) H := hP
      refine lv_goto (tgt := 22) hx hb dL_call_16 (by decide) ?_
      refine lv_iconst (v := (0 : Int32)) hx hb dL_call_22 (by decide) ?_
      have hok := Option.some.inj hok
      subst hok
      exact eWi S hr hlk rfl hP hS (Nat.le_of_ble_eq_true rfl) (Nat.le_of_ble_eq_true rfl) dL_call_23
    · have hok := iq hok hc
      refine lv_lconst (v := (1 : Int64)) hx hb dL_call_10 (by decide) ?_
      refine lv_goto (tgt := 15) hx hb dL_call_11 (by decide) ?_
      refine va_lastK hx hb hK hP hD hS 28 2 rfl rfl (j := 0) (by decide) (vp_inK (by decide)) dL_call_15 (fun H locs hP _ hS => ?_)
      have hP : va_P (dC, dI) vwCl (wN cI cZ n0 h0 h3 h4 h5 h6 c0 c8 c9 c10 c11 c12 c13 t0 t8 t9 t10 t11 t12 t13 i0 i1 i2 i3 i4 m0 m1 m2 uH v.2 uT uI uM ++ [(o0, .inl (cJ, 1, .inr (.inl (vp_updL fO 0 (1 : Int64)))))]) H := hP
      refine lv_goto (tgt := 22) hx hb dL_call_16 (by decide) ?_
      refine lv_iconst (v := (0 : Int32)) hx hb dL_call_22 (by decide) ?_
      have hok := Option.some.inj hok
      subst hok
      exact eWi S hr hlk rfl hP hS (Nat.le_of_ble_eq_true rfl) (Nat.le_of_ble_eq_true rfl) dL_call_23
theorem hd_L_passHours : yL_passHours.cls ≠ "java/lang/invoke/MethodHandle" ∧ yL_passHours.cls ≠ "java/lang/invoke/VarHandle" ∧ (parseMethodDescriptor yL_passHours.desc).map (fun d => d.parameters.length) = some 3 := by decide +kernel
def p_L_passHours (uH : tX1) (uC : tX0) (uT : tX0) (uI : tX2) (uM : tX3) (fO : Nat → Int64) (a1 : Int32) : Option (Int32 × tX0 × tX2 × (Nat → Int64)) := bC (p_X4_passHours uH uC uT uI uM a1) (fun v => some ((0 : Int32), v.2.1, v.2.2, vp_updL fO 0 v.1.toInt64)) (fun E => if E = xIAE then some ((1 : Int32), uC, uI, fO) else none)
set_option maxHeartbeats 4000000 in
set_option maxRecDepth 100000 in
theorem c_L_passHours (l : Launch) (hlt : l.stackTraces = false) (dC : Nat → ClassId) (dI : Nat → Nat → Nat) (cI cZ cJ : ClassId) (n0 h0 h3 h4 h5 h6 c0 c8 c9 c10 c11 c12 c13 t0 t8 t9 t10 t11 t12 t13 i0 i1 i2 i3 i4 m0 m1 m2 o0 : Nat) (sz : Nat) (sa : Nat → Nat) (uH : tX1) (uC : tX0) (uT : tX0) (uI : tX2) (uM : tX3) (fO : Nat → Int64) (a1 : Int32) {z : (Int32 × tX0 × tX2 × (Nat → Int64))} (hok : p_L_passHours uH uC uT uI uM fO a1 = some z) : Met l yL_passHours (Cond.codeWith yL_passHours cL_passHours 4 (some .int) [(0, 9, 12, 13)] :: lw_all) { frames := 7, cells := 1, slots := 6, locals := 115 } (prH (dC, dI) vwCl (TYJ cI cZ cJ) (wN cI cZ n0 h0 h3 h4 h5 h6 c0 c8 c9 c10 c11 c12 c13 t0 t8 t9 t10 t11 t12 t13 i0 i1 i2 i3 i4 m0 m1 m2 uH uC uT uI uM ++ [(o0, .inl (cJ, 1, .inr (.inl fO)))]) sz sa [.ref n0, .int a1, .ref o0]) (va_Qi (fun (r : Int32) (_ : Unit) => r = z.1) (fun _ t => va_P (dC, dI) vwCl (wN cI cZ n0 h0 h3 h4 h5 h6 c0 c8 c9 c10 c11 c12 c13 t0 t8 t9 t10 t11 t12 t13 i0 i1 i2 i3 i4 m0 m1 m2 uH z.2.1 uT z.2.2.1 uM ++ [(o0, .inl (cJ, 1, .inr (.inl z.2.2.2)))]) t.heap) (va_A (wN cI cZ n0 h0 h3 h4 h5 h6 c0 c8 c9 c10 c11 c12 c13 t0 t8 t9 t10 t11 t12 t13 i0 i1 i2 i3 i4 m0 m1 m2 uH uC uT uI uM ++ [(o0, .inl (cJ, 1, .inr (.inl fO)))]) sz)) 1 6 (va_A (wN cI cZ n0 h0 h3 h4 h5 h6 c0 c8 c9 c10 c11 c12 c13 t0 t8 t9 t10 t11 t12 t13 i0 i1 i2 i3 i4 m0 m1 m2 uH uC uT uI uM ++ [(o0, .inl (cJ, 1, .inr (.inl fO)))]) sz) := by
  refine oH (by decide) (Nat.le_of_ble_eq_true rfl) ?_
  intro p e s m args below meth c S hr hlk hT hB ls hl
  have hx := S.1
  have hb := S.2.1
  have hown : s.vm.findClass RL = some m.cls := S.2.2.2.1
  have hts := S.2.2.2.2
  have S : CallFix p m c cL_passHours 4 s args lw_all RL := S
  have hl : lv_has ls 4 [(0, .ref n0), (1, .int a1), (2, .ref o0)] := hl
  obtain ⟨hsz, hP, hK, hD0, hX, hxn⟩ := hB
  subst hsz
  have hD := hD0.self (sz := s.heap.size)
  generalize hAe : va_A (wN cI cZ n0 h0 h3 h4 h5 h6 c0 c8 c9 c10 c11 c12 c13 t0 t8 t9 t10 t11 t12 t13 i0 i1 i2 i3 i4 m0 m1 m2 uH uC uT uI uM ++ [(o0, .inl (cJ, 1, .inr (.inl fO)))]) s.heap.size = A at hD hX ⊢
  have hA : ∀ q : Nat, s.heap.size ≤ q → A q := fun q h => by rw [← hAe]; exact Or.inr h
  have hS0 : va_S (fun _ => False) s.heap s.heap [] := va_S.rf
  have hS : va_S A s.heap s.heap [] := va_S.rf
  have hP : va_P (dC, dI) vwCl (wN cI cZ n0 h0 h3 h4 h5 h6 c0 c8 c9 c10 c11 c12 c13 t0 t8 t9 t10 t11 t12 t13 i0 i1 i2 i3 i4 m0 m1 m2 uH uC uT uI uM ++ [(o0, .inl (cJ, 1, .inr (.inl fO)))]) s.heap := hP
  unfold p_L_passHours at hok
  refine lv_aload_n hx hb dL_passHours_0 rfl (lv_at hl 2 rfl) ?_
  refine lv_iconst (v := (0 : Int32)) hx hb dL_passHours_1 (by decide) ?_
  refine lv_aload_n hx hb dL_passHours_2 rfl (lv_at hl 0 rfl) ?_
  refine lv_iload_n hx hb dL_passHours_3 rfl (lv_at hl 1 rfl) ?_
  obtain ⟨y, hc1, hok⟩ := bC_some hok
  refine cXUi (ci := 4) (q0 := 0) [.int a1] S (hK.sub (tys' := TYS cI cZ) [0, 1] rfl) (cP_NO hP) (cD_NO hD) hS hA hX (c_X4_passHours l hlt dC dI cI cZ n0 h0 h3 h4 h5 h6 c0 c8 c9 c10 c11 c12 c13 t0 t8 t9 t10 t11 t12 t13 i0 i1 i2 i3 i4 m0 m1 m2 _ sa uH uC uT uI uM a1 hc1) (lw_V qm_L_40 qi_X4_passHours qs_X4_passHours qn_X4 qc_X4_passHours) hd_X4_passHours ⟨rfl, rfl⟩ ⟨Nat.le_of_ble_eq_true rfl, Nat.le_of_ble_eq_true rfl⟩ ⟨Nat.le_of_ble_eq_true rfl, Nat.le_of_ble_eq_true rfl⟩ rfl rfl rfl hl.1 (Nat.le_of_ble_eq_true rfl) rfl dL_passHours_4 (fun a H1 hk9 h9 => cJ_NO hP hD hk9 h9) (fun a => D_NO hD) (fun E ce q9 H1 locs1 hz hs1 hq1 hS1 hce hcv hcl => ?_) (fun v H locs hz hP hD hS => ?_)
  · have hPx := va_Pkept hP (fun q hq _ => hq1 q hq)
    rw [hz] at hok
    change (if E = xIAE then _ else _) = some z at hok
    by_cases hE : E = xIAE
    · have hok2 := Option.some.inj (ip hok hE)
      subst hE
      subst hok2
      refine vx_catch hown [] ⟨0, 9, 12, 13⟩ [] (hT.trans rfl) (fun z hz => absurd hz List.not_mem_nil) rfl (by decide) (hts _ qk_L_13) (va_Nw.use rfl hX.2.2.1) hce hcv hcl ?_
      refine lv_astore_n (lv' := [(3, .ref q9), (0, .ref n0), (1, .int a1), (2, .ref o0)]) hx hb dL_passHours_12 rfl hl (by decide) rfl (fun ls hl => ?_)
      refine lv_iconst (v := (1 : Int32)) hx hb dL_passHours_13 (by decide) ?_
      exact eWi S hr hlk rfl hPx hS1 (Nat.le_of_ble_eq_true rfl) (Nat.le_of_ble_eq_true rfl) dL_passHours_14
    · have hok := iq hok hE
      cases hok
  · rw [hz] at hok
    change some ((0 : Int32), v.2.1, v.2.2, vp_updL fO 0 v.1.toInt64) = some z at hok
    refine lv_i2l (v := v.1.toInt64) hx hb dL_passHours_7 rfl ?_
    refine va_lastK hx hb hK hP hD hS 28 2 rfl rfl (j := 0) (by decide) (vp_inK (by decide)) dL_passHours_8 (fun H locs hP _ hS => ?_)
    have hP : va_P (dC, dI) vwCl (wN cI cZ n0 h0 h3 h4 h5 h6 c0 c8 c9 c10 c11 c12 c13 t0 t8 t9 t10 t11 t12 t13 i0 i1 i2 i3 i4 m0 m1 m2 uH v.2.1 uT v.2.2 uM ++ [(o0, .inl (cJ, 1, .inr (.inl (vp_updL fO 0 v.1.toInt64))))]) H := hP
    refine lv_goto (tgt := 15) hx hb dL_passHours_9 (by decide) ?_
    refine lv_iconst (v := (0 : Int32)) hx hb dL_passHours_15 (by decide) ?_
    have hok := Option.some.inj hok
    subst hok
    exact eWi S hr hlk rfl hP hS (Nat.le_of_ble_eq_true rfl) (Nat.le_of_ble_eq_true rfl) dL_passHours_16
