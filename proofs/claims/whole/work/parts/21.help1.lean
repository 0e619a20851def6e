theorem hd_L_isCalled : yL_isCalled.cls ≠ "java/lang/invoke/MethodHandle" ∧ yL_isCalled.cls ≠ "java/lang/invoke/VarHandle" ∧ (parseMethodDescriptor yL_isCalled.desc).map (fun d => d.parameters.length) = some 3 := by decide +kernel
def p_L_isCalled (uH : tX1) (uC : tX0) (uT : tX0) (uI : tX2) (uM : tX3) (fO : Nat → Int64) (a1 : Int32) : Option (Int32 × (Nat → Int64)) := bC (p_X4_isCalled uH uC uT uI uM a1) (fun v => if v = 0 then some ((0 : Int32), vp_updL fO 0 (0 : Int64)) else some ((0 : Int32), vp_updL fO 0 (1 : Int64))) (fun E => if E = xIOB then some ((1 : Int32), fO) else none)
set_option maxHeartbeats 4000000 in
set_option maxRecDepth 100000 in
theorem c_L_isCalled (l : Launch) (hlt : l.stackTraces = false) (dC : Nat → ClassId) (dI : Nat → Nat → Nat) (cI cZ cJ : ClassId) (n0 h0 h3 h4 h5 h6 c0 c8 c9 c10 c11 c12 c13 t0 t8 t9 t10 t11 t12 t13 i0 i1 i2 i3 i4 m0 m1 m2 o0 : Nat) (sz : Nat) (sa : Nat → Nat) (uH : tX1) (uC : tX0) (uT : tX0) (uI : tX2) (uM : tX3) (fO : Nat → Int64) (a1 : Int32) {z : (Int32 × (Nat → Int64))} (hok : p_L_isCalled uH uC uT uI uM fO a1 = some z) : Met l yL_isCalled (Cond.codeWith yL_isCalled cL_isCalled 4 (some .int) [(0, 16, 19, 19)] :: lw_all) { frames := 8, cells := 1, slots := 6, locals := 132 } (prH (dC, dI) vwCl (TYJ cI cZ cJ) (wN cI cZ n0 h0 h3 h4 h5 h6 c0 c8 c9 c10 c11 c12 c13 t0 t8 t9 t10 t11 t12 t13 i0 i1 i2 i3 i4 m0 m1 m2 uH uC uT uI uM ++ [(o0, .inl (cJ, 1, .inr (.inl fO)))]) sz sa [.ref n0, .int a1, .ref o0]) (va_Qi (fun (r : Int32) (_ : Unit) => r = z.1) (fun _ t => va_P (dC, dI) vwCl (wN cI cZ n0 h0 h3 h4 h5 h6 c0 c8 c9 c10 c11 c12 c13 t0 t8 t9 t10 t11 t12 t13 i0 i1 i2 i3 i4 m0 m1 m2 uH uC uT uI uM ++ [(o0, .inl (cJ, 1, .inr (.inl z.2)))]) t.heap) (va_A (wN cI cZ n0 h0 h3 h4 h5 h6 c0 c8 c9 c10 c11 c12 c13 t0 t8 t9 t10 t11 t12 t13 i0 i1 i2 i3 i4 m0 m1 m2 uH uC uT uI uM ++ [(o0, .inl (cJ, 1, .inr (.inl fO)))]) sz)) 1 6 (va_A (wN cI cZ n0 h0 h3 h4 h5 h6 c0 c8 c9 c10 c11 c12 c13 t0 t8 t9 t10 t11 t12 t13 i0 i1 i2 i3 i4 m0 m1 m2 uH uC uT uI uM ++ [(o0, .inl (cJ, 1, .inr (.inl fO)))]) sz) := by
  refine oH (by decide) (Nat.le_of_ble_eq_true rfl) ?_
  intro p e s m args below meth c S hr hlk hT hB ls hl
  have hx := S.1
  have hb := S.2.1
  have hown : s.vm.findClass RL = some m.cls := S.2.2.2.1
  have hts := S.2.2.2.2
  have S : CallFix p m c cL_isCalled 4 s args lw_all RL := S
  have hl : lv_has ls 4 [(0, .ref n0), (1, .int a1), (2, .ref o0)] := hl
  obtain ⟨hsz, hP, hK, hD0, hX, hxn⟩ := hB
  subst hsz
  have hD := hD0.self (sz := s.heap.size)
  generalize hAe : va_A (wN cI cZ n0 h0 h3 h4 h5 h6 c0 c8 c9 c10 c11 c12 c13 t0 t8 t9 t10 t11 t12 t13 i0 i1 i2 i3 i4 m0 m1 m2 uH uC uT uI uM ++ [(o0, .inl (cJ, 1, .inr (.inl fO)))]) s.heap.size = A at hD hX ⊢
  have hA : ∀ q : Nat, s.heap.size ≤ q → A q := fun q h => by rw [← hAe]; exact Or.inr h
  have hS0 : va_S (fun _ => False) s.heap s.heap [] := va_S.rf
  have hS : va_S A s.heap s.heap [] := va_S.rf
  have hP : va_P (dC, dI) vwCl (wN cI cZ n0 h0 h3 h4 h5 h6 c0 c8 c9 c10 c11 c12 c13 t0 t8 t9 t10 t11 t12 t13 i0 i1 i2 i3 i4 m0 m1 m2 uH uC uT uI uM ++ [(o0, .inl (cJ, 1, .inr (.inl fO)))]) s.heap := hP
  unfold p_L_isCalled at hok
  refine lv_aload_n hx hb dL_isCalled_0 rfl (lv_at hl 2 rfl) ?_
  refine lv_iconst (v := (0 : Int32)) hx hb dL_isCalled_1 (by decide) ?_
  refine lv_aload_n hx hb dL_isCalled_2 rfl (lv_at hl 0 rfl) ?_
  refine lv_iload_n hx hb dL_isCalled_3 rfl (lv_at hl 1 rfl) ?_
  obtain ⟨y, hc1, hok⟩ := bC_some hok
  refine cYVi (ci := 4) (q0 := 0) [.int a1] S (hK.sub (tys' := TYS cI cZ) [0, 1] rfl) hP (cP_NO hP) (cD_NO hD) hS0 (va_S0 hS0) hA hX (c_X4_isCalled l hlt dC dI cI cZ n0 h0 h3 h4 h5 h6 c0 c8 c9 c10 c11 c12 c13 t0 t8 t9 t10 t11 t12 t13 i0 i1 i2 i3 i4 m0 m1 m2 _ sa uH uC uT uI uM a1 hc1) (lw_V qm_L_43 qi_X4_isCalled qs_X4_isCalled qn_X4 qc_X4_isCalled) hd_X4_isCalled ⟨rfl, rfl⟩ ⟨Nat.le_of_ble_eq_true rfl, Nat.le_of_ble_eq_true rfl⟩ ⟨Nat.le_of_ble_eq_true rfl, Nat.le_of_ble_eq_true rfl⟩ rfl rfl rfl hl.1 (Nat.le_of_ble_eq_true rfl) rfl dL_isCalled_4 (fun E ce q9 H1 locs1 hz hS1 hce hcv hcl => ?_) (fun v H locs hz hP hS => ?_)
  · have hPx := va_Pkept hP (fun q hq hn => hS1.2.1 q hq hn)
    have hS1 : va_S A s.heap H1 locs1 := va_S0 hS1
    rw [hz] at hok
    change (if E = xIOB then _ else _) = some z at hok
    by_cases hE : E = xIOB
    · have hok2 := Option.some.inj (ip hok hE)
      subst hE
      subst hok2
      refine vx_catch hown [] ⟨0, 16, 19, 19⟩ [] (hT.trans rfl) (fun z hz => absurd hz List.not_mem_nil) rfl (by decide) (hts _ qk_L_19) (va_Nw.use rfl hX.2.2.2.2.1) hce hcv hcl ?_
      refine lv_astore_n (lv' := [(3, .ref q9), (0, .ref n0), (1, .int a1), (2, .ref o0)]) hx hb dL_isCalled_19 rfl hl (by decide) rfl (fun ls hl => ?_)
      refine lv_iconst (v := (1 : Int32)) hx hb dL_isCalled_20 (by decide) ?_
      exact eWi S hr hlk rfl hPx hS1 (Nat.le_of_ble_eq_true rfl) (Nat.le_of_ble_eq_true rfl) dL_isCalled_21
    · have hok := iq hok hE
      cases hok
  · have hS : va_S A s.heap H locs := va_S0 hS
    rw [hz] at hok
    change (if v = 0 then _ else _) = some z at hok
    refine lv_if_eq (tgt := 14) hx hb dL_isCalled_7 (by decide) (fun hc => ?_) (fun hc => ?_)
    · have hok := ip hok hc
      refine lv_lconst (v := (0 : Int64)) hx hb dL_isCalled_14 (by decide) ?_
      refine va_lastK hx hb hK hP hD hS 28 2 rfl rfl (j := 0) (by decide) (vp_inK (by decide)) dL_isCalled_15 (fun H locs hP _ hS => ?_)
      have hP : va_P (dC, dI) vwCl (wN cI cZ n0 h0 h3 h4 h5 h6 c0 c8 c9 c10 c11 c12 c13 t0 t8 t9 t10 t11 t12 t13 i0 i1 i2 i3 i4 m0 m1 m2 uH uC uT uI uM ++ [(o0, .inl (cJ, 1, .inr (.inl (vp_updL fO 0 (0 : Int64)))))]) H := hP
      refine lv_goto (tgt := 22) hx hb dL_isCalled_16 (by decide) ?_
      refine lv_iconst (v := (0 : Int32)) hx hb dL_isCalled_22 (by decide) ?_
      have hok := Option.some.inj hok
      subst hok
      exact eWi S hr hlk rfl hP hS (Nat.le_of_ble_eq_true rfl) (Nat.le_of_ble_eq_true rfl) dL_isCalled_23
    · have hok := iq hok hc
      refine lv_lconst (v := (1 : Int64)) hx hb dL_isCalled_10 (by decide) ?_
      refine lv_goto (tgt := 15) hx hb dL_isCalled_11 (by decide) ?_
      refine va_lastK hx hb hK hP hD hS 28 2 rfl rfl (j := 0) (by decide) (vp_inK (by decide)) dL_isCalled_15 (fun H locs hP _ hS => ?_)
      have hP : va_P (dC, dI) vwCl (wN cI cZ n0 h0 h3 h4 h5 h6 c0 c8 c9 c10 c11 c12 c13 t0 t8 t9 t10 t11 t12 t13 i0 i1 i2 i3 i4 m0 m1 m2 uH uC uT uI uM ++ [(o0, .inl (cJ, 1, .inr (.inl (vp_updL fO 0 (1 : Int64)))))]) H := hP
      refine lv_goto (tgt := 22) hx hb dL_isCalled_16 (by decide) ?_
      refine lv_iconst (v := (0 : Int32)) hx hb dL_isCalled_22 (by decide) ?_
      have hok := Option.some.inj hok
      subst hok
      exact eWi S hr hlk rfl hP hS (Nat.le_of_ble_eq_true rfl) (Nat.le_of_ble_eq_true rfl) dL_isCalled_23
theorem hd_L_paragraphs : yL_paragraphs.cls ≠ "java/lang/invoke/MethodHandle" ∧ yL_paragraphs.cls ≠ "java/lang/invoke/VarHandle" ∧ (parseMethodDescriptor yL_paragraphs.desc).map (fun d => d.parameters.length) = some 3 := by decide +kernel
def p_L_paragraphs (uH : tX1) (uC : tX0) (uT : tX0) (uI : tX2) (uM : tX3) (fO : Nat → Int64) (a1 : Int32) : Option (Int32 × (Nat → Int64)) := bC (p_X4_paragraphs uH uC uT uI uM a1) (fun v => some ((0 : Int32), vp_updL fO 0 v.toInt64)) (fun E => if E = xIOB then some ((1 : Int32), fO) else none)
set_option maxHeartbeats 4000000 in
set_option maxRecDepth 100000 in
theorem c_L_paragraphs (l : Launch) (hlt : l.stackTraces = false) (dC : Nat → ClassId) (dI : Nat → Nat → Nat) (cI cZ cJ : ClassId) (n0 h0 h3 h4 h5 h6 c0 c8 c9 c10 c11 c12 c13 t0 t8 t9 t10 t11 t12 t13 i0 i1 i2 i3 i4 m0 m1 m2 o0 : Nat) (sz : Nat) (sa : Nat → Nat) (uH : tX1) (uC : tX0) (uT : tX0) (uI : tX2) (uM : tX3) (fO : Nat → Int64) (a1 : Int32) {z : (Int32 × (Nat → Int64))} (hok : p_L_paragraphs uH uC uT uI uM fO a1 = some z) : Met l yL_paragraphs (Cond.codeWith yL_paragraphs cL_paragraphs 4 (some .int) [(0, 9, 12, 19)] :: lw_all) { frames := 8, cells := 1, slots := 6, locals := 132 } (prH (dC, dI) vwCl (TYJ cI cZ cJ) (wN cI cZ n0 h0 h3 h4 h5 h6 c0 c8 c9 c10 c11 c12 c13 t0 t8 t9 t10 t11 t12 t13 i0 i1 i2 i3 i4 m0 m1 m2 uH uC uT uI uM ++ [(o0, .inl (cJ, 1, .inr (.inl fO)))]) sz sa [.ref n0, .int a1, .ref o0]) (va_Qi (fun (r : Int32) (_ : Unit) => r = z.1) (fun _ t => va_P (dC, dI) vwCl (wN cI cZ n0 h0 h3 h4 h5 h6 c0 c8 c9 c10 c11 c12 c13 t0 t8 t9 t10 t11 t12 t13 i0 i1 i2 i3 i4 m0 m1 m2 uH uC uT uI uM ++ [(o0, .inl (cJ, 1, .inr (.inl z.2)))]) t.heap) (va_A (wN cI cZ n0 h0 h3 h4 h5 h6 c0 c8 c9 c10 c11 c12 c13 t0 t8 t9 t10 t11 t12 t13 i0 i1 i2 i3 i4 m0 m1 m2 uH uC uT uI uM ++ [(o0, .inl (cJ, 1, .inr (.inl fO)))]) sz)) 1 6 (va_A (wN cI cZ n0 h0 h3 h4 h5 h6 c0 c8 c9 c10 c11 c12 c13 t0 t8 t9 t10 t11 t12 t13 i0 i1 i2 i3 i4 m0 m1 m2 uH uC uT uI uM ++ [(o0, .inl (cJ, 1, .inr (.inl fO)))]) sz) := by
  refine oH (by decide) (Nat.le_of_ble_eq_true rfl) ?_
  intro p e s m args below meth c S hr hlk hT hB ls hl
  have hx := S.1
  have hb := S.2.1
  have hown : s.vm.findClass RL = some m.cls := S.2.2.2.1
  have hts := S.2.2.2.2
  have S : CallFix p m c cL_paragraphs 4 s args lw_all RL := S
  have hl : lv_has ls 4 [(0, .ref n0), (1, .int a1), (2, .ref o0)] := hl
  obtain ⟨hsz, hP, hK, hD0, hX, hxn⟩ := hB
  subst hsz
  have hD := hD0.self (sz := s.heap.size)
  generalize hAe : va_A (wN cI cZ n0 h0 h3 h4 h5 h6 c0 c8 c9 c10 c11 c12 c13 t0 t8 t9 t10 t11 t12 t13 i0 i1 i2 i3 i4 m0 m1 m2 uH uC uT uI uM ++ [(o0, .inl (cJ, 1, .inr (.inl fO)))]) s.heap.size = A at hD hX ⊢
  have hA : ∀ q : Nat, s.heap.size ≤ q → A q := fun q h => by rw [← hAe]; exact Or.inr h
  have hS0 : va_S (fun _ => False) s.heap s.heap [] := va_S.rf
  have hS : va_S A s.heap s.heap [] := va_S.rf
  have hP : va_P (dC, dI) vwCl (wN cI cZ n0 h0 h3 h4 h5 h6 c0 c8 c9 c10 c11 c12 c13 t0 t8 t9 t10 t11 t12 t13 i0 i1 i2 i3 i4 m0 m1 m2 uH uC uT uI uM ++ [(o0, .inl (cJ, 1, .inr (.inl fO)))]) s.heap := hP
  unfold p_L_paragraphs at hok
  refine lv_aload_n hx hb dL_paragraphs_0 rfl (lv_at hl 2 rfl) ?_
  refine lv_iconst (v := (0 : Int32)) hx hb dL_paragraphs_1 (by decide) ?_
  refine lv_aload_n hx hb dL_paragraphs_2 rfl (lv_at hl 0 rfl) ?_
  refine lv_iload_n hx hb dL_paragraphs_3 rfl (lv_at hl 1 rfl) ?_
  obtain ⟨y, hc1, hok⟩ := bC_some hok
  refine cYVi (ci := 4) (q0 := 0) [.int a1] S (hK.sub (tys' := TYS cI cZ) [0, 1] rfl) hP (cP_NO hP) (cD_NO hD) hS0 (va_S0 hS0) hA hX (c_X4_paragraphs l hlt dC dI cI cZ n0 h0 h3 h4 h5 h6 c0 c8 c9 c10 c11 c12 c13 t0 t8 t9 t10 t11 t12 t13 i0 i1 i2 i3 i4 m0 m1 m2 _ sa uH uC uT uI uM a1 hc1) (lw_V qm_L_46 qi_X4_paragraphs qs_X4_paragraphs qn_X4 qc_X4_paragraphs) hd_X4_paragraphs ⟨rfl, rfl⟩ ⟨Nat.le_of_ble_eq_true rfl, Nat.le_of_ble_eq_true rfl⟩ ⟨Nat.le_of_ble_eq_true rfl, Nat.le_of_ble_eq_true rfl⟩ rfl rfl rfl hl.1 (Nat.le_of_ble_eq_true rfl) rfl dL_paragraphs_4 (fun E ce q9 H1 locs1 hz hS1 hce hcv hcl => ?_) (fun v H locs hz hP hS => ?_)
  · have hPx := va_Pkept hP (fun q hq hn => hS1.2.1 q hq hn)
    have hS1 : va_S A s.heap H1 locs1 := va_S0 hS1
    rw [hz] at hok
    change (if E = xIOB then _ else _) = some z at hok
    by_cases hE : E = xIOB
    · have hok2 := Option.some.inj (ip hok hE)
      subst hE
      subst hok2
      refine vx_catch hown [] ⟨0, 9, 12, 19⟩ [] (hT.trans rfl) (fun z hz => absurd hz List.not_mem_nil) rfl (by decide) (hts _ qk_L_19) (va_Nw.use rfl hX.2.2.2.2.1) hce hcv hcl ?_
      refine lv_astore_n (lv' := [(3, .ref q9), (0, .ref n0), (1, .int a1), (2, .ref o0)]) hx hb dL_paragraphs_12 rfl hl (by decide) rfl (fun ls hl => ?_)
      refine lv_iconst (v := (1 : Int32)) hx hb dL_paragraphs_13 (by decide) ?_
      exact eWi S hr hlk rfl hPx hS1 (Nat.le_of_ble_eq_true rfl) (Nat.le_of_ble_eq_true rfl) dL_paragraphs_14
    · have hok := iq hok hE
      cases hok
  · have hS : va_S A s.heap H locs := va_S0 hS
    rw [hz] at hok
    change some ((0 : Int32), vp_updL fO 0 v.toInt64) = some z at hok
    refine lv_i2l (v := v.toInt64) hx hb dL_paragraphs_7 rfl ?_
    refine va_lastK hx hb hK hP hD hS 28 2 rfl rfl (j := 0) (by decide) (vp_inK (by decide)) dL_paragraphs_8 (fun H locs hP _ hS => ?_)
    have hP : va_P (dC, dI) vwCl (wN cI cZ n0 h0 h3 h4 h5 h6 c0 c8 c9 c10 c11 c12 c13 t0 t8 t9 t10 t11 t12 t13 i0 i1 i2 i3 i4 m0 m1 m2 uH uC uT uI uM ++ [(o0, .inl (cJ, 1, .inr (.inl (vp_updL fO 0 v.toInt64))))]) H := hP
    refine lv_goto (tgt := 15) hx hb dL_paragraphs_9 (by decide) ?_
    refine lv_iconst (v := (0 : Int32)) hx hb dL_paragraphs_15 (by decide) ?_
    have hok := Option.some.inj hok
    subst hok
    exact eWi S hr hlk rfl hP hS (Nat.le_of_ble_eq_true rfl) (Nat.le_of_ble_eq_true rfl) dL_paragraphs_16
theorem hd_L_nextParagraph : yL_nextParagraph.cls ≠ "java/lang/invoke/MethodHandle" ∧ yL_nextParagraph.cls ≠ "java/lang/invoke/VarHandle" ∧ (parseMethodDescriptor yL_nextParagraph.desc).map (fun d => d.parameters.length) = some 3 := by decide +kernel
def p_L_nextParagraph (uH : tX1) (uC : tX0) (uT : tX0) (uI : tX2) (uM : tX3) (fO : Nat → Int64) (a1 : Int32) : Option (Int32 × (Nat → Int64)) := bC (p_X4_nextParagraph uH uC uT uI uM a1) (fun v => some ((0 : Int32), vp_updL fO 0 v.toInt64)) (fun E => if E = xIOB then some ((1 : Int32), fO) else none)
set_option maxHeartbeats 4000000 in
set_option maxRecDepth 100000 in
theorem c_L_nextParagraph (l : Launch) (hlt : l.stackTraces = false) (dC : Nat → ClassId) (dI : Nat → Nat → Nat) (cI cZ cJ : ClassId) (n0 h0 h3 h4 h5 h6 c0 c8 c9 c10 c11 c12 c13 t0 t8 t9 t10 t11 t12 t13 i0 i1 i2 i3 i4 m0 m1 m2 o0 : Nat) (sz : Nat) (sa : Nat → Nat) (uH : tX1) (uC : tX0) (uT : tX0) (uI : tX2) (uM : tX3) (fO : Nat → Int64) (a1 : Int32) {z : (Int32 × (Nat → Int64))} (hok : p_L_nextParagraph uH uC uT uI uM fO a1 = some z) : Met l yL_nextParagraph (Cond.codeWith yL_nextParagraph cL_nextParagraph 4 (some .int) [(0, 9, 12, 19)] :: lw_all) { frames := 8, cells := 1, slots := 6, locals := 132 } (prH (dC, dI) vwCl (TYJ cI cZ cJ) (wN cI cZ n0 h0 h3 h4 h5 h6 c0 c8 c9 c10 c11 c12 c13 t0 t8 t9 t10 t11 t12 t13 i0 i1 i2 i3 i4 m0 m1 m2 uH uC uT uI uM ++ [(o0, .inl (cJ, 1, .inr (.inl fO)))]) sz sa [.ref n0, .int a1, .ref o0]) (va_Qi (fun (r : Int32) (_ : Unit) => r = z.1) (fun _ t => va_P (dC, dI) vwCl (wN cI cZ n0 h0 h3 h4 h5 h6 c0 c8 c9 c10 c11 c12 c13 t0 t8 t9 t10 t11 t12 t13 i0 i1 i2 i3 i4 m0 m1 m2 uH uC uT uI uM ++ [(o0, .inl (cJ, 1, .inr (.inl z.2)))]) t.heap) (va_A (wN cI cZ n0 h0 h3 h4 h5 h6 c0 c8 c9 c10 c11 c12 c13 t0 t8 t9 t10 t11 t12 t13 i0 i1 i2 i3 i4 m0 m1 m2 uH uC uT uI uM ++ [(o0, .inl (cJ, 1, .inr (.inl fO)))]) sz)) 1 6 (va_A (wN cI cZ n0 h0 h3 h4 h5 h6 c0 c8 c9 c10 c11 c12 c13 t0 t8 t9 t10 t11 t12 t13 i0 i1 i2 i3 i4 m0 m1 m2 uH uC uT uI uM ++ [(o0, .inl (cJ, 1, .inr (.inl fO)))]) sz) := by
  refine oH (by decide) (Nat.le_of_ble_eq_true rfl) ?_
  intro p e s m args below meth c S hr hlk hT hB ls hl
  have hx := S.1
  have hb := S.2.1
  have hown : s.vm.findClass RL = some m.cls := S.2.2.2.1
  have hts := S.2.2.2.2
  have S : CallFix p m c cL_nextParagraph 4 s args lw_all RL := S
  have hl : lv_has ls 4 [(0, .ref n0), (1, .int a1), (2, .ref o0)] := hl
  obtain ⟨hsz, hP, hK, hD0, hX, hxn⟩ := hB
  subst hsz
  have hD := hD0.self (sz := s.heap.size)
  generalize hAe : va_A (wN cI cZ n0 h0 h3 h4 h5 h6 c0 c8 c9 c10 c11 c12 c13 t0 t8 t9 t10 t11 t12 t13 i0 i1 i2 i3 i4 m0 m1 m2 uH uC uT uI uM ++ [(o0, .inl (cJ, 1, .inr (.inl fO)))]) s.heap.size = A at hD hX ⊢
  have hA : ∀ q : Nat, s.heap.size ≤ q → A q := fun q h => by rw [← hAe]; exact Or.inr h
  have hS0 : va_S (fun _ => False) s.heap s.heap [] := va_S.rf
  have hS : va_S A s.heap s.heap [] := va_S.rf
  have hP : va_P (dC, dI) vwCl (wN cI cZ n0 h0 h3 h4 h5 h6 c0 c8 c9 c10 c11 c12 c13 t0 t8 t9 t10 t11 t12 t13 i0 i1 i2 i3 i4 m0 m1 m2 uH uC uT uI uM ++ [(o0, .inl (cJ, 1, .inr (.inl fO)))]) s.heap := hP
  unfold p_L_nextParagraph at hok
  refine lv_aload_n hx hb dL_nextParagraph_0 rfl (lv_at hl 2 rfl) ?_
  refine lv_iconst (v := (0 : Int32)) hx hb dL_nextParagraph_1 (by decide) ?_
  refine lv_aload_n hx hb dL_nextParagraph_2 rfl (lv_at hl 0 rfl) ?_
  refine lv_iload_n hx hb dL_nextParagraph_3 rfl (lv_at hl 1 rfl) ?_
  obtain ⟨y, hc1, hok⟩ := bC_some hok
  refine cYVi (ci := 4) (q0 := 0) [.int a1] S (hK.sub (tys' := TYS cI cZ) [0, 1] rfl) hP (cP_NO hP) (cD_NO hD) hS0 (va_S0 hS0) hA hX (c_X4_nextParagraph l hlt dC dI cI cZ n0 h0 h3 h4 h5 h6 c0 c8 c9 c10 c11 c12 c13 t0 t8 t9 t10 t11 t12 t13 i0 i1 i2 i3 i4 m0 m1 m2 _ sa uH uC uT uI uM a1 hc1) (lw_V qm_L_49 qi_X4_nextParagraph qs_X4_nextParagraph qn_X4 qc_X4_nextParagraph) hd_X4_nextParagraph ⟨rfl, rfl⟩ ⟨Nat.le_of_ble_eq_true rfl, Nat.le_of_ble_eq_true rfl⟩ ⟨Nat.le_of_ble_eq_true rfl, Nat.le_of_ble_eq_true rfl⟩ rfl rfl rfl hl.1 (Nat.le_of_ble_eq_true rfl) rfl dL_nextParagraph_4 (fun E ce q9 H1 locs1 hz hS1 hce hcv hcl => ?_) (fun v H locs hz hP hS => ?_)
  · have hPx := va_Pkept hP (fun q hq hn => hS1.2.1 q hq hn)
    have hS1 : va_S A s.heap H1 locs1 := va_S0 hS1
    rw [hz] at hok
    change (if E = xIOB then _ else _) = some z at hok
    by_cases hE : E = xIOB
    · have hok2 := Option.some.inj (ip hok hE)
      subst hE
      subst hok2
      refine vx_catch hown [] ⟨0, 9, 12, 19⟩ [] (hT.trans rfl) (fun z hz => absurd hz List.not_mem_nil) rfl (by decide) (hts _ qk_L_19) (va_Nw.use rfl hX.2.2.2.2.1) hce hcv hcl ?_
      refine lv_astore_n (lv' := [(3, .ref q9), (0, .ref n0), (1, .int a1), (2, .ref o0)]) hx hb dL_nextParagraph_12 rfl hl (by decide) rfl (fun ls hl => ?_)
      refine lv_iconst (v := (1 : Int32)) hx hb dL_nextParagraph_13 (by decide) ?_
      exact eWi S hr hlk rfl hPx hS1 (Nat.le_of_ble_eq_true rfl) (Nat.le_of_ble_eq_true rfl) dL_nextParagraph_14
    · have hok := iq hok hE
      cases hok
  · have hS : va_S A s.heap H locs := va_S0 hS
    rw [hz] at hok
    change some ((0 : Int32), vp_updL fO 0 v.toInt64) = some z at hok
    refine lv_i2l (v := v.toInt64) hx hb dL_nextParagraph_7 rfl ?_
    refine va_lastK hx hb hK hP hD hS 28 2 rfl rfl (j := 0) (by decide) (vp_inK (by decide)) dL_nextParagraph_8 (fun H locs hP _ hS => ?_)
    have hP : va_P (dC, dI) vwCl (wN cI cZ n0 h0 h3 h4 h5 h6 c0 c8 c9 c10 c11 c12 c13 t0 t8 t9 t10 t11 t12 t13 i0 i1 i2 i3 i4 m0 m1 m2 uH uC uT uI uM ++ [(o0, .inl (cJ, 1, .inr (.inl (vp_updL fO 0 v.toInt64))))]) H := hP
    refine lv_goto (tgt := 15) hx hb dL_nextParagraph_9 (by decide) ?_
    refine lv_iconst (v := (0 : Int32)) hx hb dL_nextParagraph_15 (by decide) ?_
    have hok := Option.some.inj hok
    subst hok
    exact eWi S hr hlk rfl hP hS (Nat.le_of_ble_eq_true rfl) (Nat.le_of_ble_eq_true rfl) dL_nextParagraph_16
theorem hd_L_topicOf : yL_topicOf.cls ≠ "java/lang/invoke/MethodHandle" ∧ yL_topicOf.cls ≠ "java/lang/invoke/VarHandle" ∧ (parseMethodDescriptor yL_topicOf.desc).map (fun d => d.parameters.length) = some 4 := by decide +kernel
def p_L_topicOf (uH : tX1) (uC : tX0) (uT : tX0) (uI : tX2) (uM : tX3) (fO : Nat → Int64) (a1 : Int32) (a2 : Int32) : Option (Int32 × (Nat → Int64)) := bC (p_X4_topicOf uH uC uT uI uM a1 a2) (fun v => some ((0 : Int32), vp_updL fO 0 v.toInt64)) (fun E => if E = xIOB then some ((1 : Int32), fO) else none)
set_option maxHeartbeats 4000000 in
set_option maxRecDepth 100000 in
theorem c_L_topicOf (l : Launch) (hlt : l.stackTraces = false) (dC : Nat → ClassId) (dI : Nat → Nat → Nat) (cI cZ cJ : ClassId) (n0 h0 h3 h4 h5 h6 c0 c8 c9 c10 c11 c12 c13 t0 t8 t9 t10 t11 t12 t13 i0 i1 i2 i3 i4 m0 m1 m2 o0 : Nat) (sz : Nat) (sa : Nat → Nat) (uH : tX1) (uC : tX0) (uT : tX0) (uI : tX2) (uM : tX3) (fO : Nat → Int64) (a1 : Int32) (a2 : Int32) {z : (Int32 × (Nat → Int64))} (hok : p_L_topicOf uH uC uT uI uM fO a1 a2 = some z) : Met l yL_topicOf (Cond.codeWith yL_topicOf cL_topicOf 5 (some .int) [(0, 10, 13, 19)] :: lw_all) { frames := 9, cells := 2, slots := 12, locals := 155 } (prH (dC, dI) vwCl (TYJ cI cZ cJ) (wN cI cZ n0 h0 h3 h4 h5 h6 c0 c8 c9 c10 c11 c12 c13 t0 t8 t9 t10 t11 t12 t13 i0 i1 i2 i3 i4 m0 m1 m2 uH uC uT uI uM ++ [(o0, .inl (cJ, 1, .inr (.inl fO)))]) sz sa [.ref n0, .int a1, .int a2, .ref o0]) (va_Qi (fun (r : Int32) (_ : Unit) => r = z.1) (fun _ t => va_P (dC, dI) vwCl (wN cI cZ n0 h0 h3 h4 h5 h6 c0 c8 c9 c10 c11 c12 c13 t0 t8 t9 t10 t11 t12 t13 i0 i1 i2 i3 i4 m0 m1 m2 uH uC uT uI uM ++ [(o0, .inl (cJ, 1, .inr (.inl z.2)))]) t.heap) (va_A (wN cI cZ n0 h0 h3 h4 h5 h6 c0 c8 c9 c10 c11 c12 c13 t0 t8 t9 t10 t11 t12 t13 i0 i1 i2 i3 i4 m0 m1 m2 uH uC uT uI uM ++ [(o0, .inl (cJ, 1, .inr (.inl fO)))]) sz)) 2 12 (va_A (wN cI cZ n0 h0 h3 h4 h5 h6 c0 c8 c9 c10 c11 c12 c13 t0 t8 t9 t10 t11 t12 t13 i0 i1 i2 i3 i4 m0 m1 m2 uH uC uT uI uM ++ [(o0, .inl (cJ, 1, .inr (.inl fO)))]) sz) := by
  refine oH (by decide) (Nat.le_of_ble_eq_true rfl) ?_
  intro p e s m args below meth c S hr hlk hT hB ls hl
  have hx := S.1
  have hb := S.2.1
  have hown : s.vm.findClass RL = some m.cls := S.2.2.2.1
  have hts := S.2.2.2.2
  have S : CallFix p m c cL_topicOf 5 s args lw_all RL := S
  have hl : lv_has ls 5 [(0, .ref n0), (1, .int a1), (2, .int a2), (3, .ref o0)] := hl
  obtain ⟨hsz, hP, hK, hD0, hX, hxn⟩ := hB
  subst hsz
  have hD := hD0.self (sz := s.heap.size)
  generalize hAe : va_A (wN cI cZ n0 h0 h3 h4 h5 h6 c0 c8 c9 c10 c11 c12 c13 t0 t8 t9 t10 t11 t12 t13 i0 i1 i2 i3 i4 m0 m1 m2 uH uC uT uI uM ++ [(o0, .inl (cJ, 1, .inr (.inl fO)))]) s.heap.size = A at hD hX ⊢
  have hA : ∀ q : Nat, s.heap.size ≤ q → A q := fun q h => by rw [← hAe]; exact Or.inr h
  have hS0 : va_S (fun _ => False) s.heap s.heap [] := va_S.rf
  have hS : va_S A s.heap s.heap [] := va_S.rf
  have hP : va_P (dC, dI) vwCl (wN cI cZ n0 h0 h3 h4 h5 h6 c0 c8 c9 c10 c11 c12 c13 t0 t8 t9 t10 t11 t12 t13 i0 i1 i2 i3 i4 m0 m1 m2 uH uC uT uI uM ++ [(o0, .inl (cJ, 1, .inr (.inl fO)))]) s.heap := hP
  unfold p_L_topicOf at hok
  refine lv_aload_n hx hb dL_topicOf_0 rfl (lv_at hl 3 rfl) ?_
  refine lv_iconst (v := (0 : Int32)) hx hb dL_topicOf_1 (by decide) ?_
  refine lv_aload_n hx hb dL_topicOf_2 rfl (lv_at hl 0 rfl) ?_
  refine lv_iload_n hx hb dL_topicOf_3 rfl (lv_at hl 1 rfl) ?_
  refine lv_iload_n hx hb dL_topicOf_4 rfl (lv_at hl 2 rfl) ?_
  obtain ⟨y, hc1, hok⟩ := bC_some hok
  refine cYVi (ci := 4) (q0 := 0) [.int a1, .int a2] S (hK.sub (tys' := TYS cI cZ) [0, 1] rfl) hP (cP_NO hP) (cD_NO hD) hS0 (va_S0 hS0) hA hX (c_X4_topicOf l hlt dC dI cI cZ n0 h0 h3 h4 h5 h6 c0 c8 c9 c10 c11 c12 c13 t0 t8 t9 t10 t11 t12 t13 i0 i1 i2 i3 i4 m0 m1 m2 _ sa uH uC uT uI uM a1 a2 hc1) (lw_V qm_L_52 qi_X4_topicOf qs_X4_topicOf qn_X4 qc_X4_topicOf) hd_X4_topicOf ⟨rfl, rfl⟩ ⟨Nat.le_of_ble_eq_true rfl, Nat.le_of_ble_eq_true rfl⟩ ⟨Nat.le_of_ble_eq_true rfl, Nat.le_of_ble_eq_true rfl⟩ rfl rfl rfl hl.1 (Nat.le_of_ble_eq_true rfl) rfl dL_topicOf_5 (fun E ce q9 H1 locs1 hz hS1 hce hcv hcl => ?_) (fun v H locs hz hP hS => ?_)
  · have hPx := va_Pkept hP (fun q hq hn => hS1.2.1 q hq hn)
    have hS1 : va_S A s.heap H1 locs1 := va_S0 hS1
    rw [hz] at hok
    change (if E = xIOB then _ else _) = some z at hok
    by_cases hE : E = xIOB
    · have hok2 := Option.some.inj (ip hok hE)
      subst hE
      subst hok2
      refine vx_catch hown [] ⟨0, 10, 13, 19⟩ [] (hT.trans rfl) (fun z hz => absurd hz List.not_mem_nil) rfl (by decide) (hts _ qk_L_19) (va_Nw.use rfl hX.2.2.2.2.1) hce hcv hcl ?_
      refine lv_astore (lv' := [(4, .ref q9), (0, .ref n0), (1, .int a1), (2, .int a2), (3, .ref o0)]) hx hb dL_topicOf_13 hl (by decide) rfl (fun ls hl => ?_)
      refine lv_iconst (v := (1 : Int32)) hx hb dL_topicOf_15 (by decide) ?_
      exact eWi S hr hlk rfl hPx hS1 (Nat.le_of_ble_eq_true rfl) (Nat.le_of_ble_eq_true rfl) dL_topicOf_16
    · have hok := iq hok hE
      cases hok
  · have hS : va_S A s.heap H locs := va_S0 hS
    rw [hz] at hok
    change some ((0 : Int32), vp_updL fO 0 v.toInt64) = some z at hok
    refine lv_i2l (v := v.toInt64) hx hb dL_topicOf_8 rfl ?_
    refine va_lastK hx hb hK hP hD hS 28 2 rfl rfl (j := 0) (by decide) (vp_inK (by decide)) dL_topicOf_9 (fun H locs hP _ hS => ?_)
    have hP : va_P (dC, dI) vwCl (wN cI cZ n0 h0 h3 h4 h5 h6 c0 c8 c9 c10 c11 c12 c13 t0 t8 t9 t10 t11 t12 t13 i0 i1 i2 i3 i4 m0 m1 m2 uH uC uT uI uM ++ [(o0, .inl (cJ, 1, .inr (.inl (vp_updL fO 0 v.toInt64))))]) H := hP
    refine lv_goto (tgt := 17) hx hb dL_topicOf_10 (by decide) ?_
    refine lv_iconst (v := (0 : Int32)) hx hb dL_topicOf_17 (by decide) ?_
    have hok := Option.some.inj hok
    subst hok
    exact eWi S hr hlk rfl hP hS (Nat.le_of_ble_eq_true rfl) (Nat.le_of_ble_eq_true rfl) dL_topicOf_18
theorem hd_L_thrillOf : yL_thrillOf.cls ≠ "java/lang/invoke/MethodHandle" ∧ yL_thrillOf.cls ≠ "java/lang/invoke/VarHandle" ∧ (parseMethodDescriptor yL_thrillOf.desc).map (fun d => d.parameters.length) = some 4 := by decide +kernel
def p_L_thrillOf (uH : tX1) (uC : tX0) (uT : tX0) (uI : tX2) (uM : tX3) (fO : Nat → Int64) (a1 : Int32) (a2 : Int32) : Option (Int32 × (Nat → Int64)) := bC (p_X4_thrillOf uH uC uT uI uM a1 a2) (fun v => some ((0 : Int32), vp_updL fO 0 v.toInt64)) (fun E => if E = xIOB then some ((1 : Int32), fO) else none)
set_option maxHeartbeats 4000000 in
set_option maxRecDepth 100000 in
theorem c_L_thrillOf (l : Launch) (hlt : l.stackTraces = false) (dC : Nat → ClassId) (dI : Nat → Nat → Nat) (cI cZ cJ : ClassId) (n0 h0 h3 h4 h5 h6 c0 c8 c9 c10 c11 c12 c13 t0 t8 t9 t10 t11 t12 t13 i0 i1 i2 i3 i4 m0 m1 m2 o0 : Nat) (sz : Nat) (sa : Nat → Nat) (uH : tX1) (uC : tX0) (uT : tX0) (uI : tX2) (uM : tX3) (fO : Nat → Int64) (a1 : Int32) (a2 : Int32) {z : (Int32 × (Nat → Int64))} (hok : p_L_thrillOf uH uC uT uI uM fO a1 a2 = some z) : Met l yL_thrillOf (Cond.codeWith yL_thrillOf cL_thrillOf 5 (some .int) [(0, 10, 13, 19)] :: lw_all) { frames := 9, cells := 2, slots := 12, locals := 155 } (prH (dC, dI) vwCl (TYJ cI cZ cJ) (wN cI cZ n0 h0 h3 h4 h5 h6 c0 c8 c9 c10 c11 c12 c13 t0 t8 t9 t10 t11 t12 t13 i0 i1 i2 i3 i4 m0 m1 m2 uH uC uT uI uM ++ [(o0, .inl (cJ, 1, .inr (.inl fO)))]) sz sa [.ref n0, .int a1, .int a2, .ref o0]) (va_Qi (fun (r : Int32) (_ : Unit) => r = z.1) (fun _ t => va_P (dC, dI) vwCl (wN cI cZ n0 h0 h3 h4 h5 h6 c0 c8 c9 c10 c11 c12 c13 t0 t8 t9 t10 t11 t12 t13 i0 i1 i2 i3 i4 m0 m1 m2 uH uC uT uI uM ++ [(o0, .inl (cJ, 1, .inr (.inl z.2)))]) t.heap) (va_A (wN cI cZ n0 h0 h3 h4 h5 h6 c0 c8 c9 c10 c11 c12 c13 t0 t8 t9 t10 t11 t12 t13 i0 i1 i2 i3 i4 m0 m1 m2 uH uC uT uI uM ++ [(o0, .inl (cJ, 1, .inr (.inl fO)))]) sz)) 2 12 (va_A (wN cI cZ n0 h0 h3 h4 h5 h6 c0 c8 c9 c10 c11 c12 c13 t0 t8 t9 t10 t11 t12 t13 i0 i1 i2 i3 i4 m0 m1 m2 uH uC uT uI uM ++ [(o0, .inl (cJ, 1, .inr (.inl fO)))]) sz) := by
  refine oH (by decide) (Nat.le_of_ble_eq_true rfl) ?_
  intro p e s m args below meth c S hr hlk hT hB ls hl
  have hx := S.1
  have hb := S.2.1
  have hown : s.vm.findClass RL = some m.cls := S.2.2.2.1
  have hts := S.2.2.2.2
  have S : CallFix p m c cL_thrillOf 5 s args lw_all RL := S
  have hl : lv_has ls 5 [(0, .ref n0), (1, .int a1), (2, .int a2), (3, .ref o0)] := hl
  obtain ⟨hsz, hP, hK, hD0, hX, hxn⟩ := hB
  subst hsz
  have hD := hD0.self (sz := s.heap.size)
  generalize hAe : va_A (wN cI cZ n0 h0 h3 h4 h5 h6 c0 c8 c9 c10 c11 c12 c13 t0 t8 t9 t10 t11 t12 t13 i0 i1 i2 i3 i4 m0 m1 m2 uH uC uT uI uM ++ [(o0, .inl (cJ, 1, .inr (.inl fO)))]) s.heap.size = A at hD hX ⊢
  have hA : ∀ q : Nat, s.heap.size ≤ q → A q := fun q h => by rw [← hAe]; exact Or.inr h
  have hS0 : va_S (fun _ => False) s.heap s.heap [] := va_S.rf
  have hS : va_S A s.heap s.heap [] := va_S.rf
  have hP : va_P (dC, dI) vwCl (wN cI cZ n0 h0 h3 h4 h5 h6 c0 c8 c9 c10 c11 c12 c13 t0 t8 t9 t10 t11 t12 t13 i0 i1 i2 i3 i4 m0 m1 m2 uH uC uT uI uM ++ [(o0, .inl (cJ, 1, .inr (.inl fO)))]) s.heap := hP
  unfold p_L_thrillOf at hok
  refine lv_aload_n hx hb dL_thrillOf_0 rfl (lv_at hl 3 rfl) ?_
  refine lv_iconst (v := (0 : Int32)) hx hb dL_thrillOf_1 (by decide) ?_
  refine lv_aload_n hx hb dL_thrillOf_2 rfl (lv_at hl 0 rfl) ?_
  refine lv_iload_n hx hb dL_thrillOf_3 rfl (lv_at hl 1 rfl) ?_
  refine lv_iload_n hx hb dL_thrillOf_4 rfl (lv_at hl 2 rfl) ?_
  obtain ⟨y, hc1, hok⟩ := bC_some hok
  refine cYVi (ci := 4) (q0 := 0) [.int a1, .int a2] S (hK.sub (tys' := TYS cI cZ) [0, 1] rfl) hP (cP_NO hP) (cD_NO hD) hS0 (va_S0 hS0) hA hX (c_X4_thrillOf l hlt dC dI cI cZ n0 h0 h3 h4 h5 h6 c0 c8 c9 c10 c11 c12 c13 t0 t8 t9 t10 t11 t12 t13 i0 i1 i2 i3 i4 m0 m1 m2 _ sa uH uC uT uI uM a1 a2 hc1) (lw_V qm_L_55 qi_X4_thrillOf qs_X4_thrillOf qn_X4 qc_X4_thrillOf) hd_X4_thrillOf ⟨rfl, rfl⟩ ⟨Nat.le_of_ble_eq_true rfl, Nat.le_of_ble_eq_true rfl⟩ ⟨Nat.le_of_ble_eq_true rfl, Nat.le_of_ble_eq_true rfl⟩ rfl rfl rfl hl.1 (Nat.le_of_ble_eq_true rfl) rfl dL_thrillOf_5 (fun E ce q9 H1 locs1 hz hS1 hce hcv hcl => ?_) (fun v H locs hz hP hS => ?_)
  · have hPx := va_Pkept hP (fun q hq hn => hS1.2.1 q hq hn)
    have hS1 : va_S A s.heap H1 locs1 := va_S0 hS1
    rw [hz] at hok
    change (if E = xIOB then _ else _) = some z at hok
    by_cases hE : E = xIOB
    · have hok2 := Option.some.inj (ip hok hE)
      subst hE
      subst hok2
      refine vx_catch hown [] ⟨0, 10, 13, 19⟩ [] (hT.trans rfl) (fun z hz => absurd hz List.not_mem_nil) rfl (by decide) (hts _ qk_L_19) (va_Nw.use rfl hX.2.2.2.2.1) hce hcv hcl ?_
      refine lv_astore (lv' := [(4, .ref q9), (0, .ref n0), (1, .int a1), (2, .int a2), (3, .ref o0)]) hx hb dL_thrillOf_13 hl (by decide) rfl (fun ls hl => ?_)
      refine lv_iconst (v := (1 : Int32)) hx hb dL_thrillOf_15 (by decide) ?_
      exact eWi S hr hlk rfl hPx hS1 (Nat.le_of_ble_eq_true rfl) (Nat.le_of_ble_eq_true rfl) dL_thrillOf_16
    · have hok := iq hok hE
      cases hok
  · have hS : va_S A s.heap H locs := va_S0 hS
    rw [hz] at hok
    change some ((0 : Int32), vp_updL fO 0 v.toInt64) = some z at hok
    refine lv_i2l (v := v.toInt64) hx hb dL_thrillOf_8 rfl ?_
    refine va_lastK hx hb hK hP hD hS 28 2 rfl rfl (j := 0) (by decide) (vp_inK (by decide)) dL_thrillOf_9 (fun H locs hP _ hS => ?_)
    have hP : va_P (dC, dI) vwCl (wN cI cZ n0 h0 h3 h4 h5 h6 c0 c8 c9 c10 c11 c12 c13 t0 t8 t9 t10 t11 t12 t13 i0 i1 i2 i3 i4 m0 m1 m2 uH uC uT uI uM ++ [(o0, .inl (cJ, 1, .inr (.inl (vp_updL fO 0 v.toInt64))))]) H := hP
    refine lv_goto (tgt := 17) hx hb dL_thrillOf_10 (by decide) ?_
    refine lv_iconst (v := (0 : Int32)) hx hb dL_thrillOf_17 (by decide) ?_
    have hok := Option.some.inj hok
    subst hok
    exact eWi S hr hlk rfl hP hS (Nat.le_of_ble_eq_true rfl) (Nat.le_of_ble_eq_true rfl) dL_thrillOf_18
theorem hd_L_cutOn : yL_cutOn.cls ≠ "java/lang/invoke/MethodHandle" ∧ yL_cutOn.cls ≠ "java/lang/invoke/VarHandle" ∧ (parseMethodDescriptor yL_cutOn.desc).map (fun d => d.parameters.length) = some 3 := by decide +kernel
def p_L_cutOn (uH : tX1) (uC : tX0) (uT : tX0) (uI : tX2) (uM : tX3) (fO : Nat → Int64) (a1 : Int32) : Option (Int32 × (Nat → Int64)) := bC (p_X4_cutOn uH uC uT uI uM a1) (fun v => some ((0 : Int32), vp_updL fO 0 v.toInt64)) (fun E => if E = xIOB then some ((1 : Int32), fO) else none)
set_option maxHeartbeats 4000000 in
set_option maxRecDepth 100000 in
theorem c_L_cutOn (l : Launch) (hlt : l.stackTraces = false) (dC : Nat → ClassId) (dI : Nat → Nat → Nat) (cI cZ cJ : ClassId) (n0 h0 h3 h4 h5 h6 c0 c8 c9 c10 c11 c12 c13 t0 t8 t9 t10 t11 t12 t13 i0 i1 i2 i3 i4 m0 m1 m2 o0 : Nat) (sz : Nat) (sa : Nat → Nat) (uH : tX1) (uC : tX0) (uT : tX0) (uI : tX2) (uM : tX3) (fO : Nat → Int64) (a1 : Int32) {z : (Int32 × (Nat → Int64))} (hok : p_L_cutOn uH uC uT uI uM fO a1 = some z) : Met l yL_cutOn (Cond.codeWith yL_cutOn cL_cutOn 4 (some .int) [(0, 9, 12, 19)] :: lw_all) { frames := 8, cells := 1, slots := 6, locals := 132 } (prH (dC, dI) vwCl (TYJ cI cZ cJ) (wN cI cZ n0 h0 h3 h4 h5 h6 c0 c8 c9 c10 c11 c12 c13 t0 t8 t9 t10 t11 t12 t13 i0 i1 i2 i3 i4 m0 m1 m2 uH uC uT uI uM ++ [(o0, .inl (cJ, 1, .inr (.inl fO)))]) sz sa [.ref n0, .int a1, .ref o0]) (va_Qi (fun (r : Int32) (_ : Unit) => r = z.1) (fun _ t => va_P (dC, dI) vwCl (wN cI cZ n0 h0 h3 h4 h5 h6 c0 c8 c9 c10 c11 c12 c13 t0 t8 t9 t10 t11 t12 t13 i0 i1 i2 i3 i4 m0 m1 m2 uH uC uT uI uM ++ [(o0, .inl (cJ, 1, .inr (.inl z.2)))]) t.heap) (va_A (wN cI cZ n0 h0 h3 h4 h5 h6 c0 c8 c9 c10 c11 c12 c13 t0 t8 t9 t10 t11 t12 t13 i0 i1 i2 i3 i4 m0 m1 m2 uH uC uT uI uM ++ [(o0, .inl (cJ, 1, .inr (.inl fO)))]) sz)) 1 6 (va_A (wN cI cZ n0 h0 h3 h4 h5 h6 c0 c8 c9 c10 c11 c12 c13 t0 t8 t9 t10 t11 t12 t13 i0 i1 i2 i3 i4 m0 m1 m2 uH uC uT uI uM ++ [(o0, .inl (cJ, 1, .inr (.inl fO)))]) sz) := by
  refine oH (by decide) (Nat.le_of_ble_eq_true rfl) ?_
  intro p e s m args below meth c S hr hlk hT hB ls hl
  have hx := S.1
  have hb := S.2.1
  have hown : s.vm.findClass RL = some m.cls := S.2.2.2.1
  have hts := S.2.2.2.2
  have S : CallFix p m c cL_cutOn 4 s args lw_all RL := S
  have hl : lv_has ls 4 [(0, .ref n0), (1, .int a1), (2, .ref o0)] := hl
  obtain ⟨hsz, hP, hK, hD0, hX, hxn⟩ := hB
  subst hsz
  have hD := hD0.self (sz := s.heap.size)
  generalize hAe : va_A (wN cI cZ n0 h0 h3 h4 h5 h6 c0 c8 c9 c10 c11 c12 c13 t0 t8 t9 t10 t11 t12 t13 i0 i1 i2 i3 i4 m0 m1 m2 uH uC uT uI uM ++ [(o0, .inl (cJ, 1, .inr (.inl fO)))]) s.heap.size = A at hD hX ⊢
  have hA : ∀ q : Nat, s.heap.size ≤ q → A q := fun q h => by rw [← hAe]; exact Or.inr h
  have hS0 : va_S (fun _ => False) s.heap s.heap [] := va_S.rf
  have hS : va_S A s.heap s.heap [] := va_S.rf
  have hP : va_P (dC, dI) vwCl (wN cI cZ n0 h0 h3 h4 h5 h6 c0 c8 c9 c10 c11 c12 c13 t0 t8 t9 t10 t11 t12 t13 i0 i1 i2 i3 i4 m0 m1 m2 uH uC uT uI uM ++ [(o0, .inl (cJ, 1, .inr (.inl fO)))]) s.heap := hP
  unfold p_L_cutOn at hok
  refine lv_aload_n hx hb dL_cutOn_0 rfl (lv_at hl 2 rfl) ?_
  refine lv_iconst (v := (0 : Int32)) hx hb dL_cutOn_1 (by decide) ?_
  refine lv_aload_n hx hb dL_cutOn_2 rfl (lv_at hl 0 rfl) ?_
  refine lv_iload_n hx hb dL_cutOn_3 rfl (lv_at hl 1 rfl) ?_
  obtain ⟨y, hc1, hok⟩ := bC_some hok
  refine cYVi (ci := 4) (q0 := 0) [.int a1] S (hK.sub (tys' := TYS cI cZ) [0, 1] rfl) hP (cP_NO hP) (cD_NO hD) hS0 (va_S0 hS0) hA hX (c_X4_cutOn l hlt dC dI cI cZ n0 h0 h3 h4 h5 h6 c0 c8 c9 c10 c11 c12 c13 t0 t8 t9 t10 t11 t12 t13 i0 i1 i2 i3 i4 m0 m1 m2 _ sa uH uC uT uI uM a1 hc1) (lw_V qm_L_58 qi_X4_cutOn qs_X4_cutOn qn_X4 qc_X4_cutOn) hd_X4_cutOn ⟨rfl, rfl⟩ ⟨Nat.le_of_ble_eq_true rfl, Nat.le_of_ble_eq_true rfl⟩ ⟨Nat.le_of_ble_eq_true rfl, Nat.le_of_ble_eq_true rfl⟩ rfl rfl rfl hl.1 (Nat.le_of_ble_eq_true rfl) rfl dL_cutOn_4 (fun E ce q9 H1 locs1 hz hS1 hce hcv hcl => ?_) (fun v H locs hz hP hS => ?_)
  · have hPx := va_Pkept hP (fun q hq hn => hS1.2.1 q hq hn)
    have hS1 : va_S A s.heap H1 locs1 := va_S0 hS1
    rw [hz] at hok
    change (if E = xIOB then _ else _) = some z at hok
    by_cases hE : E = xIOB
    · have hok2 := Option.some.inj (ip hok hE)
      subst hE
      subst hok2
      refine vx_catch hown [] ⟨0, 9, 12, 19⟩ [] (hT.trans rfl) (fun z hz => absurd hz List.not_mem_nil) rfl (by decide) (hts _ qk_L_19) (va_Nw.use rfl hX.2.2.2.2.1) hce hcv hcl ?_
      refine lv_astore_n (lv' := [(3, .ref q9), (0, .ref n0), (1, .int a1), (2, .ref o0)]) hx hb dL_cutOn_12 rfl hl (by decide) rfl (fun ls hl => ?_)
      refine lv_iconst (v := (1 : Int32)) hx hb dL_cutOn_13 (by decide) ?_
      exact eWi S hr hlk rfl hPx hS1 (Nat.le_of_ble_eq_true rfl) (Nat.le_of_ble_eq_true rfl) dL_cutOn_14
    · have hok := iq hok hE
      cases hok
  · have hS : va_S A s.heap H locs := va_S0 hS
    rw [hz] at hok
    change some ((0 : Int32), vp_updL fO 0 v.toInt64) = some z at hok
    refine lv_i2l (v := v.toInt64) hx hb dL_cutOn_7 rfl ?_
    refine va_lastK hx hb hK hP hD hS 28 2 rfl rfl (j := 0) (by decide) (vp_inK (by decide)) dL_cutOn_8 (fun H locs hP _ hS => ?_)
    have hP : va_P (dC, dI) vwCl (wN cI cZ n0 h0 h3 h4 h5 h6 c0 c8 c9 c10 c11 c12 c13 t0 t8 t9 t10 t11 t12 t13 i0 i1 i2 i3 i4 m0 m1 m2 uH uC uT uI uM ++ [(o0, .inl (cJ, 1, .inr (.inl (vp_updL fO 0 v.toInt64))))]) H := hP
    refine lv_goto (tgt := 15) hx hb dL_cutOn_9 (by decide) ?_
    refine lv_iconst (v := (0 : Int32)) hx hb dL_cutOn_15 (by decide) ?_
    have hok := Option.some.inj hok
    subst hok
    exact eWi S hr hlk rfl hP hS (Nat.le_of_ble_eq_true rfl) (Nat.le_of_ble_eq_true rfl) dL_cutOn_16
theorem hd_L_isForbidden : yL_isForbidden.cls ≠ "java/lang/invoke/MethodHandle" ∧ yL_isForbidden.cls ≠ "java/lang/invoke/VarHandle" ∧ (parseMethodDescriptor yL_isForbidden.desc).map (fun d => d.parameters.length) = some 3 := by decide +kernel
def p_L_isForbidden (uH : tX1) (uC : tX0) (uT : tX0) (uI : tX2) (uM : tX3) (fO : Nat → Int64) (a1 : Int32) : Option (Int32 × (Nat → Int64)) := bC (p_X4_isForbidden uH uC uT uI uM a1) (fun v => if v = 0 then some ((0 : Int32), vp_updL fO 0 (0 : Int64)) else some ((0 : Int32), vp_updL fO 0 (1 : Int64))) (fun E => if E = xIOB then some ((1 : Int32), fO) else none)
set_option maxHeartbeats 4000000 in
set_option maxRecDepth 100000 in
theorem c_L_isForbidden (l : Launch) (hlt : l.stackTraces = false) (dC : Nat → ClassId) (dI : Nat → Nat → Nat) (cI cZ cJ : ClassId) (n0 h0 h3 h4 h5 h6 c0 c8 c9 c10 c11 c12 c13 t0 t8 t9 t10 t11 t12 t13 i0 i1 i2 i3 i4 m0 m1 m2 o0 : Nat) (sz : Nat) (sa : Nat → Nat) (uH : tX1) (uC : tX0) (uT : tX0) (uI : tX2) (uM : tX3) (fO : Nat → Int64) (a1 : Int32) {z : (Int32 × (Nat → Int64))} (hok : p_L_isForbidden uH uC uT uI uM fO a1 = some z) : Met l yL_isForbidden (Cond.codeWith yL_isForbidden cL_isForbidden 4 (some .int) [(0, 16, 19, 19)] :: lw_all) { frames := 8, cells := 1, slots := 6, locals := 131 } (prH (dC, dI) vwCl (TYJ cI cZ cJ) (wN cI cZ n0 h0 h3 h4 h5 h6 c0 c8 c9 c10 c11 c12 c13 t0 t8 t9 t10 t11 t12 t13 i0 i1 i2 i3 i4 m0 m1 m2 uH uC uT uI uM ++ [(o0, .inl (cJ, 1, .inr (.inl fO)))]) sz sa [.ref n0, .int a1, .ref o0]) (va_Qi (fun (r : Int32) (_ : Unit) => r = z.1) (fun _ t => va_P (dC, dI) vwCl (wN cI cZ n0 h0 h3 h4 h5 h6 c0 c8 c9 c10 c11 c12 c13 t0 t8 t9 t10 t11 t12 t13 i0 i1 i2 i3 i4 m0 m1 m2 uH uC uT uI uM ++ [(o0, .inl (cJ, 1, .inr (.inl z.2)))]) t.heap) (va_A (wN cI cZ n0 h0 h3 h4 h5 h6 c0 c8 c9 c10 c11 c12 c13 t0 t8 t9 t10 t11 t12 t13 i0 i1 i2 i3 i4 m0 m1 m2 uH uC uT uI uM ++ [(o0, .inl (cJ, 1, .inr (.inl fO)))]) sz)) 1 6 (va_A (wN cI cZ n0 h0 h3 h4 h5 h6 c0 c8 c9 c10 c11 c12 c13 t0 t8 t9 t10 t11 t12 t13 i0 i1 i2 i3 i4 m0 m1 m2 uH uC uT uI uM ++ [(o0, .inl (cJ, 1, .inr (.inl fO)))]) sz) := by
  refine oH (by decide) (Nat.le_of_ble_eq_true rfl) ?_
  intro p e s m args below meth c S hr hlk hT hB ls hl
  have hx := S.1
  have hb := S.2.1
  have hown : s.vm.findClass RL = some m.cls := S.2.2.2.1
  have hts := S.2.2.2.2
  have S : CallFix p m c cL_isForbidden 4 s args lw_all RL := S
  have hl : lv_has ls 4 [(0, .ref n0), (1, .int a1), (2, .ref o0)] := hl
  obtain ⟨hsz, hP, hK, hD0, hX, hxn⟩ := hB
  subst hsz
  have hD := hD0.self (sz := s.heap.size)
  generalize hAe : va_A (wN cI cZ n0 h0 h3 h4 h5 h6 c0 c8 c9 c10 c11 c12 c13 t0 t8 t9 t10 t11 t12 t13 i0 i1 i2 i3 i4 m0 m1 m2 uH uC uT uI uM ++ [(o0, .inl (cJ, 1, .inr (.inl fO)))]) s.heap.size = A at hD hX ⊢
  have hA : ∀ q : Nat, s.heap.size ≤ q → A q := fun q h => by rw [← hAe]; exact Or.inr h
  have hS0 : va_S (fun _ => False) s.heap s.heap [] := va_S.rf
  have hS : va_S A s.heap s.heap [] := va_S.rf
  have hP : va_P (dC, dI) vwCl (wN cI cZ n0 h0 h3 h4 h5 h6 c0 c8 c9 c10 c11 c12 c13 t0 t8 t9 t10 t11 t12 t13 i0 i1 i2 i3 i4 m0 m1 m2 uH uC uT uI uM ++ [(o0, .inl (cJ, 1, .inr (.inl fO)))]) s.heap := hP
  unfold p_L_isForbidden at hok
  refine lv_aload_n hx hb dL_isForbidden_0 rfl (lv_at hl 2 rfl) ?_
  refine lv_iconst (v := (0 : Int32)) hx hb dL_isForbidden_1 (by decide) ?_
  refine lv_aload_n hx hb dL_isForbidden_2 rfl (lv_at hl 0 rfl) ?_
  refine lv_iload_n hx hb dL_isForbidden_3 rfl (lv_at hl 1 rfl) ?_
  obtain ⟨y, hc1, hok⟩ := bC_some hok
  refine cYVi (ci := 4) (q0 := 0) [.int a1] S (hK.sub (tys' := TYS cI cZ) [0, 1] rfl) hP (cP_NO hP) (cD_NO hD) hS0 (va_S0 hS0) hA hX (c_X4_isForbidden l hlt dC dI cI cZ n0 h0 h3 h4 h5 h6 c0 c8 c9 c10 c11 c12 c13 t0 t8 t9 t10 t11 t12 t13 i0 i1 i2 i3 i4 m0 m1 m2 _ sa uH uC uT uI uM a1 hc1) (lw_V qm_L_61 qi_X4_isForbidden qs_X4_isForbidden qn_X4 qc_X4_isForbidden) hd_X4_isForbidden ⟨rfl, rfl⟩ ⟨Nat.le_of_ble_eq_true rfl, Nat.le_of_ble_eq_true rfl⟩ ⟨Nat.le_of_ble_eq_true rfl, Nat.le_of_ble_eq_true rfl⟩ rfl rfl rfl hl.1 (Nat.le_of_ble_eq_true rfl) rfl dL_isForbidden_4 (fun E ce q9 H1 locs1 hz hS1 hce hcv hcl => ?_) (fun v H locs hz hP hS => ?_)
  · have hPx := va_Pkept hP (fun q hq hn => hS1.2.1 q hq hn)
    have hS1 : va_S A s.heap H1 locs1 := va_S0 hS1
    rw [hz] at hok
    change (if E = xIOB then _ else _) = some z at hok
    by_cases hE : E = xIOB
    · have hok2 := Option.some.inj (ip hok hE)
      subst hE
      subst hok2
      refine vx_catch hown [] ⟨0, 16, 19, 19⟩ [] (hT.trans rfl) (fun z hz => absurd hz List.not_mem_nil) rfl (by decide) (hts _ qk_L_19) (va_Nw.use rfl hX.2.2.2.2.1) hce hcv hcl ?_
      refine lv_astore_n (lv' := [(3, .ref q9), (0, .ref n0), (1, .int a1), (2, .ref o0)]) hx hb dL_isForbidden_19 rfl hl (by decide) rfl (fun ls hl => ?_)
      refine lv_iconst (v := (1 : Int32)) hx hb dL_isForbidden_20 (by decide) ?_
      exact eWi S hr hlk rfl hPx hS1 (Nat.le_of_ble_eq_true rfl) (Nat.le_of_ble_eq_true rfl) dL_isForbidden_21
    · have hok := iq hok hE
      cases hok
  · have hS : va_S A s.heap H locs := va_S0 hS
    rw [hz] at hok
    change (if v = 0 then _ else _) = some z at hok
    refine lv_if_eq (tgt := 14) hx hb dL_isForbidden_7 (by decide) (fun hc => ?_) (fun hc => ?_)
    · have hok := ip hok hc
      refine lv_lconst (v := (0 : Int64)) hx hb dL_isForbidden_14 (by decide) ?_
      refine va_lastK hx hb hK hP hD hS 28 2 rfl rfl (j := 0) (by decide) (vp_inK (by decide)) dL_isForbidden_15 (fun H locs hP _ hS => ?_)
      have hP : va_P (dC, dI) vwCl (wN cI cZ n0 h0 h3 h4 h5 h6 c0 c8 c9 c10 c11 c12 c13 t0 t8 t9 t10 t11 t12 t13 i0 i1 i2 i3 i4 m0 m1 m2 uH uC uT uI uM ++ [(o0, .inl (cJ, 1, .inr (.inl (vp_updL fO 0 (0 : Int64)))))]) H := hP
      refine lv_goto (tgt := 22) hx hb dL_isForbidden_16 (by decide) ?_
      refine lv_iconst (v := (0 : Int32)) hx hb dL_isForbidden_22 (by decide) ?_
      have hok := Option.some.inj hok
      subst hok
      exact eWi S hr hlk rfl hP hS (Nat.le_of_ble_eq_true rfl) (Nat.le_of_ble_eq_true rfl) dL_isForbidden_23
    · have hok := iq hok hc
      refine lv_lconst (v := (1 : Int64)) hx hb dL_isForbidden_10 (by decide) ?_
      refine lv_goto (tgt := 15) hx hb dL_isForbidden_11 (by decide) ?_
      refine va_lastK hx hb hK hP hD hS 28 2 rfl rfl (j := 0) (by decide) (vp_inK (by decide)) dL_isForbidden_15 (fun H locs hP _ hS => ?_)
      have hP : va_P (dC, dI) vwCl (wN cI cZ n0 h0 h3 h4 h5 h6 c0 c8 c9 c10 c11 c12 c13 t0 t8 t9 t10 t11 t12 t13 i0 i1 i2 i3 i4 m0 m1 m2 uH uC uT uI uM ++ [(o0, .inl (cJ, 1, .inr (.inl (vp_updL fO 0 (1 : Int64)))))]) H := hP
      refine lv_goto (tgt := 22) hx hb dL_isForbidden_16 (by decide) ?_
      refine lv_iconst (v := (0 : Int32)) hx hb dL_isForbidden_22 (by decide) ?_
      have hok := Option.some.inj hok
      subst hok
      exact eWi S hr hlk rfl hP hS (Nat.le_of_ble_eq_true rfl) (Nat.le_of_ble_eq_true rfl) dL_isForbidden_23
theorem hd_L_toCome : yL_toCome.cls ≠ "java/lang/invoke/MethodHandle" ∧ yL_toCome.cls ≠ "java/lang/invoke/VarHandle" ∧ (parseMethodDescriptor yL_toCome.desc).map (fun d => d.parameters.length) = some 3 := by decide +kernel
def p_L_toCome (uH : tX1) (uC : tX0) (uT : tX0) (uI : tX2) (uM : tX3) (fO : Nat → Int64) (a1 : Int32) : Option (Int32 × (Nat → Int64)) := bC (p_X4_toCome uH uC uT uI uM a1) (fun v => some ((0 : Int32), vp_updL fO 0 v.toInt64)) (fun E => if E = xIOB then some ((1 : Int32), fO) else none)
set_option maxHeartbeats 4000000 in
set_option maxRecDepth 100000 in
theorem c_L_toCome (l : Launch) (hlt : l.stackTraces = false) (dC : Nat → ClassId) (dI : Nat → Nat → Nat) (cI cZ cJ : ClassId) (n0 h0 h3 h4 h5 h6 c0 c8 c9 c10 c11 c12 c13 t0 t8 t9 t10 t11 t12 t13 i0 i1 i2 i3 i4 m0 m1 m2 o0 : Nat) (sz : Nat) (sa : Nat → Nat) (uH : tX1) (uC : tX0) (uT : tX0) (uI : tX2) (uM : tX3) (fO : Nat → Int64) (a1 : Int32) {z : (Int32 × (Nat → Int64))} (hok : p_L_toCome uH uC uT uI uM fO a1 = some z) : Met l yL_toCome (Cond.codeWith yL_toCome cL_toCome 4 (some .int) [(0, 9, 12, 19)] :: lw_all) { frames := 8, cells := 1, slots := 6, locals := 131 } (prH (dC, dI) vwCl (TYJ cI cZ cJ) (wN cI cZ n0 h0 h3 h4 h5 h6 c0 c8 c9 c10 c11 c12 c13 t0 t8 t9 t10 t11 t12 t13 i0 i1 i2 i3 i4 m0 m1 m2 uH uC uT uI uM ++ [(o0, .inl (cJ, 1, .inr (.inl fO)))]) sz sa [.ref n0, .int a1, .ref o0]) (va_Qi (fun (r : Int32) (_ : Unit) => r = z.1) (fun _ t => va_P (dC, dI) vwCl (wN cI cZ n0 h0 h3 h4 h5 h6 c0 c8 c9 c10 c11 c12 c13 t0 t8 t9 t10 t11 t12 t13 i0 i1 i2 i3 i4 m0 m1 m2 uH uC uT uI uM ++ [(o0, .inl (cJ, 1, .inr (.inl z.2)))]) t.heap) (va_A (wN cI cZ n0 h0 h3 h4 h5 h6 c0 c8 c9 c10 c11 c12 c13 t0 t8 t9 t10 t11 t12 t13 i0 i1 i2 i3 i4 m0 m1 m2 uH uC uT uI uM ++ [(o0, .inl (cJ, 1, .inr (.inl fO)))]) sz)) 1 6 (va_A (wN cI cZ n0 h0 h3 h4 h5 h6 c0 c8 c9 c10 c11 c12 c13 t0 t8 t9 t10 t11 t12 t13 i0 i1 i2 i3 i4 m0 m1 m2 uH uC uT uI uM ++ [(o0, .inl (cJ, 1, .inr (.inl fO)))]) sz) := by
  refine oH (by decide) (Nat.le_of_ble_eq_true rfl) ?_
  intro p e s m args below meth c S hr hlk hT hB ls hl
  have hx := S.1
  have hb := S.2.1
  have hown : s.vm.findClass RL = some m.cls := S.2.2.2.1
  have hts := S.2.2.2.2
  have S : CallFix p m c cL_toCome 4 s args lw_all RL := S
  have hl : lv_has ls 4 [(0, .ref n0), (1, .int a1), (2, .ref o0)] := hl
  obtain ⟨hsz, hP, hK, hD0, hX, hxn⟩ := hB
  subst hsz
  have hD := hD0.self (sz := s.heap.size)
  generalize hAe : va_A (wN cI cZ n0 h0 h3 h4 h5 h6 c0 c8 c9 c10 c11 c12 c13 t0 t8 t9 t10 t11 t12 t13 i0 i1 i2 i3 i4 m0 m1 m2 uH uC uT uI uM ++ [(o0, .inl (cJ, 1, .inr (.inl fO)))]) s.heap.size = A at hD hX ⊢
  have hA : ∀ q : Nat, s.heap.size ≤ q → A q := fun q h => by rw [← hAe]; exact Or.inr h
  have hS0 : va_S (fun _ => False) s.heap s.heap [] := va_S.rf
  have hS : va_S A s.heap s.heap [] := va_S.rf
  have hP : va_P (dC, dI) vwCl (wN cI cZ n0 h0 h3 h4 h5 h6 c0 c8 c9 c10 c11 c12 c13 t0 t8 t9 t10 t11 t12 t13 i0 i1 i2 i3 i4 m0 m1 m2 uH uC uT uI uM ++ [(o0, .inl (cJ, 1, .inr (.inl fO)))]) s.heap := hP
  unfold p_L_toCome at hok
  refine lv_aload_n hx hb dL_toCome_0 rfl (lv_at hl 2 rfl) ?_
  refine lv_iconst (v := (0 : Int32)) hx hb dL_toCome_1 (by decide) ?_
  refine lv_aload_n hx hb dL_toCome_2 rfl (lv_at hl 0 rfl) ?_
  refine lv_iload_n hx hb dL_toCome_3 rfl (lv_at hl 1 rfl) ?_
  obtain ⟨y, hc1, hok⟩ := bC_some hok
  refine cYVi (ci := 4) (q0 := 0) [.int a1] S (hK.sub (tys' := TYS cI cZ) [0, 1] rfl) hP (cP_NO hP) (cD_NO hD) hS0 (va_S0 hS0) hA hX (c_X4_toCome l hlt dC dI cI cZ n0 h0 h3 h4 h5 h6 c0 c8 c9 c10 c11 c12 c13 t0 t8 t9 t10 t11 t12 t13 i0 i1 i2 i3 i4 m0 m1 m2 _ sa uH uC uT uI uM a1 hc1) (lw_V qm_L_64 qi_X4_toCome qs_X4_toCome qn_X4 qc_X4_toCome) hd_X4_toCome ⟨rfl, rfl⟩ ⟨Nat.le_of_ble_eq_true rfl, Nat.le_of_ble_eq_true rfl⟩ ⟨Nat.le_of_ble_eq_true rfl, Nat.le_of_ble_eq_true rfl⟩ rfl rfl rfl hl.1 (Nat.le_of_ble_eq_true rfl) rfl dL_toCome_4 (fun E ce q9 H1 locs1 hz hS1 hce hcv hcl => ?_) (fun v H locs hz hP hS => ?_)
  · have hPx := va_Pkept hP (fun q hq hn => hS1.2.1 q hq hn)
    have hS1 : va_S A s.heap H1 locs1 := va_S0 hS1
    rw [hz] at hok
    change (if E = xIOB then _ else _) = some z at hok
    by_cases hE : E = xIOB
    · have hok2 := Option.some.inj (ip hok hE)
      subst hE
      subst hok2
      refine vx_catch hown [] ⟨0, 9, 12, 19⟩ [] (hT.trans rfl) (fun z hz => absurd hz List.not_mem_nil) rfl (by decide) (hts _ qk_L_19) (va_Nw.use rfl hX.2.2.2.2.1) hce hcv hcl ?_
      refine lv_astore_n (lv' := [(3, .ref q9), (0, .ref n0), (1, .int a1), (2, .ref o0)]) hx hb dL_toCome_12 rfl hl (by decide) rfl (fun ls hl => ?_)
      refine lv_iconst (v := (1 : Int32)) hx hb dL_toCome_13 (by decide) ?_
      exact eWi S hr hlk rfl hPx hS1 (Nat.le_of_ble_eq_true rfl) (Nat.le_of_ble_eq_true rfl) dL_toCome_14
    · have hok := iq hok hE
      cases hok
  · have hS : va_S A s.heap H locs := va_S0 hS
    rw [hz] at hok
    change some ((0 : Int32), vp_updL fO 0 v.toInt64) = some z at hok
    refine lv_i2l (v := v.toInt64) hx hb dL_toCome_7 rfl ?_
    refine va_lastK hx hb hK hP hD hS 28 2 rfl rfl (j := 0) (by decide) (vp_inK (by decide)) dL_toCome_8 (fun H locs hP _ hS => ?_)
    have hP : va_P (dC, dI) vwCl (wN cI cZ n0 h0 h3 h4 h5 h6 c0 c8 c9 c10 c11 c12 c13 t0 t8 t9 t10 t11 t12 t13 i0 i1 i2 i3 i4 m0 m1 m2 uH uC uT uI uM ++ [(o0, .inl (cJ, 1, .inr (.inl (vp_updL fO 0 v.toInt64))))]) H := hP
    refine lv_goto (tgt := 15) hx hb dL_toCome_9 (by decide) ?_
    refine lv_iconst (v := (0 : Int32)) hx hb dL_toCome_15 (by decide) ?_
    have hok := Option.some.inj hok
    subst hok
    exact eWi S hr hlk rfl hP hS (Nat.le_of_ble_eq_true rfl) (Nat.le_of_ble_eq_true rfl) dL_toCome_16
