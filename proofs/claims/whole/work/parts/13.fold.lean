theorem hd_X4_fold : yX4_fold.cls ≠ "java/lang/invoke/MethodHandle" ∧ yX4_fold.cls ≠ "java/lang/invoke/VarHandle" ∧ (parseMethodDescriptor yX4_fold.desc).map (fun d => d.parameters.length) = some 2 := by decide +kernel
def p_X4_fold (a1 : Int64) (a2 : Int32) : Option Int64 :=
  some ((a1 * (31 : Int64)) + a2.toInt64)
set_option maxHeartbeats 4000000 in
set_option maxRecDepth 100000 in
theorem c_X4_fold (l : Launch) (dC : Nat → ClassId) (dI : Nat → Nat → Nat) (cI cZ : ClassId) (a1 : Int64) (a2 : Int32) {z : Int64} (hok : p_X4_fold a1 a2 = some z) : Met l yX4_fold (Cond.code yX4_fold cX4_fold 3 (some .long) :: lw_all) { frames := 0, cells := 0, slots := 0, locals := 0 } (prR (dC, dI) vwCl (TYS cI cZ) (([] : va_W)) [.long a1, .int a2]) (vp_Sl (fun r => r = z)) 0 0 (fun _ => False) := by
  refine oM (by decide) (Nat.le_of_ble_eq_true rfl) ?_
  intro p e s m args below meth c S hr hlk hnm hB ls hl
  have hx := S.1
  have hb := S.2.1
  have hml := S.2.2.1
  have hown : s.vm.findClass RX4 = some m.cls := S.2.2.2.1
  have hts := S.2.2.2.2
  have S : CallFix p m c cX4_fold 3 s args lw_all RX4 := S
  have hl : lv_has ls 3 [(0, .long a1), (2, .int a2)] := hl
  obtain ⟨hP, hK⟩ := hB
  have hP : va_P (dC, dI) vwCl (([] : va_W)) s.heap := hP
  unfold p_X4_fold at hok
  refine lv_lload_n hx hb dX4_fold_0 rfl (lv_at hl 0 rfl) ?_
  refine lv_ldc2 (v := (31 : Int64)) hx hb hown (hts _ ql_X4_368) dX4_fold_1 ?_
  refine lv_lmul hx hb dX4_fold_4 ?_
  refine lv_iload_n hx hb dX4_fold_5 rfl (lv_at hl 1 rfl) ?_
  refine lv_i2l (v := a2.toInt64) hx hb dX4_fold_6 rfl ?_
  refine lv_ladd hx hb dX4_fold_7 ?_
  exact eRl S hr hlk (Option.some.inj hok) dX4_fold_8
theorem hd_X4_foldLift : yX4_foldLift.cls = RX4 ∧ yX4_foldLift.cls ≠ "java/lang/invoke/MethodHandle" ∧ yX4_foldLift.cls ≠ "java/lang/invoke/VarHandle" ∧ (parseMethodDescriptor yX4_foldLift.desc).map (fun d => d.parameters.length) = some 1 := by decide +kernel
def p_X4_foldLift (uH : tX1) (uC : tX0) (uT : tX0) (uI : tX2) (uM : tX3) (a1 : Int64) : Option Int64 :=
  bd (p_X4_floors uH uC uT uI uM) (fun v1 =>
  bd (p_X4_fold a1 v1) (fun v2 =>
  bd (p_X4_hours uH uC uT uI uM) (fun v3 =>
  bd (p_X4_fold v2 v3) (fun v4 =>
  bd (p_X4_liftAt uH uC uT uI uM) (fun v5 =>
  bd (p_X4_fold v4 v5) (fun v6 =>
  bd (p_X4_goes uH uC uT uI uM) (fun v7 =>
  bd (p_X4_fold v6 v7) (fun v8 =>
  bd (p_X4_calls uH uC uT uI uM) (fun v9 =>
  bd (p_X4_fold v8 v9) (fun v10 =>
  bd (p_X4_stuckFor uH uC uT uI uM) (fun v11 =>
  bd (p_X4_fold v10 v11) (fun v12 =>
  bd (p_X4_wear uH uC uT uI uM) (fun v13 =>
  bd (p_X4_fold v12 v13) (fun v14 =>
  bd (p_X4_limit uH uC uT uI uM) (fun v15 =>
  bd (p_X4_fold v14 v15) (fun v16 =>
  bd (p_X4_suspense uH uC uT uI uM) (fun v17 =>
  bd (p_X4_fold v16 v17) (fun v18 =>
  bd (p_X4_cuts uH uC uT uI uM) (fun v19 =>
  bd (p_X4_fold v18 v19) (fun v20 =>
  bd (p_X4_instalments uH uC uT uI uM) (fun v21 =>
  bd (p_X4_fold v20 v21) (fun v22 =>
  bd (p_X4_mostThrilling uH uC uT uI uM) (fun v23 =>
  bd (p_X4_fold v22 v23) (fun v24 =>
  bd (p_X4_longestWait uH uC uT uI uM) (fun v25 =>
  bd (p_X4_fold v24 v25) (fun v26 =>
  bd (p_X4_climbs uH uC uT uI uM) (fun v27 =>
  bd (p_X4_fold v26 v27) (fun v28 =>
  bd (p_X4_subscribers uH uC uT uI uM) (fun v29 =>
  bd (p_X4_fold v28 v29) (fun v30 =>
  bd (p_X4_warmest uH uC uT uI uM) (fun v31 =>
  bd (p_X4_fold v30 v31) (fun v32 =>
  bd (p_X4_kindest uH uC uT uI uM) (fun v33 =>
  bd (p_X4_fold v32 v33) (fun v34 =>
  some v34))))))))))))))))))))))))))))))))))
set_option maxHeartbeats 4000000 in
set_option maxRecDepth 100000 in
theorem c_X4_foldLift (l : Launch) (dC : Nat → ClassId) (dI : Nat → Nat → Nat) (cI cZ : ClassId) (n0 h0 h3 h4 h5 h6 c0 c8 c9 c10 c11 c12 c13 t0 t8 t9 t10 t11 t12 t13 i0 i1 i2 i3 i4 m0 m1 m2 : Nat) (uH : tX1) (uC : tX0) (uT : tX0) (uI : tX2) (uM : tX3) (a1 : Int64) {z : Int64} (hok : p_X4_foldLift uH uC uT uI uM a1 = some z) : Met l yX4_foldLift (Cond.code yX4_foldLift cX4_foldLift 5 (some .long) :: lw_all) { frames := 5, cells := 0, slots := 0, locals := 115 } (prR (dC, dI) vwCl (TYS cI cZ) (wN cI cZ n0 h0 h3 h4 h5 h6 c0 c8 c9 c10 c11 c12 c13 t0 t8 t9 t10 t11 t12 t13 i0 i1 i2 i3 i4 m0 m1 m2 uH uC uT uI uM) [.ref n0, .long a1]) (vp_Sl (fun r => r = z)) 0 0 (fun _ => False) := by
  refine oM (by decide) (Nat.le_of_ble_eq_true rfl) ?_
  intro p e s m args below meth c S hr hlk hnm hB ls hl
  have hx := S.1
  have hb := S.2.1
  have hml := S.2.2.1
  have hown : s.vm.findClass RX4 = some m.cls := S.2.2.2.1
  have hts := S.2.2.2.2
  have S : CallFix p m c cX4_foldLift 5 s args lw_all RX4 := S
  have hl : lv_has ls 5 [(0, .ref n0), (1, .long a1)] := hl
  obtain ⟨hP, hK⟩ := hB
  have hP : va_P (dC, dI) vwCl (wN cI cZ n0 h0 h3 h4 h5 h6 c0 c8 c9 c10 c11 c12 c13 t0 t8 t9 t10 t11 t12 t13 i0 i1 i2 i3 i4 m0 m1 m2 uH uC uT uI uM) s.heap := hP
  unfold p_X4_foldLift at hok
  refine lv_lload_n hx hb dX4_foldLift_0 rfl (lv_at hl 1 rfl) ?_
  refine lv_lstore_n (lv' := [(3, .long a1), (0, .ref n0), (1, .long a1)]) hx hb dX4_foldLift_1 rfl hl (by decide) rfl (fun ls hl => ?_)
  refine lv_lload_n hx hb dX4_foldLift_2 rfl (lv_at hl 0 rfl) ?_
  refine lv_aload_n hx hb dX4_foldLift_3 rfl (lv_at hl 1 rfl) ?_
  obtain ⟨v1, hc1, hok⟩ := bd_some hok
  refine cRVi (ci := 4) (q0 := 0) [] S hK hP (c_X4_floors l dC dI cI cZ n0 h0 h3 h4 h5 h6 c0 c8 c9 c10 c11 c12 c13 t0 t8 t9 t10 t11 t12 t13 i0 i1 i2 i3 i4 m0 m1 m2 uH uC uT uI uM hc1) (lw_V qm_X4_255 qi_X4_floors qs_X4_floors qn_X4 qc_X4_floors) hd_X4_floors ⟨rfl, rfl⟩ ⟨Nat.le_of_ble_eq_true rfl, Nat.le_of_ble_eq_true rfl⟩ ⟨Nat.le_of_ble_eq_true rfl, Nat.le_of_ble_eq_true rfl⟩ rfl rfl rfl hl.1 (Nat.le_of_ble_eq_true rfl) rfl dX4_foldLift_4 ?_
  obtain ⟨v2, hc2, hok⟩ := bd_some hok
  refine cRSl [.long a1, .int v1] S hK va_Pnil (c_X4_fold l dC dI cI cZ a1 v1 hc2) (lw_S qm_X4_257 qt_X4_fold qn_X4 qc_X4_fold) hd_X4_fold ⟨rfl, rfl⟩ ⟨Nat.le_of_ble_eq_true rfl, Nat.le_of_ble_eq_true rfl⟩ ⟨Nat.le_of_ble_eq_true rfl, Nat.le_of_ble_eq_true rfl⟩ rfl hl.1 (Nat.le_of_ble_eq_true rfl) rfl dX4_foldLift_7 ?_
  refine lv_lstore_n (lv' := [(3, .long v2), (0, .ref n0), (1, .long a1)]) hx hb dX4_foldLift_10 rfl hl (by decide) rfl (fun ls hl => ?_)
  refine lv_lload_n hx hb dX4_foldLift_11 rfl (lv_at hl 0 rfl) ?_
  refine lv_aload_n hx hb dX4_foldLift_12 rfl (lv_at hl 1 rfl) ?_
  obtain ⟨v3, hc3, hok⟩ := bd_some hok
  refine cRVi (ci := 4) (q0 := 0) [] S hK hP (c_X4_hours l dC dI cI cZ n0 h0 h3 h4 h5 h6 c0 c8 c9 c10 c11 c12 c13 t0 t8 t9 t10 t11 t12 t13 i0 i1 i2 i3 i4 m0 m1 m2 uH uC uT uI uM hc3) (lw_V qm_X4_261 qi_X4_hours qs_X4_hours qn_X4 qc_X4_hours) hd_X4_hours ⟨rfl, rfl⟩ ⟨Nat.le_of_ble_eq_true rfl, Nat.le_of_ble_eq_true rfl⟩ ⟨Nat.le_of_ble_eq_true rfl, Nat.le_of_ble_eq_true rfl⟩ rfl rfl rfl hl.1 (Nat.le_of_ble_eq_true rfl) rfl dX4_foldLift_13 ?_
  obtain ⟨v4, hc4, hok⟩ := bd_some hok
  refine cRSl [.long v2, .int v3] S hK va_Pnil (c_X4_fold l dC dI cI cZ v2 v3 hc4) (lw_S qm_X4_257 qt_X4_fold qn_X4 qc_X4_fold) hd_X4_fold ⟨rfl, rfl⟩ ⟨Nat.le_of_ble_eq_true rfl, Nat.le_of_ble_eq_true rfl⟩ ⟨Nat.le_of_ble_eq_true rfl, Nat.le_of_ble_eq_true rfl⟩ rfl hl.1 (Nat.le_of_ble_eq_true rfl) rfl dX4_foldLift_16 ?_
  refine lv_lstore_n (lv' := [(3, .long v4), (0, .ref n0), (1, .long a1)]) hx hb dX4_foldLift_19 rfl hl (by decide) rfl (fun ls hl => ?_)
  refine lv_lload_n hx hb dX4_foldLift_20 rfl (lv_at hl 0 rfl) ?_
  refine lv_aload_n hx hb dX4_foldLift_21 rfl (lv_at hl 1 rfl) ?_
  obtain ⟨v5, hc5, hok⟩ := bd_some hok
  refine cRVi (ci := 4) (q0 := 0) [] S hK hP (c_X4_liftAt l dC dI cI cZ n0 h0 h3 h4 h5 h6 c0 c8 c9 c10 c11 c12 c13 t0 t8 t9 t10 t11 t12 t13 i0 i1 i2 i3 i4 m0 m1 m2 uH uC uT uI uM hc5) (lw_V qm_X4_263 qi_X4_liftAt qs_X4_liftAt qn_X4 qc_X4_liftAt) hd_X4_liftAt ⟨rfl, rfl⟩ ⟨Nat.le_of_ble_eq_true rfl, Nat.le_of_ble_eq_true rfl⟩ ⟨Nat.le_of_ble_eq_true rfl, Nat.le_of_ble_eq_true rfl⟩ rfl rfl rfl hl.1 (Nat.le_of_ble_eq_true rfl) rfl dX4_foldLift_22 ?_
  obtain ⟨v6, hc6, hok⟩ := bd_some hok
  refine cRSl [.long v4, .int v5] S hK va_Pnil (c_X4_fold l dC dI cI cZ v4 v5 hc6) (lw_S qm_X4_257 qt_X4_fold qn_X4 qc_X4_fold) hd_X4_fold ⟨rfl, rfl⟩ ⟨Nat.le_of_ble_eq_true rfl, Nat.le_of_ble_eq_true rfl⟩ ⟨Nat.le_of_ble_eq_true rfl, Nat.le_of_ble_eq_true rfl⟩ rfl hl.1 (Nat.le_of_ble_eq_true rfl) rfl dX4_foldLift_25 ?_
  refine lv_lstore_n (lv' := [(3, .long v6), (0, .ref n0), (1, .long a1)]) hx hb dX4_foldLift_28 rfl hl (by decide) rfl (fun ls hl => ?_)
  refine lv_lload_n hx hb dX4_foldLift_29 rfl (lv_at hl 0 rfl) ?_
  refine lv_aload_n hx hb dX4_foldLift_30 rfl (lv_at hl 1 rfl) ?_
  obtain ⟨v7, hc7, hok⟩ := bd_some hok
  refine cRVi (ci := 4) (q0 := 0) [] S hK hP (c_X4_goes l dC dI cI cZ n0 h0 h3 h4 h5 h6 c0 c8 c9 c10 c11 c12 c13 t0 t8 t9 t10 t11 t12 t13 i0 i1 i2 i3 i4 m0 m1 m2 uH uC uT uI uM hc7) (lw_V qm_X4_266 qi_X4_goes qs_X4_goes qn_X4 qc_X4_goes) hd_X4_goes ⟨rfl, rfl⟩ ⟨Nat.le_of_ble_eq_true rfl, Nat.le_of_ble_eq_true rfl⟩ ⟨Nat.le_of_ble_eq_true rfl, Nat.le_of_ble_eq_true rfl⟩ rfl rfl rfl hl.1 (Nat.le_of_ble_eq_true rfl) rfl dX4_foldLift_31 ?_
  obtain ⟨v8, hc8, hok⟩ := bd_some hok
  refine cRSl [.long v6, .int v7] S hK va_Pnil (c_X4_fold l dC dI cI cZ v6 v7 hc8) (lw_S qm_X4_257 qt_X4_fold qn_X4 qc_X4_fold) hd_X4_fold ⟨rfl, rfl⟩ ⟨Nat.le_of_ble_eq_true rfl, Nat.le_of_ble_eq_true rfl⟩ ⟨Nat.le_of_ble_eq_true rfl, Nat.le_of_ble_eq_true rfl⟩ rfl hl.1 (Nat.le_of_ble_eq_true rfl) rfl dX4_foldLift_34 ?_
  refine lv_lstore_n (lv' := [(3, .long v8), (0, .ref n0), (1, .long a1)]) hx hb dX4_foldLift_37 rfl hl (by decide) rfl (fun ls hl => ?_)
  refine lv_lload_n hx hb dX4_foldLift_38 rfl (lv_at hl 0 rfl) ?_
  refine lv_aload_n hx hb dX4_foldLift_39 rfl (lv_at hl 1 rfl) ?_
  obtain ⟨v9, hc9, hok⟩ := bd_some hok
  refine cRVi (ci := 4) (q0 := 0) [] S hK hP (c_X4_calls l dC dI cI cZ n0 h0 h3 h4 h5 h6 c0 c8 c9 c10 c11 c12 c13 t0 t8 t9 t10 t11 t12 t13 i0 i1 i2 i3 i4 m0 m1 m2 uH uC uT uI uM hc9) (lw_V qm_X4_269 qi_X4_calls qs_X4_calls qn_X4 qc_X4_calls) hd_X4_calls ⟨rfl, rfl⟩ ⟨Nat.le_of_ble_eq_true rfl, Nat.le_of_ble_eq_true rfl⟩ ⟨Nat.le_of_ble_eq_true rfl, Nat.le_of_ble_eq_true rfl⟩ rfl rfl rfl hl.1 (Nat.le_of_ble_eq_true rfl) rfl dX4_foldLift_40 ?_
  obtain ⟨v10, hc10, hok⟩ := bd_some hok
  refine cRSl [.long v8, .int v9] S hK va_Pnil (c_X4_fold l dC dI cI cZ v8 v9 hc10) (lw_S qm_X4_257 qt_X4_fold qn_X4 qc_X4_fold) hd_X4_fold ⟨rfl, rfl⟩ ⟨Nat.le_of_ble_eq_true rfl, Nat.le_of_ble_eq_true rfl⟩ ⟨Nat.le_of_ble_eq_true rfl, Nat.le_of_ble_eq_true rfl⟩ rfl hl.1 (Nat.le_of_ble_eq_true rfl) rfl dX4_foldLift_43 ?_
  refine lv_lstore_n (lv' := [(3, .long v10), (0, .ref n0), (1, .long a1)]) hx hb dX4_foldLift_46 rfl hl (by decide) rfl (fun ls hl => ?_)
  refine lv_lload_n hx hb dX4_foldLift_47 rfl (lv_at hl 0 rfl) ?_
  refine lv_aload_n hx hb dX4_foldLift_48 rfl (lv_at hl 1 rfl) ?_
  obtain ⟨v11, hc11, hok⟩ := bd_some hok
  refine cRVi (ci := 4) (q0 := 0) [] S hK hP (c_X4_stuckFor l dC dI cI cZ n0 h0 h3 h4 h5 h6 c0 c8 c9 c10 c11 c12 c13 t0 t8 t9 t10 t11 t12 t13 i0 i1 i2 i3 i4 m0 m1 m2 uH uC uT uI uM hc11) (lw_V qm_X4_272 qi_X4_stuckFor qs_X4_stuckFor qn_X4 qc_X4_stuckFor) hd_X4_stuckFor ⟨rfl, rfl⟩ ⟨Nat.le_of_ble_eq_true rfl, Nat.le_of_ble_eq_true rfl⟩ ⟨Nat.le_of_ble_eq_true rfl, Nat.le_of_ble_eq_true rfl⟩ rfl rfl rfl hl.1 (Nat.le_of_ble_eq_true rfl) rfl dX4_foldLift_49 ?_
  obtain ⟨v12, hc12, hok⟩ := bd_some hok
  refine cRSl [.long v10, .int v11] S hK va_Pnil (c_X4_fold l dC dI cI cZ v10 v11 hc12) (lw_S qm_X4_257 qt_X4_fold qn_X4 qc_X4_fold) hd_X4_fold ⟨rfl, rfl⟩ ⟨Nat.le_of_ble_eq_true rfl, Nat.le_of_ble_eq_true rfl⟩ ⟨Nat.le_of_ble_eq_true rfl, Nat.le_of_ble_eq_true rfl⟩ rfl hl.1 (Nat.le_of_ble_eq_true rfl) rfl dX4_foldLift_52 ?_
  refine lv_lstore_n (lv' := [(3, .long v12), (0, .ref n0), (1, .long a1)]) hx hb dX4_foldLift_55 rfl hl (by decide) rfl (fun ls hl => ?_)
  refine lv_lload_n hx hb dX4_foldLift_56 rfl (lv_at hl 0 rfl) ?_
  refine lv_aload_n hx hb dX4_foldLift_57 rfl (lv_at hl 1 rfl) ?_
  obtain ⟨v13, hc13, hok⟩ := bd_some hok
  refine cRVi (ci := 4) (q0 := 0) [] S hK hP (c_X4_wear l dC dI cI cZ n0 h0 h3 h4 h5 h6 c0 c8 c9 c10 c11 c12 c13 t0 t8 t9 t10 t11 t12 t13 i0 i1 i2 i3 i4 m0 m1 m2 uH uC uT uI uM hc13) (lw_V qm_X4_275 qi_X4_wear qs_X4_wear qn_X4 qc_X4_wear) hd_X4_wear ⟨rfl, rfl⟩ ⟨Nat.le_of_ble_eq_true rfl, Nat.le_of_ble_eq_true rfl⟩ ⟨Nat.le_of_ble_eq_true rfl, Nat.le_of_ble_eq_true rfl⟩ rfl rfl rfl hl.1 (Nat.le_of_ble_eq_true rfl) rfl dX4_foldLift_58 ?_
  obtain ⟨v14, hc14, hok⟩ := bd_some hok
  refine cRSl [.long v12, .int v13] S hK va_Pnil (c_X4_fold l dC dI cI cZ v12 v13 hc14) (lw_S qm_X4_257 qt_X4_fold qn_X4 qc_X4_fold) hd_X4_fold ⟨rfl, rfl⟩ ⟨Nat.le_of_ble_eq_true rfl, Nat.le_of_ble_eq_true rfl⟩ ⟨Nat.le_of_ble_eq_true rfl, Nat.le_of_ble_eq_true rfl⟩ rfl hl.1 (Nat.le_of_ble_eq_true rfl) rfl dX4_foldLift_61 ?_
  refine lv_lstore_n (lv' := [(3, .long v14), (0, .ref n0), (1, .long a1)]) hx hb dX4_foldLift_64 rfl hl (by decide) rfl (fun ls hl => ?_)
  refine lv_lload_n hx hb dX4_foldLift_65 rfl (lv_at hl 0 rfl) ?_
  refine lv_aload_n hx hb dX4_foldLift_66 rfl (lv_at hl 1 rfl) ?_
  obtain ⟨v15, hc15, hok⟩ := bd_some hok
  refine cRVi (ci := 4) (q0 := 0) [] S hK hP (c_X4_limit l dC dI cI cZ n0 h0 h3 h4 h5 h6 c0 c8 c9 c10 c11 c12 c13 t0 t8 t9 t10 t11 t12 t13 i0 i1 i2 i3 i4 m0 m1 m2 uH uC uT uI uM hc15) (lw_V qm_X4_277 qi_X4_limit qs_X4_limit qn_X4 qc_X4_limit) hd_X4_limit ⟨rfl, rfl⟩ ⟨Nat.le_of_ble_eq_true rfl, Nat.le_of_ble_eq_true rfl⟩ ⟨Nat.le_of_ble_eq_true rfl, Nat.le_of_ble_eq_true rfl⟩ rfl rfl rfl hl.1 (Nat.le_of_ble_eq_true rfl) rfl dX4_foldLift_67 ?_
  obtain ⟨v16, hc16, hok⟩ := bd_some hok
  refine cRSl [.long v14, .int v15] S hK va_Pnil (c_X4_fold l dC dI cI cZ v14 v15 hc16) (lw_S qm_X4_257 qt_X4_fold qn_X4 qc_X4_fold) hd_X4_fold ⟨rfl, rfl⟩ ⟨Nat.le_of_ble_eq_true rfl, Nat.le_of_ble_eq_true rfl⟩ ⟨Nat.le_of_ble_eq_true rfl, Nat.le_of_ble_eq_true rfl⟩ rfl hl.1 (Nat.le_of_ble_eq_true rfl) rfl dX4_foldLift_70 ?_
  refine lv_lstore_n (lv' := [(3, .long v16), (0, .ref n0), (1, .long a1)]) hx hb dX4_foldLift_73 rfl hl (by decide) rfl (fun ls hl => ?_)
  refine lv_lload_n hx hb dX4_foldLift_74 rfl (lv_at hl 0 rfl) ?_
  refine lv_aload_n hx hb dX4_foldLift_75 rfl (lv_at hl 1 rfl) ?_
  obtain ⟨v17, hc17, hok⟩ := bd_some hok
  refine cRVi (ci := 4) (q0 := 0) [] S hK hP (c_X4_suspense l dC dI cI cZ n0 h0 h3 h4 h5 h6 c0 c8 c9 c10 c11 c12 c13 t0 t8 t9 t10 t11 t12 t13 i0 i1 i2 i3 i4 m0 m1 m2 uH uC uT uI uM hc17) (lw_V qm_X4_279 qi_X4_suspense qs_X4_suspense qn_X4 qc_X4_suspense) hd_X4_suspense ⟨rfl, rfl⟩ ⟨Nat.le_of_ble_eq_true rfl, Nat.le_of_ble_eq_true rfl⟩ ⟨Nat.le_of_ble_eq_true rfl, Nat.le_of_ble_eq_true rfl⟩ rfl rfl rfl hl.1 (Nat.le_of_ble_eq_true rfl) rfl dX4_foldLift_76 ?_
  obtain ⟨v18, hc18, hok⟩ := bd_some hok
  refine cRSl [.long v16, .int v17] S hK va_Pnil (c_X4_fold l dC dI cI cZ v16 v17 hc18) (lw_S qm_X4_257 qt_X4_fold qn_X4 qc_X4_fold) hd_X4_fold ⟨rfl, rfl⟩ ⟨Nat.le_of_ble_eq_true rfl, Nat.le_of_ble_eq_true rfl⟩ ⟨Nat.le_of_ble_eq_true rfl, Nat.le_of_ble_eq_true rfl⟩ rfl hl.1 (Nat.le_of_ble_eq_true rfl) rfl dX4_foldLift_79 ?_
  refine lv_lstore_n (lv' := [(3, .long v18), (0, .ref n0), (1, .long a1)]) hx hb dX4_foldLift_82 rfl hl (by decide) rfl (fun ls hl => ?_)
  refine lv_lload_n hx hb dX4_foldLift_83 rfl (lv_at hl 0 rfl) ?_
  refine lv_aload_n hx hb dX4_foldLift_84 rfl (lv_at hl 1 rfl) ?_
  obtain ⟨v19, hc19, hok⟩ := bd_some hok
  refine cRVi (ci := 4) (q0 := 0) [] S hK hP (c_X4_cuts l dC dI cI cZ n0 h0 h3 h4 h5 h6 c0 c8 c9 c10 c11 c12 c13 t0 t8 t9 t10 t11 t12 t13 i0 i1 i2 i3 i4 m0 m1 m2 uH uC uT uI uM hc19) (lw_V qm_X4_281 qi_X4_cuts qs_X4_cuts qn_X4 qc_X4_cuts) hd_X4_cuts ⟨rfl, rfl⟩ ⟨Nat.le_of_ble_eq_true rfl, Nat.le_of_ble_eq_true rfl⟩ ⟨Nat.le_of_ble_eq_true rfl, Nat.le_of_ble_eq_true rfl⟩ rfl rfl rfl hl.1 (Nat.le_of_ble_eq_true rfl) rfl dX4_foldLift_85 ?_
  obtain ⟨v20, hc20, hok⟩ := bd_some hok
  refine cRSl [.long v18, .int v19] S hK va_Pnil (c_X4_fold l dC dI cI cZ v18 v19 hc20) (lw_S qm_X4_257 qt_X4_fold qn_X4 qc_X4_fold) hd_X4_fold ⟨rfl, rfl⟩ ⟨Nat.le_of_ble_eq_true rfl, Nat.le_of_ble_eq_true rfl⟩ ⟨Nat.le_of_ble_eq_true rfl, Nat.le_of_ble_eq_true rfl⟩ rfl hl.1 (Nat.le_of_ble_eq_true rfl) rfl dX4_foldLift_88 ?_
  refine lv_lstore_n (lv' := [(3, .long v20), (0, .ref n0), (1, .long a1)]) hx hb dX4_foldLift_91 rfl hl (by decide) rfl (fun ls hl => ?_)
  refine lv_lload_n hx hb dX4_foldLift_92 rfl (lv_at hl 0 rfl) ?_
  refine lv_aload_n hx hb dX4_foldLift_93 rfl (lv_at hl 1 rfl) ?_
  obtain ⟨v21, hc21, hok⟩ := bd_some hok
  refine cRVi (ci := 4) (q0 := 0) [] S hK hP (c_X4_instalments l dC dI cI cZ n0 h0 h3 h4 h5 h6 c0 c8 c9 c10 c11 c12 c13 t0 t8 t9 t10 t11 t12 t13 i0 i1 i2 i3 i4 m0 m1 m2 uH uC uT uI uM hc21) (lw_V qm_X4_284 qi_X4_instalments qs_X4_instalments qn_X4 qc_X4_instalments) hd_X4_instalments ⟨rfl, rfl⟩ ⟨Nat.le_of_ble_eq_true rfl, Nat.le_of_ble_eq_true rfl⟩ ⟨Nat.le_of_ble_eq_true rfl, Nat.le_of_ble_eq_true rfl⟩ rfl rfl rfl hl.1 (Nat.le_of_ble_eq_true rfl) rfl dX4_foldLift_94 ?_
  obtain ⟨v22, hc22, hok⟩ := bd_some hok
  refine cRSl [.long v20, .int v21] S hK va_Pnil (c_X4_fold l dC dI cI cZ v20 v21 hc22) (lw_S qm_X4_257 qt_X4_fold qn_X4 qc_X4_fold) hd_X4_fold ⟨rfl, rfl⟩ ⟨Nat.le_of_ble_eq_true rfl, Nat.le_of_ble_eq_true rfl⟩ ⟨Nat.le_of_ble_eq_true rfl, Nat.le_of_ble_eq_true rfl⟩ rfl hl.1 (Nat.le_of_ble_eq_true rfl) rfl dX4_foldLift_97 ?_
  refine lv_lstore_n (lv' := [(3, .long v22), (0, .ref n0), (1, .long a1)]) hx hb dX4_foldLift_100 rfl hl (by decide) rfl (fun ls hl => ?_)
  refine lv_lload_n hx hb dX4_foldLift_101 rfl (lv_at hl 0 rfl) ?_
  refine lv_aload_n hx hb dX4_foldLift_102 rfl (lv_at hl 1 rfl) ?_
  obtain ⟨v23, hc23, hok⟩ := bd_some hok
  refine cRVi (ci := 4) (q0 := 0) [] S hK hP (c_X4_mostThrilling l dC dI cI cZ n0 h0 h3 h4 h5 h6 c0 c8 c9 c10 c11 c12 c13 t0 t8 t9 t10 t11 t12 t13 i0 i1 i2 i3 i4 m0 m1 m2 uH uC uT uI uM hc23) (lw_V qm_X4_287 qi_X4_mostThrilling qs_X4_mostThrilling qn_X4 qc_X4_mostThrilling) hd_X4_mostThrilling ⟨rfl, rfl⟩ ⟨Nat.le_of_ble_eq_true rfl, Nat.le_of_ble_eq_true rfl⟩ ⟨Nat.le_of_ble_eq_true rfl, Nat.le_of_ble_eq_true rfl⟩ rfl rfl rfl hl.1 (Nat.le_of_ble_eq_true rfl) rfl dX4_foldLift_103 ?_
  obtain ⟨v24, hc24, hok⟩ := bd_some hok
  refine cRSl [.long v22, .int v23] S hK va_Pnil (c_X4_fold l dC dI cI cZ v22 v23 hc24) (lw_S qm_X4_257 qt_X4_fold qn_X4 qc_X4_fold) hd_X4_fold ⟨rfl, rfl⟩ ⟨Nat.le_of_ble_eq_true rfl, Nat.le_of_ble_eq_true rfl⟩ ⟨Nat.le_of_ble_eq_true rfl, Nat.le_of_ble_eq_true rfl⟩ rfl hl.1 (Nat.le_of_ble_eq_true rfl) rfl dX4_foldLift_106 ?_
  refine lv_lstore_n (lv' := [(3, .long v24), (0, .ref n0), (1, .long a1)]) hx hb dX4_foldLift_109 rfl hl (by decide) rfl (fun ls hl => ?_)
  refine lv_lload_n hx hb dX4_foldLift_110 rfl (lv_at hl 0 rfl) ?_
  refine lv_aload_n hx hb dX4_foldLift_111 rfl (lv_at hl 1 rfl) ?_
  obtain ⟨v25, hc25, hok⟩ := bd_some hok
  refine cRVi (ci := 4) (q0 := 0) [] S hK hP (c_X4_longestWait l dC dI cI cZ n0 h0 h3 h4 h5 h6 c0 c8 c9 c10 c11 c12 c13 t0 t8 t9 t10 t11 t12 t13 i0 i1 i2 i3 i4 m0 m1 m2 uH uC uT uI uM hc25) (lw_V qm_X4_290 qi_X4_longestWait qs_X4_longestWait qn_X4 qc_X4_longestWait) hd_X4_longestWait ⟨rfl, rfl⟩ ⟨Nat.le_of_ble_eq_true rfl, Nat.le_of_ble_eq_true rfl⟩ ⟨Nat.le_of_ble_eq_true rfl, Nat.le_of_ble_eq_true rfl⟩ rfl rfl rfl hl.1 (Nat.le_of_ble_eq_true rfl) rfl dX4_foldLift_112 ?_
  obtain ⟨v26, hc26, hok⟩ := bd_some hok
  refine cRSl [.long v24, .int v25] S hK va_Pnil (c_X4_fold l dC dI cI cZ v24 v25 hc26) (lw_S qm_X4_257 qt_X4_fold qn_X4 qc_X4_fold) hd_X4_fold ⟨rfl, rfl⟩ ⟨Nat.le_of_ble_eq_true rfl, Nat.le_of_ble_eq_true rfl⟩ ⟨Nat.le_of_ble_eq_true rfl, Nat.le_of_ble_eq_true rfl⟩ rfl hl.1 (Nat.le_of_ble_eq_true rfl) rfl dX4_foldLift_115 ?_
  refine lv_lstore_n (lv' := [(3, .long v26), (0, .ref n0), (1, .long a1)]) hx hb dX4_foldLift_118 rfl hl (by decide) rfl (fun ls hl => ?_)
  refine lv_lload_n hx hb dX4_foldLift_119 rfl (lv_at hl 0 rfl) ?_
  refine lv_aload_n hx hb dX4_foldLift_120 rfl (lv_at hl 1 rfl) ?_
  obtain ⟨v27, hc27, hok⟩ := bd_some hok
  refine cRVi (ci := 4) (q0 := 0) [] S hK hP (c_X4_climbs l dC dI cI cZ n0 h0 h3 h4 h5 h6 c0 c8 c9 c10 c11 c12 c13 t0 t8 t9 t10 t11 t12 t13 i0 i1 i2 i3 i4 m0 m1 m2 uH uC uT uI uM hc27) (lw_V qm_X4_293 qi_X4_climbs qs_X4_climbs qn_X4 qc_X4_climbs) hd_X4_climbs ⟨rfl, rfl⟩ ⟨Nat.le_of_ble_eq_true rfl, Nat.le_of_ble_eq_true rfl⟩ ⟨Nat.le_of_ble_eq_true rfl, Nat.le_of_ble_eq_true rfl⟩ rfl rfl rfl hl.1 (Nat.le_of_ble_eq_true rfl) rfl dX4_foldLift_121 ?_
  obtain ⟨v28, hc28, hok⟩ := bd_some hok
  refine cRSl [.long v26, .int v27] S hK va_Pnil (c_X4_fold l dC dI cI cZ v26 v27 hc28) (lw_S qm_X4_257 qt_X4_fold qn_X4 qc_X4_fold) hd_X4_fold ⟨rfl, rfl⟩ ⟨Nat.le_of_ble_eq_true rfl, Nat.le_of_ble_eq_true rfl⟩ ⟨Nat.le_of_ble_eq_true rfl, Nat.le_of_ble_eq_true rfl⟩ rfl hl.1 (Nat.le_of_ble_eq_true rfl) rfl dX4_foldLift_124 ?_
  refine lv_lstore_n (lv' := [(3, .long v28), (0, .ref n0), (1, .long a1)]) hx hb dX4_foldLift_127 rfl hl (by decide) rfl (fun ls hl => ?_)
  refine lv_lload_n hx hb dX4_foldLift_128 rfl (lv_at hl 0 rfl) ?_
  refine lv_aload_n hx hb dX4_foldLift_129 rfl (lv_at hl 1 rfl) ?_
  obtain ⟨v29, hc29, hok⟩ := bd_some hok
  refine cRVi (ci := 4) (q0 := 0) [] S hK hP (c_X4_subscribers l dC dI cI cZ n0 h0 h3 h4 h5 h6 c0 c8 c9 c10 c11 c12 c13 t0 t8 t9 t10 t11 t12 t13 i0 i1 i2 i3 i4 m0 m1 m2 uH uC uT uI uM hc29) (lw_V qm_X4_296 qi_X4_subscribers qs_X4_subscribers qn_X4 qc_X4_subscribers) hd_X4_subscribers ⟨rfl, rfl⟩ ⟨Nat.le_of_ble_eq_true rfl, Nat.le_of_ble_eq_true rfl⟩ ⟨Nat.le_of_ble_eq_true rfl, Nat.le_of_ble_eq_true rfl⟩ rfl rfl rfl hl.1 (Nat.le_of_ble_eq_true rfl) rfl dX4_foldLift_130 ?_
  obtain ⟨v30, hc30, hok⟩ := bd_some hok
  refine cRSl [.long v28, .int v29] S hK va_Pnil (c_X4_fold l dC dI cI cZ v28 v29 hc30) (lw_S qm_X4_257 qt_X4_fold qn_X4 qc_X4_fold) hd_X4_fold ⟨rfl, rfl⟩ ⟨Nat.le_of_ble_eq_true rfl, Nat.le_of_ble_eq_true rfl⟩ ⟨Nat.le_of_ble_eq_true rfl, Nat.le_of_ble_eq_true rfl⟩ rfl hl.1 (Nat.le_of_ble_eq_true rfl) rfl dX4_foldLift_133 ?_
  refine lv_lstore_n (lv' := [(3, .long v30), (0, .ref n0), (1, .long a1)]) hx hb dX4_foldLift_136 rfl hl (by decide) rfl (fun ls hl => ?_)
  refine lv_lload_n hx hb dX4_foldLift_137 rfl (lv_at hl 0 rfl) ?_
  refine lv_aload_n hx hb dX4_foldLift_138 rfl (lv_at hl 1 rfl) ?_
  obtain ⟨v31, hc31, hok⟩ := bd_some hok
  refine cRVi (ci := 4) (q0 := 0) [] S hK hP (c_X4_warmest l dC dI cI cZ n0 h0 h3 h4 h5 h6 c0 c8 c9 c10 c11 c12 c13 t0 t8 t9 t10 t11 t12 t13 i0 i1 i2 i3 i4 m0 m1 m2 uH uC uT uI uM hc31) (lw_V qm_X4_299 qi_X4_warmest qs_X4_warmest qn_X4 qc_X4_warmest) hd_X4_warmest ⟨rfl, rfl⟩ ⟨Nat.le_of_ble_eq_true rfl, Nat.le_of_ble_eq_true rfl⟩ ⟨Nat.le_of_ble_eq_true rfl, Nat.le_of_ble_eq_true rfl⟩ rfl rfl rfl hl.1 (Nat.le_of_ble_eq_true rfl) rfl dX4_foldLift_139 ?_
  obtain ⟨v32, hc32, hok⟩ := bd_some hok
  refine cRSl [.long v30, .int v31] S hK va_Pnil (c_X4_fold l dC dI cI cZ v30 v31 hc32) (lw_S qm_X4_257 qt_X4_fold qn_X4 qc_X4_fold) hd_X4_fold ⟨rfl, rfl⟩ ⟨Nat.le_of_ble_eq_true rfl, Nat.le_of_ble_eq_true rfl⟩ ⟨Nat.le_of_ble_eq_true rfl, Nat.le_of_ble_eq_true rfl⟩ rfl hl.1 (Nat.le_of_ble_eq_true rfl) rfl dX4_foldLift_142 ?_
  refine lv_lstore_n (lv' := [(3, .long v32), (0, .ref n0), (1, .long a1)]) hx hb dX4_foldLift_145 rfl hl (by decide) rfl (fun ls hl => ?_)
  refine lv_lload_n hx hb dX4_foldLift_146 rfl (lv_at hl 0 rfl) ?_
  refine lv_aload_n hx hb dX4_foldLift_147 rfl (lv_at hl 1 rfl) ?_
  obtain ⟨v33, hc33, hok⟩ := bd_some hok
  refine cRVi (ci := 4) (q0 := 0) [] S hK hP (c_X4_kindest l dC dI cI cZ n0 h0 h3 h4 h5 h6 c0 c8 c9 c10 c11 c12 c13 t0 t8 t9 t10 t11 t12 t13 i0 i1 i2 i3 i4 m0 m1 m2 uH uC uT uI uM hc33) (lw_V qm_X4_302 qi_X4_kindest qs_X4_kindest qn_X4 qc_X4_kindest) hd_X4_kindest ⟨rfl, rfl⟩ ⟨Nat.le_of_ble_eq_true rfl, Nat.le_of_ble_eq_true rfl⟩ ⟨Nat.le_of_ble_eq_true rfl, Nat.le_of_ble_eq_true rfl⟩ rfl rfl rfl hl.1 (Nat.le_of_ble_eq_true rfl) rfl dX4_foldLift_148 ?_
  obtain ⟨v34, hc34, hok⟩ := bd_some hok
  refine cRSl [.long v32, .int v33] S hK va_Pnil (c_X4_fold l dC dI cI cZ v32 v33 hc34) (lw_S qm_X4_257 qt_X4_fold qn_X4 qc_X4_fold) hd_X4_fold ⟨rfl, rfl⟩ ⟨Nat.le_of_ble_eq_true rfl, Nat.le_of_ble_eq_true rfl⟩ ⟨Nat.le_of_ble_eq_true rfl, Nat.le_of_ble_eq_true rfl⟩ rfl hl.1 (Nat.le_of_ble_eq_true rfl) rfl dX4_foldLift_151 ?_
  exact eRl S hr hlk (Option.some.inj hok) dX4_foldLift_154
theorem hd_X4_foldForesight : yX4_foldForesight.cls = RX4 ∧ yX4_foldForesight.cls ≠ "java/lang/invoke/MethodHandle" ∧ yX4_foldForesight.cls ≠ "java/lang/invoke/VarHandle" ∧ (parseMethodDescriptor yX4_foldForesight.desc).map (fun d => d.parameters.length) = some 1 := by decide +kernel
def p_X4_foldForesight (uH : tX1) (uC : tX0) (uT : tX0) (uI : tX2) (uM : tX3) (a1 : Int64) : Option (Int64 × tX0) :=
  bd (p_X4_hoursUntilStuck uH uC uT uI uM) (fun v1 =>
  bd (p_X4_fold a1 v1.1) (fun v2 =>
  bN (p_X4_printedIn uH uC v1.2 uI uM (20 : Int32)) (fun v3 =>
  bd (p_X4_fold v2 v3.1) (fun v4 =>
  bN (p_X4_subscribersIn uH uC v3.2 uI uM (20 : Int32)) (fun v5 =>
  bd (p_X4_fold v4 v5.1) (fun v6 =>
  bN (p_X4_bestToCall uH uC v5.2 uI uM (10 : Int32)) (fun v7 =>
  bd (p_X4_fold v6 v7.1) (fun v8 =>
  bN (p_X4_bestToAllow uH uC v7.2 uI uM (10 : Int32)) (fun v9 =>
  bd (p_X4_fold v8 v9.1) (fun v10 =>
  some (v10, v9.2)))))))))))
set_option maxHeartbeats 4000000 in
set_option maxRecDepth 100000 in
theorem c_X4_foldForesight (l : Launch) (hlt : l.stackTraces = false) (dC : Nat → ClassId) (dI : Nat → Nat → Nat) (cI cZ : ClassId) (n0 h0 h3 h4 h5 h6 c0 c8 c9 c10 c11 c12 c13 t0 t8 t9 t10 t11 t12 t13 i0 i1 i2 i3 i4 m0 m1 m2 : Nat) (sz : Nat) (sa : Nat → Nat) (uH : tX1) (uC : tX0) (uT : tX0) (uI : tX2) (uM : tX3) (a1 : Int64) {z : (Int64 × tX0)} (hok : p_X4_foldForesight uH uC uT uI uM a1 = some z) : Met l yX4_foldForesight (Cond.code yX4_foldForesight cX4_foldForesight 5 (some .long) :: lw_all) { frames := 8, cells := 4, slots := 24, locals := 137 } (prX (dC, dI) vwCl (TYS cI cZ) (wN cI cZ n0 h0 h3 h4 h5 h6 c0 c8 c9 c10 c11 c12 c13 t0 t8 t9 t10 t11 t12 t13 i0 i1 i2 i3 i4 m0 m1 m2 uH uC uT uI uM) sz sa [.ref n0, .long a1]) (va_Ql (fun (r : Int64) (_ : Unit) => r = z.1) (fun _ t => va_P (dC, dI) vwCl (wN cI cZ n0 h0 h3 h4 h5 h6 c0 c8 c9 c10 c11 c12 c13 t0 t8 t9 t10 t11 t12 t13 i0 i1 i2 i3 i4 m0 m1 m2 uH uC z.2 uI uM) t.heap) (va_A (wN cI cZ n0 h0 h3 h4 h5 h6 c0 c8 c9 c10 c11 c12 c13 t0 t8 t9 t10 t11 t12 t13 i0 i1 i2 i3 i4 m0 m1 m2 uH uC uT uI uM) sz)) 4 24 (va_A (wN cI cZ n0 h0 h3 h4 h5 h6 c0 c8 c9 c10 c11 c12 c13 t0 t8 t9 t10 t11 t12 t13 i0 i1 i2 i3 i4 m0 m1 m2 uH uC uT uI uM) sz) := by
  refine oM (by decide) (Nat.le_of_ble_eq_true rfl) ?_
  intro p e s m args below meth c S hr hlk hnm hB ls hl
  have hx := S.1
  have hb := S.2.1
  have hml := S.2.2.1
  have hown : s.vm.findClass RX4 = some m.cls := S.2.2.2.1
  have hts := S.2.2.2.2
  have S : CallFix p m c cX4_foldForesight 5 s args lw_all RX4 := S
  have hl : lv_has ls 5 [(0, .ref n0), (1, .long a1)] := hl
  obtain ⟨hsz, hP, hK, hD0, hX⟩ := hB
  subst hsz
  have hD := hD0.self (sz := s.heap.size)
  generalize hAe : va_A (wN cI cZ n0 h0 h3 h4 h5 h6 c0 c8 c9 c10 c11 c12 c13 t0 t8 t9 t10 t11 t12 t13 i0 i1 i2 i3 i4 m0 m1 m2 uH uC uT uI uM) s.heap.size = A at hD hX ⊢
  have hA : ∀ q : Nat, s.heap.size ≤ q → A q := fun q h => by rw [← hAe]; exact Or.inr h
  have hS : va_S A s.heap s.heap [] := va_S.rf
  have hP : va_P (dC, dI) vwCl (wN cI cZ n0 h0 h3 h4 h5 h6 c0 c8 c9 c10 c11 c12 c13 t0 t8 t9 t10 t11 t12 t13 i0 i1 i2 i3 i4 m0 m1 m2 uH uC uT uI uM) s.heap := hP
  unfold p_X4_foldForesight at hok
  refine lv_lload_n hx hb dX4_foldForesight_0 rfl (lv_at hl 1 rfl) ?_
  refine lv_lstore_n (lv' := [(3, .long a1), (0, .ref n0), (1, .long a1)]) hx hb dX4_foldForesight_1 rfl hl (by decide) rfl (fun ls hl => ?_)
  refine lv_lload_n hx hb dX4_foldForesight_2 rfl (lv_at hl 0 rfl) ?_
  refine lv_aload_n hx hb dX4_foldForesight_3 rfl (lv_at hl 1 rfl) ?_
  obtain ⟨v1, hc1, hok⟩ := bd_some hok
  refine cWVi (ci := 4) (q0 := 0) [] S hK hP hD hS hA (c_X4_hoursUntilStuck l dC dI cI cZ n0 h0 h3 h4 h5 h6 c0 c8 c9 c10 c11 c12 c13 t0 t8 t9 t10 t11 t12 t13 i0 i1 i2 i3 i4 m0 m1 m2 _ uH uC uT uI uM hc1) (lw_V qm_X4_305 qi_X4_hoursUntilStuck qs_X4_hoursUntilStuck qn_X4 qc_X4_hoursUntilStuck) hd_X4_hoursUntilStuck ⟨rfl, rfl⟩ ⟨Nat.le_of_ble_eq_true rfl, Nat.le_of_ble_eq_true rfl⟩ ⟨Nat.le_of_ble_eq_true rfl, Nat.le_of_ble_eq_true rfl⟩ rfl rfl rfl hl.1 (Nat.le_of_ble_eq_true rfl) rfl dX4_foldForesight_4 (D_N hD) (fun H locs hP hD hS => ?_)
  obtain ⟨v2, hc2, hok⟩ := bd_some hok
  refine cRSl [.long a1, .int v1.1] S hK va_Pnil (c_X4_fold l dC dI cI cZ a1 v1.1 hc2) (lw_S qm_X4_257 qt_X4_fold qn_X4 qc_X4_fold) hd_X4_fold ⟨rfl, rfl⟩ ⟨Nat.le_of_ble_eq_true rfl, Nat.le_of_ble_eq_true rfl⟩ ⟨Nat.le_of_ble_eq_true rfl, Nat.le_of_ble_eq_true rfl⟩ rfl hl.1 (Nat.le_of_ble_eq_true rfl) rfl dX4_foldForesight_7 ?_
  refine lv_lstore_n (lv' := [(3, .long v2), (0, .ref n0), (1, .long a1)]) hx hb dX4_foldForesight_10 rfl hl (by decide) rfl (fun ls hl => ?_)
  refine lv_lload_n hx hb dX4_foldForesight_11 rfl (lv_at hl 0 rfl) ?_
  refine lv_aload_n hx hb dX4_foldForesight_12 rfl (lv_at hl 1 rfl) ?_
  refine lv_bipush (v := (20 : Int32)) hx hb dX4_foldForesight_13 (by decide) ?_
  obtain ⟨v3, hc3, hok⟩ := bN_some hok
  refine cXVi (ci := 4) (q0 := 0) [.int (20 : Int32)] S hK hP hD hS hA hX (c_X4_printedIn l hlt dC dI cI cZ n0 h0 h3 h4 h5 h6 c0 c8 c9 c10 c11 c12 c13 t0 t8 t9 t10 t11 t12 t13 i0 i1 i2 i3 i4 m0 m1 m2 _ sa uH uC v1.2 uI uM (20 : Int32) hc3) (lw_V qm_X4_308 qi_X4_printedIn qs_X4_printedIn qn_X4 qc_X4_printedIn) hd_X4_printedIn ⟨rfl, rfl⟩ ⟨Nat.le_of_ble_eq_true rfl, Nat.le_of_ble_eq_true rfl⟩ ⟨Nat.le_of_ble_eq_true rfl, Nat.le_of_ble_eq_true rfl⟩ rfl rfl rfl hl.1 (Nat.le_of_ble_eq_true rfl) rfl dX4_foldForesight_15 (fun _ => D_N hD) (fun E ce q9 H1 locs1 hz => by cases hz) (fun w3 H locs hz3 hP hD hS => ?_)
  cases Sum.inr.inj hz3
  obtain ⟨v4, hc4, hok⟩ := bd_some hok
  refine cRSl [.long v2, .int v3.1] S hK va_Pnil (c_X4_fold l dC dI cI cZ v2 v3.1 hc4) (lw_S qm_X4_257 qt_X4_fold qn_X4 qc_X4_fold) hd_X4_fold ⟨rfl, rfl⟩ ⟨Nat.le_of_ble_eq_true rfl, Nat.le_of_ble_eq_true rfl⟩ ⟨Nat.le_of_ble_eq_true rfl, Nat.le_of_ble_eq_true rfl⟩ rfl hl.1 (Nat.le_of_ble_eq_true rfl) rfl dX4_foldForesight_18 ?_
  refine lv_lstore_n (lv' := [(3, .long v4), (0, .ref n0), (1, .long a1)]) hx hb dX4_foldForesight_21 rfl hl (by decide) rfl (fun ls hl => ?_)
  refine lv_lload_n hx hb dX4_foldForesight_22 rfl (lv_at hl 0 rfl) ?_
  refine lv_aload_n hx hb dX4_foldForesight_23 rfl (lv_at hl 1 rfl) ?_
  refine lv_bipush (v := (20 : Int32)) hx hb dX4_foldForesight_24 (by decide) ?_
  obtain ⟨v5, hc5, hok⟩ := bN_some hok
  refine cXVi (ci := 4) (q0 := 0) [.int (20 : Int32)] S hK hP hD hS hA hX (c_X4_subscribersIn l hlt dC dI cI cZ n0 h0 h3 h4 h5 h6 c0 c8 c9 c10 c11 c12 c13 t0 t8 t9 t10 t11 t12 t13 i0 i1 i2 i3 i4 m0 m1 m2 _ sa uH uC v3.2 uI uM (20 : Int32) hc5) (lw_V qm_X4_311 qi_X4_subscribersIn qs_X4_subscribersIn qn_X4 qc_X4_subscribersIn) hd_X4_subscribersIn ⟨rfl, rfl⟩ ⟨Nat.le_of_ble_eq_true rfl, Nat.le_of_ble_eq_true rfl⟩ ⟨Nat.le_of_ble_eq_true rfl, Nat.le_of_ble_eq_true rfl⟩ rfl rfl rfl hl.1 (Nat.le_of_ble_eq_true rfl) rfl dX4_foldForesight_26 (fun _ => D_N hD) (fun E ce q9 H1 locs1 hz => by cases hz) (fun w5 H locs hz5 hP hD hS => ?_)
  cases Sum.inr.inj hz5
  obtain ⟨v6, hc6, hok⟩ := bd_some hok
  refine cRSl [.long v4, .int v5.1] S hK va_Pnil (c_X4_fold l dC dI cI cZ v4 v5.1 hc6) (lw_S qm_X4_257 qt_X4_fold qn_X4 qc_X4_fold) hd_X4_fold ⟨rfl, rfl⟩ ⟨Nat.le_of_ble_eq_true rfl, Nat.le_of_ble_eq_true rfl⟩ ⟨Nat.le_of_ble_eq_true rfl, Nat.le_of_ble_eq_true rfl⟩ rfl hl.1 (Nat.le_of_ble_eq_true rfl) rfl dX4_foldForesight_29 ?_
  refine lv_lstore_n (lv' := [(3, .long v6), (0, .ref n0), (1, .long a1)]) hx hb dX4_foldForesight_32 rfl hl (by decide) rfl (fun ls hl => ?_)
  refine lv_lload_n hx hb dX4_foldForesight_33 rfl (lv_at hl 0 rfl) ?_
  refine lv_aload_n hx hb dX4_foldForesight_34 rfl (lv_at hl 1 rfl) ?_
  refine lv_bipush (v := (10 : Int32)) hx hb dX4_foldForesight_35 (by decide) ?_
  obtain ⟨v7, hc7, hok⟩ := bN_some hok
  refine cXVi (ci := 4) (q0 := 0) [.int (10 : Int32)] S hK hP hD hS hA hX (c_X4_bestToCall l hlt dC dI cI cZ n0 h0 h3 h4 h5 h6 c0 c8 c9 c10 c11 c12 c13 t0 t8 t9 t10 t11 t12 t13 i0 i1 i2 i3 i4 m0 m1 m2 _ sa uH uC v5.2 uI uM (10 : Int32) hc7) (lw_V qm_X4_314 qi_X4_bestToCall qs_X4_bestToCall qn_X4 qc_X4_bestToCall) hd_X4_bestToCall ⟨rfl, rfl⟩ ⟨Nat.le_of_ble_eq_true rfl, Nat.le_of_ble_eq_true rfl⟩ ⟨Nat.le_of_ble_eq_true rfl, Nat.le_of_ble_eq_true rfl⟩ rfl rfl rfl hl.1 (Nat.le_of_ble_eq_true rfl) rfl dX4_foldForesight_37 (fun _ => D_N hD) (fun E ce q9 H1 locs1 hz => by cases hz) (fun w7 H locs hz7 hP hD hS => ?_)
  cases Sum.inr.inj hz7
  obtain ⟨v8, hc8, hok⟩ := bd_some hok
  refine cRSl [.long v6, .int v7.1] S hK va_Pnil (c_X4_fold l dC dI cI cZ v6 v7.1 hc8) (lw_S qm_X4_257 qt_X4_fold qn_X4 qc_X4_fold) hd_X4_fold ⟨rfl, rfl⟩ ⟨Nat.le_of_ble_eq_true rfl, Nat.le_of_ble_eq_true rfl⟩ ⟨Nat.le_of_ble_eq_true rfl, Nat.le_of_ble_eq_true rfl⟩ rfl hl.1 (Nat.le_of_ble_eq_true rfl) rfl dX4_foldForesight_40 ?_
  refine lv_lstore_n (lv' := [(3, .long v8), (0, .ref n0), (1, .long a1)]) hx hb dX4_foldForesight_43 rfl hl (by decide) rfl (fun ls hl => ?_)
  refine lv_lload_n hx hb dX4_foldForesight_44 rfl (lv_at hl 0 rfl) ?_
  refine lv_aload_n hx hb dX4_foldForesight_45 rfl (lv_at hl 1 rfl) ?_
  refine lv_bipush (v := (10 : Int32)) hx hb dX4_foldForesight_46 (by decide) ?_
  obtain ⟨v9, hc9, hok⟩ := bN_some hok
  refine cXVi (ci := 4) (q0 := 0) [.int (10 : Int32)] S hK hP hD hS hA hX (c_X4_bestToAllow l hlt dC dI cI cZ n0 h0 h3 h4 h5 h6 c0 c8 c9 c10 c11 c12 c13 t0 t8 t9 t10 t11 t12 t13 i0 i1 i2 i3 i4 m0 m1 m2 _ sa uH uC v7.2 uI uM (10 : Int32) hc9) (lw_V qm_X4_317 qi_X4_bestToAllow qs_X4_bestToAllow qn_X4 qc_X4_bestToAllow) hd_X4_bestToAllow ⟨rfl, rfl⟩ ⟨Nat.le_of_ble_eq_true rfl, Nat.le_of_ble_eq_true rfl⟩ ⟨Nat.le_of_ble_eq_true rfl, Nat.le_of_ble_eq_true rfl⟩ rfl rfl rfl hl.1 (Nat.le_of_ble_eq_true rfl) rfl dX4_foldForesight_48 (fun _ => D_N hD) (fun E ce q9 H1 locs1 hz => by cases hz) (fun w9 H locs hz9 hP hD hS => ?_)
  cases Sum.inr.inj hz9
  obtain ⟨v10, hc10, hok⟩ := bd_some hok
  refine cRSl [.long v8, .int v9.1] S hK va_Pnil (c_X4_fold l dC dI cI cZ v8 v9.1 hc10) (lw_S qm_X4_257 qt_X4_fold qn_X4 qc_X4_fold) hd_X4_fold ⟨rfl, rfl⟩ ⟨Nat.le_of_ble_eq_true rfl, Nat.le_of_ble_eq_true rfl⟩ ⟨Nat.le_of_ble_eq_true rfl, Nat.le_of_ble_eq_true rfl⟩ rfl hl.1 (Nat.le_of_ble_eq_true rfl) rfl dX4_foldForesight_51 ?_
  have hok := Option.some.inj hok
  subst hok
  exact eWl S hr hlk rfl hP hS (Nat.le_of_ble_eq_true rfl) (Nat.le_of_ble_eq_true rfl) dX4_foldForesight_54
theorem hd_X4_foldFloors : yX4_foldFloors.cls = RX4 ∧ yX4_foldFloors.cls ≠ "java/lang/invoke/MethodHandle" ∧ yX4_foldFloors.cls ≠ "java/lang/invoke/VarHandle" ∧ (parseMethodDescriptor yX4_foldFloors.desc).map (fun d => d.parameters.length) = some 1 := by decide +kernel
def p_X4_foldFloors_L5 : Nat → tX1 → tX0 → tX0 → tX2 → tX3 → Int64 → Int32 → Option (Int64 × tX0)
  | 0, _, _, _, _, _, _, _ => none
  | n + 1, uH, uC, uT, uI, uM, l5_3, l5_5 =>
    if uH.1 ≤ l5_5 then
      some (l5_3, uT)
    else
      bN (p_X4_isCalled uH uC uT uI uM l5_5) (fun v1 =>
      bd (p_X4_bit v1) (fun v2 =>
      bd (p_X4_fold l5_3 v2) (fun v3 =>
      bN (p_X4_paragraphs uH uC uT uI uM l5_5) (fun v4 =>
      bd (p_X4_fold v3 v4) (fun v5 =>
      bN (p_X4_nextParagraph uH uC uT uI uM l5_5) (fun v6 =>
      bd (p_X4_fold v5 v6) (fun v7 =>
      bN (p_X4_cutOn uH uC uT uI uM l5_5) (fun v8 =>
      bd (p_X4_fold v7 v8) (fun v9 =>
      bN (p_X4_hoursUntilStop uH uC uT uI uM l5_5) (fun v10 =>
      bd (p_X4_fold v9 v10.1) (fun v11 =>
      (p_X4_foldFloors_L5 n) uH uC v10.2 uI uM v11 (l5_5 + 1))))))))))))
def p_X4_foldFloors (uH : tX1) (uC : tX0) (uT : tX0) (uI : tX2) (uM : tX3) (a1 : Int64) : Option (Int64 × tX0) :=
  p_X4_foldFloors_L5 13 uH uC uT uI uM a1 (0 : Int32)
set_option maxHeartbeats 4000000 in
set_option maxRecDepth 100000 in
theorem c_X4_foldFloors (l : Launch) (hlt : l.stackTraces = false) (dC : Nat → ClassId) (dI : Nat → Nat → Nat) (cI cZ : ClassId) (n0 h0 h3 h4 h5 h6 c0 c8 c9 c10 c11 c12 c13 t0 t8 t9 t10 t11 t12 t13 i0 i1 i2 i3 i4 m0 m1 m2 : Nat) (sz : Nat) (sa : Nat → Nat) (uH : tX1) (uC : tX0) (uT : tX0) (uI : tX2) (uM : tX3) (a1 : Int64) {z : (Int64 × tX0)} (hok : p_X4_foldFloors uH uC uT uI uM a1 = some z) : Met l yX4_foldFloors (Cond.code yX4_foldFloors cX4_foldFloors 6 (some .long) :: lw_all) { frames := 8, cells := 65, slots := 390, locals := 133 } (prX (dC, dI) vwCl (TYS cI cZ) (wN cI cZ n0 h0 h3 h4 h5 h6 c0 c8 c9 c10 c11 c12 c13 t0 t8 t9 t10 t11 t12 t13 i0 i1 i2 i3 i4 m0 m1 m2 uH uC uT uI uM) sz sa [.ref n0, .long a1]) (va_Ql (fun (r : Int64) (_ : Unit) => r = z.1) (fun _ t => va_P (dC, dI) vwCl (wN cI cZ n0 h0 h3 h4 h5 h6 c0 c8 c9 c10 c11 c12 c13 t0 t8 t9 t10 t11 t12 t13 i0 i1 i2 i3 i4 m0 m1 m2 uH uC z.2 uI uM) t.heap) (va_A (wN cI cZ n0 h0 h3 h4 h5 h6 c0 c8 c9 c10 c11 c12 c13 t0 t8 t9 t10 t11 t12 t13 i0 i1 i2 i3 i4 m0 m1 m2 uH uC uT uI uM) sz)) 65 390 (va_A (wN cI cZ n0 h0 h3 h4 h5 h6 c0 c8 c9 c10 c11 c12 c13 t0 t8 t9 t10 t11 t12 t13 i0 i1 i2 i3 i4 m0 m1 m2 uH uC uT uI uM) sz) := by
  refine oM (by decide) (Nat.le_of_ble_eq_true rfl) ?_
  intro p e s m args below meth c S hr hlk hnm hB ls hl
  have hx := S.1
  have hb := S.2.1
  have hml := S.2.2.1
  have hown : s.vm.findClass RX4 = some m.cls := S.2.2.2.1
  have hts := S.2.2.2.2
  have S : CallFix p m c cX4_foldFloors 6 s args lw_all RX4 := S
  have hl : lv_has ls 6 [(0, .ref n0), (1, .long a1)] := hl
  obtain ⟨hsz, hP, hK, hD0, hX⟩ := hB
  subst hsz
  have hD := hD0.self (sz := s.heap.size)
  generalize hAe : va_A (wN cI cZ n0 h0 h3 h4 h5 h6 c0 c8 c9 c10 c11 c12 c13 t0 t8 t9 t10 t11 t12 t13 i0 i1 i2 i3 i4 m0 m1 m2 uH uC uT uI uM) s.heap.size = A at hD hX ⊢
  have hA : ∀ q : Nat, s.heap.size ≤ q → A q := fun q h => by rw [← hAe]; exact Or.inr h
  have hS : va_S A s.heap s.heap [] := va_S.rf
  have hP : va_P (dC, dI) vwCl (wN cI cZ n0 h0 h3 h4 h5 h6 c0 c8 c9 c10 c11 c12 c13 t0 t8 t9 t10 t11 t12 t13 i0 i1 i2 i3 i4 m0 m1 m2 uH uC uT uI uM) s.heap := hP
  have L5 : ∀ n5 : Nat, ∀ (uT : tX0) (l5_3 : Int64) (l5_5 : Int32) (kc sc : Nat) (hkc : kc + 5 * n5 ≤ 65) (hsc : sc + 30 * n5 ≤ 390) (H : Heap) (locs : List Loc) (hP : va_P (dC, dI) vwCl (wN cI cZ n0 h0 h3 h4 h5 h6 c0 c8 c9 c10 c11 c12 c13 t0 t8 t9 t10 t11 t12 t13 i0 i1 i2 i3 i4 m0 m1 m2 uH uC uT uI uM) H) (hD : va_D A (wN cI cZ n0 h0 h3 h4 h5 h6 c0 c8 c9 c10 c11 c12 c13 t0 t8 t9 t10 t11 t12 t13 i0 i1 i2 i3 i4 m0 m1 m2 uH uC uT uI uM)) (hS : va_S A s.heap H locs) (ls : Array Slot) (hl : lv_has ls 6 [(0, .ref n0), (3, .long l5_3), (5, .int l5_5)]) (hok : p_X4_foldFloors_L5 n5 uH uC uT uI uM l5_3 l5_5 = some z), W p l e { frames := 8, cells := 65, slots := 390, locals := 133 } s m args below meth c H locs kc sc (MQ below (va_Ql (fun (r : Int64) (_ : Unit) => r = z.1) (fun _ t => va_P (dC, dI) vwCl (wN cI cZ n0 h0 h3 h4 h5 h6 c0 c8 c9 c10 c11 c12 c13 t0 t8 t9 t10 t11 t12 t13 i0 i1 i2 i3 i4 m0 m1 m2 uH uC z.2 uI uM) t.heap) A) args s 65 390 A) (F0 m 5 ls []) := by
    intro n5
    induction n5 with
    | zero =>
      intro uT l5_3 l5_5 kc sc hkc hsc H locs hP hD hS ls hl hok
      rw [p_X4_foldFloors_L5] at hok
      cases hok
    | succ n5 ih5 =>
      intro uT l5_3 l5_5 kc sc hkc hsc H locs hP hD hS ls hl hok
      rw [p_X4_foldFloors_L5] at hok
      refine lv_iload hx hb dX4_foldFloors_5 (lv_at hl 2 rfl) ?_
      refine lv_aload_n hx hb dX4_foldFloors_7 rfl (lv_at hl 0 rfl) ?_
      refine va_get (D := (dC, dI)) (ci := 4) (v := .ref h0) (C := RX4) (T := TX4) (N := 5) hx hb hts inX4 hown hK hP 0 rfl rfl 0 (by decide) (hts _ qf_X4_12) (fun _ h9 => h9) rfl dX4_foldFloors_8 ?_
      refine va_get (D := (dC, dI)) (ci := 1) (v := .int uH.1) (C := RX1) (T := TX1) (N := 7) hx hb hts inX1 hown hK hP 1 rfl rfl 0 (by decide) (hts _ qf_X4_148) (fun _ h9 => h9) rfl dX4_foldFloors_11 ?_
      refine lv_icmp_ge (tgt := 81) hx hb dX4_foldFloors_14 (by decide) (fun hc => ?_) (fun hc => ?_)
      · have hok := ip hok hc
        refine lv_lload_n hx hb dX4_foldFloors_81 rfl (lv_at hl 1 rfl) ?_
        have hok := Option.some.inj hok
        subst hok
        exact eWl S hr hlk rfl hP hS (by omega) (by omega) dX4_foldFloors_82
      · have hok := iq hok hc
        refine lv_lload_n hx hb dX4_foldFloors_17 rfl (lv_at hl 1 rfl) ?_
        refine lv_aload_n hx hb dX4_foldFloors_18 rfl (lv_at hl 0 rfl) ?_
        refine lv_iload hx hb dX4_foldFloors_19 (lv_at hl 2 rfl) ?_
        obtain ⟨v1, hc1, hok⟩ := bN_some hok
        refine cYVi (ci := 4) (q0 := 0) [.int l5_5] S hK hP hP hD hS hS hA hX (c_X4_isCalled l hlt dC dI cI cZ n0 h0 h3 h4 h5 h6 c0 c8 c9 c10 c11 c12 c13 t0 t8 t9 t10 t11 t12 t13 i0 i1 i2 i3 i4 m0 m1 m2 _ sa uH uC uT uI uM l5_5 hc1) (lw_V qm_X4_320 qi_X4_isCalled qs_X4_isCalled qn_X4 qc_X4_isCalled) hd_X4_isCalled ⟨rfl, rfl⟩ ⟨Nat.le_of_ble_eq_true rfl, Nat.le_of_ble_eq_true rfl⟩ ⟨by show kc + 1 ≤ 65; omega, by show sc + 6 ≤ 390; omega⟩ rfl rfl rfl hl.1 (Nat.le_of_ble_eq_true rfl) rfl dX4_foldFloors_21 (fun E ce q9 H1 locs1 hz hS1 hce hcv hcl => by cases hz) (fun w1 H locs hz1 hP hS => ?_)
        cases Sum.inr.inj hz1
        obtain ⟨v2, hc2, hok⟩ := bd_some hok
        refine cRSi [.int v1] S hK va_Pnil (c_X4_bit l dC dI cI cZ v1 hc2) (lw_S qm_X4_323 qt_X4_bit qn_X4 qc_X4_bit) hd_X4_bit ⟨rfl, rfl⟩ ⟨Nat.le_of_ble_eq_true rfl, Nat.le_of_ble_eq_true rfl⟩ ⟨by show (kc + 1) ≤ 65; omega, by show (sc + 6) ≤ 390; omega⟩ rfl hl.1 (Nat.le_of_ble_eq_true rfl) rfl dX4_foldFloors_24 ?_
        obtain ⟨v3, hc3, hok⟩ := bd_some hok
        refine cRSl [.long l5_3, .int v2] S hK va_Pnil (c_X4_fold l dC dI cI cZ l5_3 v2 hc3) (lw_S qm_X4_257 qt_X4_fold qn_X4 qc_X4_fold) hd_X4_fold ⟨rfl, rfl⟩ ⟨Nat.le_of_ble_eq_true rfl, Nat.le_of_ble_eq_true rfl⟩ ⟨by show (kc + 1) ≤ 65; omega, by show (sc + 6) ≤ 390; omega⟩ rfl hl.1 (Nat.le_of_ble_eq_true rfl) rfl dX4_foldFloors_27 ?_
        refine lv_lstore_n (lv' := [(3, .long v3), (0, .ref n0), (5, .int l5_5)]) hx hb dX4_foldFloors_30 rfl hl (by decide) rfl (fun ls hl => ?_)
        refine lv_lload_n hx hb dX4_foldFloors_31 rfl (lv_at hl 0 rfl) ?_
        refine lv_aload_n hx hb dX4_foldFloors_32 rfl (lv_at hl 1 rfl) ?_
        refine lv_iload hx hb dX4_foldFloors_33 (lv_at hl 2 rfl) ?_
        obtain ⟨v4, hc4, hok⟩ := bN_some hok
        refine cYVi (ci := 4) (q0 := 0) [.int l5_5] S hK hP hP hD hS hS hA hX (c_X4_paragraphs l hlt dC dI cI cZ n0 h0 h3 h4 h5 h6 c0 c8 c9 c10 c11 c12 c13 t0 t8 t9 t10 t11 t12 t13 i0 i1 i2 i3 i4 m0 m1 m2 _ sa uH uC uT uI uM l5_5 hc4) (lw_V qm_X4_327 qi_X4_paragraphs qs_X4_paragraphs qn_X4 qc_X4_paragraphs) hd_X4_paragraphs ⟨rfl, rfl⟩ ⟨Nat.le_of_ble_eq_true rfl, Nat.le_of_ble_eq_true rfl⟩ ⟨by show (kc + 1) + 1 ≤ 65; omega, by show (sc + 6) + 6 ≤ 390; omega⟩ rfl rfl rfl hl.1 (Nat.le_of_ble_eq_true rfl) rfl dX4_foldFloors_35 (fun E ce q9 H1 locs1 hz hS1 hce hcv hcl => by cases hz) (fun w4 H locs hz4 hP hS => ?_)
        cases Sum.inr.inj hz4
        obtain ⟨v5, hc5, hok⟩ := bd_some hok
        refine cRSl [.long v3, .int v4] S hK va_Pnil (c_X4_fold l dC dI cI cZ v3 v4 hc5) (lw_S qm_X4_257 qt_X4_fold qn_X4 qc_X4_fold) hd_X4_fold ⟨rfl, rfl⟩ ⟨Nat.le_of_ble_eq_true rfl, Nat.le_of_ble_eq_true rfl⟩ ⟨by show ((kc + 1) + 1) ≤ 65; omega, by show ((sc + 6) + 6) ≤ 390; omega⟩ rfl hl.1 (Nat.le_of_ble_eq_true rfl) rfl dX4_foldFloors_38 ?_
        refine lv_lstore_n (lv' := [(3, .long v5), (0, .ref n0), (5, .int l5_5)]) hx hb dX4_foldFloors_41 rfl hl (by decide) rfl (fun ls hl => ?_)
        refine lv_lload_n hx hb dX4_foldFloors_42 rfl (lv_at hl 0 rfl) ?_
        refine lv_aload_n hx hb dX4_foldFloors_43 rfl (lv_at hl 1 rfl) ?_
        refine lv_iload hx hb dX4_foldFloors_44 (lv_at hl 2 rfl) ?_
        obtain ⟨v6, hc6, hok⟩ := bN_some hok
        refine cYVi (ci := 4) (q0 := 0) [.int l5_5] S hK hP hP hD hS hS hA hX (c_X4_nextParagraph l hlt dC dI cI cZ n0 h0 h3 h4 h5 h6 c0 c8 c9 c10 c11 c12 c13 t0 t8 t9 t10 t11 t12 t13 i0 i1 i2 i3 i4 m0 m1 m2 _ sa uH uC uT uI uM l5_5 hc6) (lw_V qm_X4_329 qi_X4_nextParagraph qs_X4_nextParagraph qn_X4 qc_X4_nextParagraph) hd_X4_nextParagraph ⟨rfl, rfl⟩ ⟨Nat.le_of_ble_eq_true rfl, Nat.le_of_ble_eq_true rfl⟩ ⟨by show ((kc + 1) + 1) + 1 ≤ 65; omega, by show ((sc + 6) + 6) + 6 ≤ 390; omega⟩ rfl rfl rfl hl.1 (Nat.le_of_ble_eq_true rfl) rfl dX4_foldFloors_46 (fun E ce q9 H1 locs1 hz hS1 hce hcv hcl => by cases hz) (fun w6 H locs hz6 hP hS => ?_)
        cases Sum.inr.inj hz6
        obtain ⟨v7, hc7, hok⟩ := bd_some hok
        refine cRSl [.long v5, .int v6] S hK va_Pnil (c_X4_fold l dC dI cI cZ v5 v6 hc7) (lw_S qm_X4_257 qt_X4_fold qn_X4 qc_X4_fold) hd_X4_fold ⟨rfl, rfl⟩ ⟨Nat.le_of_ble_eq_true rfl, Nat.le_of_ble_eq_true rfl⟩ ⟨by show (((kc + 1) + 1) + 1) ≤ 65; omega, by show (((sc + 6) + 6) + 6) ≤ 390; omega⟩ rfl hl.1 (Nat.le_of_ble_eq_true rfl) rfl dX4_foldFloors_49 ?_
        refine lv_lstore_n (lv' := [(3, .long v7), (0, .ref n0), (5, .int l5_5)]) hx hb dX4_foldFloors_52 rfl hl (by decide) rfl (fun ls hl => ?_)
        refine lv_lload_n hx hb dX4_foldFloors_53 rfl (lv_at hl 0 rfl) ?_
        refine lv_aload_n hx hb dX4_foldFloors_54 rfl (lv_at hl 1 rfl) ?_
        refine lv_iload hx hb dX4_foldFloors_55 (lv_at hl 2 rfl) ?_
        obtain ⟨v8, hc8, hok⟩ := bN_some hok
        refine cYVi (ci := 4) (q0 := 0) [.int l5_5] S hK hP hP hD hS hS hA hX (c_X4_cutOn l hlt dC dI cI cZ n0 h0 h3 h4 h5 h6 c0 c8 c9 c10 c11 c12 c13 t0 t8 t9 t10 t11 t12 t13 i0 i1 i2 i3 i4 m0 m1 m2 _ sa uH uC uT uI uM l5_5 hc8) (lw_V qm_X4_332 qi_X4_cutOn qs_X4_cutOn qn_X4 qc_X4_cutOn) hd_X4_cutOn ⟨rfl, rfl⟩ ⟨Nat.le_of_ble_eq_true rfl, Nat.le_of_ble_eq_true rfl⟩ ⟨by show (((kc + 1) + 1) + 1) + 1 ≤ 65; omega, by show (((sc + 6) + 6) + 6) + 6 ≤ 390; omega⟩ rfl rfl rfl hl.1 (Nat.le_of_ble_eq_true rfl) rfl dX4_foldFloors_57 (fun E ce q9 H1 locs1 hz hS1 hce hcv hcl => by cases hz) (fun w8 H locs hz8 hP hS => ?_)
        cases Sum.inr.inj hz8
        obtain ⟨v9, hc9, hok⟩ := bd_some hok
        refine cRSl [.long v7, .int v8] S hK va_Pnil (c_X4_fold l dC dI cI cZ v7 v8 hc9) (lw_S qm_X4_257 qt_X4_fold qn_X4 qc_X4_fold) hd_X4_fold ⟨rfl, rfl⟩ ⟨Nat.le_of_ble_eq_true rfl, Nat.le_of_ble_eq_true rfl⟩ ⟨by show ((((kc + 1) + 1) + 1) + 1) ≤ 65; omega, by show ((((sc + 6) + 6) + 6) + 6) ≤ 390; omega⟩ rfl hl.1 (Nat.le_of_ble_eq_true rfl) rfl dX4_foldFloors_60 ?_
        refine lv_lstore_n (lv' := [(3, .long v9), (0, .ref n0), (5, .int l5_5)]) hx hb dX4_foldFloors_63 rfl hl (by decide) rfl (fun ls hl => ?_)
        refine lv_lload_n hx hb dX4_foldFloors_64 rfl (lv_at hl 0 rfl) ?_
        refine lv_aload_n hx hb dX4_foldFloors_65 rfl (lv_at hl 1 rfl) ?_
        refine lv_iload hx hb dX4_foldFloors_66 (lv_at hl 2 rfl) ?_
        obtain ⟨v10, hc10, hok⟩ := bN_some hok
        refine cXVi (ci := 4) (q0 := 0) [.int l5_5] S hK hP hD hS hA hX (c_X4_hoursUntilStop l hlt dC dI cI cZ n0 h0 h3 h4 h5 h6 c0 c8 c9 c10 c11 c12 c13 t0 t8 t9 t10 t11 t12 t13 i0 i1 i2 i3 i4 m0 m1 m2 _ sa uH uC uT uI uM l5_5 hc10) (lw_V qm_X4_335 qi_X4_hoursUntilStop qs_X4_hoursUntilStop qn_X4 qc_X4_hoursUntilStop) hd_X4_hoursUntilStop ⟨rfl, rfl⟩ ⟨Nat.le_of_ble_eq_true rfl, Nat.le_of_ble_eq_true rfl⟩ ⟨by show ((((kc + 1) + 1) + 1) + 1) + 1 ≤ 65; omega, by show ((((sc + 6) + 6) + 6) + 6) + 6 ≤ 390; omega⟩ rfl rfl rfl hl.1 (Nat.le_of_ble_eq_true rfl) rfl dX4_foldFloors_68 (fun _ => D_N hD) (fun E ce q9 H1 locs1 hz => by cases hz) (fun w10 H locs hz10 hP hD hS => ?_)
        cases Sum.inr.inj hz10
        obtain ⟨v11, hc11, hok⟩ := bd_some hok
        refine cRSl [.long v9, .int v10.1] S hK va_Pnil (c_X4_fold l dC dI cI cZ v9 v10.1 hc11) (lw_S qm_X4_257 qt_X4_fold qn_X4 qc_X4_fold) hd_X4_fold ⟨rfl, rfl⟩ ⟨Nat.le_of_ble_eq_true rfl, Nat.le_of_ble_eq_true rfl⟩ ⟨by show (((((kc + 1) + 1) + 1) + 1) + 1) ≤ 65; omega, by show (((((sc + 6) + 6) + 6) + 6) + 6) ≤ 390; omega⟩ rfl hl.1 (Nat.le_of_ble_eq_true rfl) rfl dX4_foldFloors_71 ?_
        refine lv_lstore_n (lv' := [(3, .long v11), (0, .ref n0), (5, .int l5_5)]) hx hb dX4_foldFloors_74 rfl hl (by decide) rfl (fun ls hl => ?_)
        refine lv_iinc (v := (l5_5 + 1)) (lv' := [(5, .int (l5_5 + 1)), (3, .long v11), (0, .ref n0)]) hx hb dX4_foldFloors_75 hl (k := 2) rfl rfl (by decide) rfl (fun ls hl => ?_)
        refine lv_goto (tgt := 5) hx hb dX4_foldFloors_78 (by decide) ?_
        exact ih5 v10.2 v11 (l5_5 + 1) (((((kc + 1) + 1) + 1) + 1) + 1) (((((sc + 6) + 6) + 6) + 6) + 6) (by omega) (by omega) _ _ hP hD hS _ (lv_sub hl [2, 1, 0] rfl) hok
  unfold p_X4_foldFloors at hok
  refine lv_lload_n hx hb dX4_foldFloors_0 rfl (lv_at hl 1 rfl) ?_
  refine lv_lstore_n (lv' := [(3, .long a1), (0, .ref n0), (1, .long a1)]) hx hb dX4_foldFloors_1 rfl hl (by decide) rfl (fun ls hl => ?_)
  refine lv_iconst (v := (0 : Int32)) hx hb dX4_foldFloors_2 (by decide) ?_
  refine lv_istore (lv' := [(5, .int (0 : Int32)), (3, .long a1), (0, .ref n0), (1, .long a1)]) hx hb dX4_foldFloors_3 hl (by decide) rfl (fun ls hl => ?_)
  exact L5 13 uT a1 (0 : Int32) 0 0 (by omega) (by omega) _ _ hP hD hS _ (lv_sub hl [2, 1, 0] rfl) hok
theorem hd_X4_foldTopics : yX4_foldTopics.cls = RX4 ∧ yX4_foldTopics.cls ≠ "java/lang/invoke/MethodHandle" ∧ yX4_foldTopics.cls ≠ "java/lang/invoke/VarHandle" ∧ (parseMethodDescriptor yX4_foldTopics.desc).map (fun d => d.parameters.length) = some 1 := by decide +kernel
def p_X4_foldTopics_L5 : Nat → tX1 → tX0 → tX0 → tX2 → tX3 → Int64 → Int32 → Option Int64
  | 0, _, _, _, _, _, _, _ => none
  | n + 1, uH, uC, uT, uI, uM, l5_3, l5_5 =>
    if (8 : Int32) ≤ l5_5 then
      some l5_3
    else
      bN (p_X4_isForbidden uH uC uT uI uM l5_5) (fun v1 =>
      bd (p_X4_bit v1) (fun v2 =>
      bd (p_X4_fold l5_3 v2) (fun v3 =>
      bN (p_X4_toCome uH uC uT uI uM l5_5) (fun v4 =>
      bd (p_X4_fold v3 v4) (fun v5 =>
      (p_X4_foldTopics_L5 n) uH uC uT uI uM v5 (l5_5 + 1))))))
def p_X4_foldTopics (uH : tX1) (uC : tX0) (uT : tX0) (uI : tX2) (uM : tX3) (a1 : Int64) : Option Int64 :=
  p_X4_foldTopics_L5 9 uH uC uT uI uM a1 (0 : Int32)
set_option maxHeartbeats 4000000 in
set_option maxRecDepth 100000 in
theorem c_X4_foldTopics (l : Launch) (hlt : l.stackTraces = false) (dC : Nat → ClassId) (dI : Nat → Nat → Nat) (cI cZ : ClassId) (n0 h0 h3 h4 h5 h6 c0 c8 c9 c10 c11 c12 c13 t0 t8 t9 t10 t11 t12 t13 i0 i1 i2 i3 i4 m0 m1 m2 : Nat) (sz : Nat) (sa : Nat → Nat) (uH : tX1) (uC : tX0) (uT : tX0) (uI : tX2) (uM : tX3) (a1 : Int64) {z : Int64} (hok : p_X4_foldTopics uH uC uT uI uM a1 = some z) : Met l yX4_foldTopics (Cond.code yX4_foldTopics cX4_foldTopics 6 (some .long) :: lw_all) { frames := 8, cells := 18, slots := 108, locals := 131 } (prX (dC, dI) vwCl (TYS cI cZ) (wN cI cZ n0 h0 h3 h4 h5 h6 c0 c8 c9 c10 c11 c12 c13 t0 t8 t9 t10 t11 t12 t13 i0 i1 i2 i3 i4 m0 m1 m2 uH uC uT uI uM) sz sa [.ref n0, .long a1]) (va_Ql (fun (r : Int64) (_ : Unit) => r = z) (fun _ t => va_P (dC, dI) vwCl (wN cI cZ n0 h0 h3 h4 h5 h6 c0 c8 c9 c10 c11 c12 c13 t0 t8 t9 t10 t11 t12 t13 i0 i1 i2 i3 i4 m0 m1 m2 uH uC uT uI uM) t.heap) (va_A (wN cI cZ n0 h0 h3 h4 h5 h6 c0 c8 c9 c10 c11 c12 c13 t0 t8 t9 t10 t11 t12 t13 i0 i1 i2 i3 i4 m0 m1 m2 uH uC uT uI uM) sz)) 18 108 (va_A (wN cI cZ n0 h0 h3 h4 h5 h6 c0 c8 c9 c10 c11 c12 c13 t0 t8 t9 t10 t11 t12 t13 i0 i1 i2 i3 i4 m0 m1 m2 uH uC uT uI uM) sz) := by
  refine oM (by decide) (Nat.le_of_ble_eq_true rfl) ?_
  intro p e s m args below meth c S hr hlk hnm hB ls hl
  have hx := S.1
  have hb := S.2.1
  have hml := S.2.2.1
  have hown : s.vm.findClass RX4 = some m.cls := S.2.2.2.1
  have hts := S.2.2.2.2
  have S : CallFix p m c cX4_foldTopics 6 s args lw_all RX4 := S
  have hl : lv_has ls 6 [(0, .ref n0), (1, .long a1)] := hl
  obtain ⟨hsz, hP, hK, hD0, hX⟩ := hB
  subst hsz
  have hD := hD0.self (sz := s.heap.size)
  generalize hAe : va_A (wN cI cZ n0 h0 h3 h4 h5 h6 c0 c8 c9 c10 c11 c12 c13 t0 t8 t9 t10 t11 t12 t13 i0 i1 i2 i3 i4 m0 m1 m2 uH uC uT uI uM) s.heap.size = A at hD hX ⊢
  have hA : ∀ q : Nat, s.heap.size ≤ q → A q := fun q h => by rw [← hAe]; exact Or.inr h
  have hS : va_S A s.heap s.heap [] := va_S.rf
  have hP : va_P (dC, dI) vwCl (wN cI cZ n0 h0 h3 h4 h5 h6 c0 c8 c9 c10 c11 c12 c13 t0 t8 t9 t10 t11 t12 t13 i0 i1 i2 i3 i4 m0 m1 m2 uH uC uT uI uM) s.heap := hP
  have L5 : ∀ n5 : Nat, ∀ (l5_3 : Int64) (l5_5 : Int32) (kc sc : Nat) (hkc : kc + 2 * n5 ≤ 18) (hsc : sc + 12 * n5 ≤ 108) (H : Heap) (locs : List Loc) (hP : va_P (dC, dI) vwCl (wN cI cZ n0 h0 h3 h4 h5 h6 c0 c8 c9 c10 c11 c12 c13 t0 t8 t9 t10 t11 t12 t13 i0 i1 i2 i3 i4 m0 m1 m2 uH uC uT uI uM) H) (hD : va_D A (wN cI cZ n0 h0 h3 h4 h5 h6 c0 c8 c9 c10 c11 c12 c13 t0 t8 t9 t10 t11 t12 t13 i0 i1 i2 i3 i4 m0 m1 m2 uH uC uT uI uM)) (hS : va_S A s.heap H locs) (ls : Array Slot) (hl : lv_has ls 6 [(0, .ref n0), (3, .long l5_3), (5, .int l5_5)]) (hok : p_X4_foldTopics_L5 n5 uH uC uT uI uM l5_3 l5_5 = some z), W p l e { frames := 8, cells := 18, slots := 108, locals := 131 } s m args below meth c H locs kc sc (MQ below (va_Ql (fun (r : Int64) (_ : Unit) => r = z) (fun _ t => va_P (dC, dI) vwCl (wN cI cZ n0 h0 h3 h4 h5 h6 c0 c8 c9 c10 c11 c12 c13 t0 t8 t9 t10 t11 t12 t13 i0 i1 i2 i3 i4 m0 m1 m2 uH uC uT uI uM) t.heap) A) args s 18 108 A) (F0 m 5 ls []) := by
    intro n5
    induction n5 with
    | zero =>
      intro l5_3 l5_5 kc sc hkc hsc H locs hP hD hS ls hl hok
      rw [p_X4_foldTopics_L5] at hok
      cases hok
    | succ n5 ih5 =>
      intro l5_3 l5_5 kc sc hkc hsc H locs hP hD hS ls hl hok
      rw [p_X4_foldTopics_L5] at hok
      refine lv_iload hx hb dX4_foldTopics_5 (lv_at hl 2 rfl) ?_
      refine lv_bipush (v := (8 : Int32)) hx hb dX4_foldTopics_7 (by decide) ?_
      refine lv_icmp_ge (tgt := 43) hx hb dX4_foldTopics_9 (by decide) (fun hc => ?_) (fun hc => ?_)
      · have hok := ip hok hc
        refine lv_lload_n hx hb dX4_foldTopics_43 rfl (lv_at hl 1 rfl) ?_
        have hok := Option.some.inj hok
        subst hok
        exact eWl S hr hlk rfl hP hS (by omega) (by omega) dX4_foldTopics_44
      · have hok := iq hok hc
        refine lv_lload_n hx hb dX4_foldTopics_12 rfl (lv_at hl 1 rfl) ?_
        refine lv_aload_n hx hb dX4_foldTopics_13 rfl (lv_at hl 0 rfl) ?_
        refine lv_iload hx hb dX4_foldTopics_14 (lv_at hl 2 rfl) ?_
        obtain ⟨v1, hc1, hok⟩ := bN_some hok
        refine cYVi (ci := 4) (q0 := 0) [.int l5_5] S hK hP hP hD hS hS hA hX (c_X4_isForbidden l hlt dC dI cI cZ n0 h0 h3 h4 h5 h6 c0 c8 c9 c10 c11 c12 c13 t0 t8 t9 t10 t11 t12 t13 i0 i1 i2 i3 i4 m0 m1 m2 _ sa uH uC uT uI uM l5_5 hc1) (lw_V qm_X4_338 qi_X4_isForbidden qs_X4_isForbidden qn_X4 qc_X4_isForbidden) hd_X4_isForbidden ⟨rfl, rfl⟩ ⟨Nat.le_of_ble_eq_true rfl, Nat.le_of_ble_eq_true rfl⟩ ⟨by show kc + 1 ≤ 18; omega, by show sc + 6 ≤ 108; omega⟩ rfl rfl rfl hl.1 (Nat.le_of_ble_eq_true rfl) rfl dX4_foldTopics_16 (fun E ce q9 H1 locs1 hz hS1 hce hcv hcl => by cases hz) (fun w1 H locs hz1 hP hS => ?_)
        cases Sum.inr.inj hz1
        obtain ⟨v2, hc2, hok⟩ := bd_some hok
        refine cRSi [.int v1] S hK va_Pnil (c_X4_bit l dC dI cI cZ v1 hc2) (lw_S qm_X4_323 qt_X4_bit qn_X4 qc_X4_bit) hd_X4_bit ⟨rfl, rfl⟩ ⟨Nat.le_of_ble_eq_true rfl, Nat.le_of_ble_eq_true rfl⟩ ⟨by show (kc + 1) ≤ 18; omega, by show (sc + 6) ≤ 108; omega⟩ rfl hl.1 (Nat.le_of_ble_eq_true rfl) rfl dX4_foldTopics_19 ?_
        obtain ⟨v3, hc3, hok⟩ := bd_some hok
        refine cRSl [.long l5_3, .int v2] S hK va_Pnil (c_X4_fold l dC dI cI cZ l5_3 v2 hc3) (lw_S qm_X4_257 qt_X4_fold qn_X4 qc_X4_fold) hd_X4_fold ⟨rfl, rfl⟩ ⟨Nat.le_of_ble_eq_true rfl, Nat.le_of_ble_eq_true rfl⟩ ⟨by show (kc + 1) ≤ 18; omega, by show (sc + 6) ≤ 108; omega⟩ rfl hl.1 (Nat.le_of_ble_eq_true rfl) rfl dX4_foldTopics_22 ?_
        refine lv_lstore_n (lv' := [(3, .long v3), (0, .ref n0), (5, .int l5_5)]) hx hb dX4_foldTopics_25 rfl hl (by decide) rfl (fun ls hl => ?_)
        refine lv_lload_n hx hb dX4_foldTopics_26 rfl (lv_at hl 0 rfl) ?_
        refine lv_aload_n hx hb dX4_foldTopics_27 rfl (lv_at hl 1 rfl) ?_
        refine lv_iload hx hb dX4_foldTopics_28 (lv_at hl 2 rfl) ?_
        obtain ⟨v4, hc4, hok⟩ := bN_some hok
        refine cYVi (ci := 4) (q0 := 0) [.int l5_5] S hK hP hP hD hS hS hA hX (c_X4_toCome l hlt dC dI cI cZ n0 h0 h3 h4 h5 h6 c0 c8 c9 c10 c11 c12 c13 t0 t8 t9 t10 t11 t12 t13 i0 i1 i2 i3 i4 m0 m1 m2 _ sa uH uC uT uI uM l5_5 hc4) (lw_V qm_X4_341 qi_X4_toCome qs_X4_toCome qn_X4 qc_X4_toCome) hd_X4_toCome ⟨rfl, rfl⟩ ⟨Nat.le_of_ble_eq_true rfl, Nat.le_of_ble_eq_true rfl⟩ ⟨by show (kc + 1) + 1 ≤ 18; omega, by show (sc + 6) + 6 ≤ 108; omega⟩ rfl rfl rfl hl.1 (Nat.le_of_ble_eq_true rfl) rfl dX4_foldTopics_30 (fun E ce q9 H1 locs1 hz hS1 hce hcv hcl => by cases hz) (fun w4 H locs hz4 hP hS => ?_)
        cases Sum.inr.inj hz4
        obtain ⟨v5, hc5, hok⟩ := bd_some hok
        refine cRSl [.long v3, .int v4] S hK va_Pnil (c_X4_fold l dC dI cI cZ v3 v4 hc5) (lw_S qm_X4_257 qt_X4_fold qn_X4 qc_X4_fold) hd_X4_fold ⟨rfl, rfl⟩ ⟨Nat.le_of_ble_eq_true rfl, Nat.le_of_ble_eq_true rfl⟩ ⟨by show ((kc + 1) + 1) ≤ 18; omega, by show ((sc + 6) + 6) ≤ 108; omega⟩ rfl hl.1 (Nat.le_of_ble_eq_true rfl) rfl dX4_foldTopics_33 ?_
        refine lv_lstore_n (lv' := [(3, .long v5), (0, .ref n0), (5, .int l5_5)]) hx hb dX4_foldTopics_36 rfl hl (by decide) rfl (fun ls hl => ?_)
        refine lv_iinc (v := (l5_5 + 1)) (lv' := [(5, .int (l5_5 + 1)), (3, .long v5), (0, .ref n0)]) hx hb dX4_foldTopics_37 hl (k := 2) rfl rfl (by decide) rfl (fun ls hl => ?_)
        refine lv_goto (tgt := 5) hx hb dX4_foldTopics_40 (by decide) ?_
        exact ih5 v5 (l5_5 + 1) ((kc + 1) + 1) ((sc + 6) + 6) (by omega) (by omega) _ _ hP hD hS _ (lv_sub hl [2, 1, 0] rfl) hok
  unfold p_X4_foldTopics at hok
  refine lv_lload_n hx hb dX4_foldTopics_0 rfl (lv_at hl 1 rfl) ?_
  refine lv_lstore_n (lv' := [(3, .long a1), (0, .ref n0), (1, .long a1)]) hx hb dX4_foldTopics_1 rfl hl (by decide) rfl (fun ls hl => ?_)
  refine lv_iconst (v := (0 : Int32)) hx hb dX4_foldTopics_2 (by decide) ?_
  refine lv_istore (lv' := [(5, .int (0 : Int32)), (3, .long a1), (0, .ref n0), (1, .long a1)]) hx hb dX4_foldTopics_3 hl (by decide) rfl (fun ls hl => ?_)
  exact L5 9 a1 (0 : Int32) 0 0 (by omega) (by omega) _ _ hP hD hS _ (lv_sub hl [2, 1, 0] rfl) hok
theorem hd_X4_foldInstalments : yX4_foldInstalments.cls = RX4 ∧ yX4_foldInstalments.cls ≠ "java/lang/invoke/MethodHandle" ∧ yX4_foldInstalments.cls ≠ "java/lang/invoke/VarHandle" ∧ (parseMethodDescriptor yX4_foldInstalments.desc).map (fun d => d.parameters.length) = some 1 := by decide +kernel
def p_X4_foldInstalments_L5 : Nat → tX1 → tX0 → tX0 → tX2 → tX3 → Int64 → Int32 → Option Int64
  | 0, _, _, _, _, _, _, _ => none
  | n + 1, uH, uC, uT, uI, uM, l5_3, l5_5 =>
    if uI.1 ≤ l5_5 then
      some l5_3
    else
      bN (p_X4_floorIn uH uC uT uI uM l5_5) (fun v1 =>
      bd (p_X4_fold l5_3 v1) (fun v2 =>
      bN (p_X4_paragraphIn uH uC uT uI uM l5_5) (fun v3 =>
      bd (p_X4_fold v2 v3) (fun v4 =>
      bN (p_X4_thrillIn uH uC uT uI uM l5_5) (fun v5 =>
      bd (p_X4_fold v4 v5) (fun v6 =>
      bN (p_X4_hourIn uH uC uT uI uM l5_5) (fun v7 =>
      bd (p_X4_fold v6 v7) (fun v8 =>
      (p_X4_foldInstalments_L5 n) uH uC uT uI uM v8 (l5_5 + 1)))))))))
def p_X4_foldInstalments (uH : tX1) (uC : tX0) (uT : tX0) (uI : tX2) (uM : tX3) (a1 : Int64) : Option Int64 :=
  p_X4_foldInstalments_L5 109 uH uC uT uI uM a1 (0 : Int32)
set_option maxHeartbeats 4000000 in
set_option maxRecDepth 100000 in
theorem c_X4_foldInstalments (l : Launch) (hlt : l.stackTraces = false) (dC : Nat → ClassId) (dI : Nat → Nat → Nat) (cI cZ : ClassId) (n0 h0 h3 h4 h5 h6 c0 c8 c9 c10 c11 c12 c13 t0 t8 t9 t10 t11 t12 t13 i0 i1 i2 i3 i4 m0 m1 m2 : Nat) (sz : Nat) (sa : Nat → Nat) (uH : tX1) (uC : tX0) (uT : tX0) (uI : tX2) (uM : tX3) (a1 : Int64) {z : Int64} (hok : p_X4_foldInstalments uH uC uT uI uM a1 = some z) : Met l yX4_foldInstalments (Cond.code yX4_foldInstalments cX4_foldInstalments 6 (some .long) :: lw_all) { frames := 8, cells := 436, slots := 2616, locals := 132 } (prX (dC, dI) vwCl (TYS cI cZ) (wN cI cZ n0 h0 h3 h4 h5 h6 c0 c8 c9 c10 c11 c12 c13 t0 t8 t9 t10 t11 t12 t13 i0 i1 i2 i3 i4 m0 m1 m2 uH uC uT uI uM) sz sa [.ref n0, .long a1]) (va_Ql (fun (r : Int64) (_ : Unit) => r = z) (fun _ t => va_P (dC, dI) vwCl (wN cI cZ n0 h0 h3 h4 h5 h6 c0 c8 c9 c10 c11 c12 c13 t0 t8 t9 t10 t11 t12 t13 i0 i1 i2 i3 i4 m0 m1 m2 uH uC uT uI uM) t.heap) (va_A (wN cI cZ n0 h0 h3 h4 h5 h6 c0 c8 c9 c10 c11 c12 c13 t0 t8 t9 t10 t11 t12 t13 i0 i1 i2 i3 i4 m0 m1 m2 uH uC uT uI uM) sz)) 436 2616 (va_A (wN cI cZ n0 h0 h3 h4 h5 h6 c0 c8 c9 c10 c11 c12 c13 t0 t8 t9 t10 t11 t12 t13 i0 i1 i2 i3 i4 m0 m1 m2 uH uC uT uI uM) sz) := by
  refine oM (by decide) (Nat.le_of_ble_eq_true rfl) ?_
  intro p e s m args below meth c S hr hlk hnm hB ls hl
  have hx := S.1
  have hb := S.2.1
  have hml := S.2.2.1
  have hown : s.vm.findClass RX4 = some m.cls := S.2.2.2.1
  have hts := S.2.2.2.2
  have S : CallFix p m c cX4_foldInstalments 6 s args lw_all RX4 := S
  have hl : lv_has ls 6 [(0, .ref n0), (1, .long a1)] := hl
  obtain ⟨hsz, hP, hK, hD0, hX⟩ := hB
  subst hsz
  have hD := hD0.self (sz := s.heap.size)
  generalize hAe : va_A (wN cI cZ n0 h0 h3 h4 h5 h6 c0 c8 c9 c10 c11 c12 c13 t0 t8 t9 t10 t11 t12 t13 i0 i1 i2 i3 i4 m0 m1 m2 uH uC uT uI uM) s.heap.size = A at hD hX ⊢
  have hA : ∀ q : Nat, s.heap.size ≤ q → A q := fun q h => by rw [← hAe]; exact Or.inr h
  have hS : va_S A s.heap s.heap [] := va_S.rf
  have hP : va_P (dC, dI) vwCl (wN cI cZ n0 h0 h3 h4 h5 h6 c0 c8 c9 c10 c11 c12 c13 t0 t8 t9 t10 t11 t12 t13 i0 i1 i2 i3 i4 m0 m1 m2 uH uC uT uI uM) s.heap := hP
  have L5 : ∀ n5 : Nat, ∀ (l5_3 : Int64) (l5_5 : Int32) (kc sc : Nat) (hkc : kc + 4 * n5 ≤ 436) (hsc : sc + 24 * n5 ≤ 2616) (H : Heap) (locs : List Loc) (hP : va_P (dC, dI) vwCl (wN cI cZ n0 h0 h3 h4 h5 h6 c0 c8 c9 c10 c11 c12 c13 t0 t8 t9 t10 t11 t12 t13 i0 i1 i2 i3 i4 m0 m1 m2 uH uC uT uI uM) H) (hD : va_D A (wN cI cZ n0 h0 h3 h4 h5 h6 c0 c8 c9 c10 c11 c12 c13 t0 t8 t9 t10 t11 t12 t13 i0 i1 i2 i3 i4 m0 m1 m2 uH uC uT uI uM)) (hS : va_S A s.heap H locs) (ls : Array Slot) (hl : lv_has ls 6 [(0, .ref n0), (3, .long l5_3), (5, .int l5_5)]) (hok : p_X4_foldInstalments_L5 n5 uH uC uT uI uM l5_3 l5_5 = some z), W p l e { frames := 8, cells := 436, slots := 2616, locals := 132 } s m args below meth c H locs kc sc (MQ below (va_Ql (fun (r : Int64) (_ : Unit) => r = z) (fun _ t => va_P (dC, dI) vwCl (wN cI cZ n0 h0 h3 h4 h5 h6 c0 c8 c9 c10 c11 c12 c13 t0 t8 t9 t10 t11 t12 t13 i0 i1 i2 i3 i4 m0 m1 m2 uH uC uT uI uM) t.heap) A) args s 436 2616 A) (F0 m 5 ls []) := by
    intro n5
    induction n5 with
    | zero =>
      intro l5_3 l5_5 kc sc hkc hsc H locs hP hD hS ls hl hok
      rw [p_X4_foldInstalments_L5] at hok
      cases hok
    | succ n5 ih5 =>
      intro l5_3 l5_5 kc sc hkc hsc H locs hP hD hS ls hl hok
      rw [p_X4_foldInstalments_L5] at hok
      refine lv_iload hx hb dX4_foldInstalments_5 (lv_at hl 2 rfl) ?_
      refine lv_aload_n hx hb dX4_foldInstalments_7 rfl (lv_at hl 0 rfl) ?_
      refine va_get (D := (dC, dI)) (ci := 4) (v := .ref i0) (C := RX4) (T := TX4) (N := 5) hx hb hts inX4 hown hK hP 0 rfl rfl 3 (by decide) (hts _ qf_X4_31) (fun _ h9 => h9) rfl dX4_foldInstalments_8 ?_
      refine va_get (D := (dC, dI)) (ci := 2) (v := .int uI.1) (C := RX2) (T := TX2) (N := 5) hx hb hts inX2 hown hK hP 20 rfl rfl 0 (by decide) (hts _ qf_X4_56) (fun _ h9 => h9) rfl dX4_foldInstalments_11 ?_
      refine lv_icmp_ge (tgt := 67) hx hb dX4_foldInstalments_14 (by decide) (fun hc => ?_) (fun hc => ?_)
      · have hok := ip hok hc
        refine lv_lload_n hx hb dX4_foldInstalments_67 rfl (lv_at hl 1 rfl) ?_
        have hok := Option.some.inj hok
        subst hok
        exact eWl S hr hlk rfl hP hS (by omega) (by omega) dX4_foldInstalments_68
      · have hok := iq hok hc
        refine lv_lload_n hx hb dX4_foldInstalments_17 rfl (lv_at hl 1 rfl) ?_
        refine lv_aload_n hx hb dX4_foldInstalments_18 rfl (lv_at hl 0 rfl) ?_
        refine lv_iload hx hb dX4_foldInstalments_19 (lv_at hl 2 rfl) ?_
        obtain ⟨v1, hc1, hok⟩ := bN_some hok
        refine cYVi (ci := 4) (q0 := 0) [.int l5_5] S hK hP hP hD hS hS hA hX (c_X4_floorIn l hlt dC dI cI cZ n0 h0 h3 h4 h5 h6 c0 c8 c9 c10 c11 c12 c13 t0 t8 t9 t10 t11 t12 t13 i0 i1 i2 i3 i4 m0 m1 m2 _ sa uH uC uT uI uM l5_5 hc1) (lw_V qm_X4_344 qi_X4_floorIn qs_X4_floorIn qn_X4 qc_X4_floorIn) hd_X4_floorIn ⟨rfl, rfl⟩ ⟨Nat.le_of_ble_eq_true rfl, Nat.le_of_ble_eq_true rfl⟩ ⟨by show kc + 1 ≤ 436; omega, by show sc + 6 ≤ 2616; omega⟩ rfl rfl rfl hl.1 (Nat.le_of_ble_eq_true rfl) rfl dX4_foldInstalments_21 (fun E ce q9 H1 locs1 hz hS1 hce hcv hcl => by cases hz) (fun w1 H locs hz1 hP hS => ?_)
        cases Sum.inr.inj hz1
        obtain ⟨v2, hc2, hok⟩ := bd_some hok
        refine cRSl [.long l5_3, .int v1] S hK va_Pnil (c_X4_fold l dC dI cI cZ l5_3 v1 hc2) (lw_S qm_X4_257 qt_X4_fold qn_X4 qc_X4_fold) hd_X4_fold ⟨rfl, rfl⟩ ⟨Nat.le_of_ble_eq_true rfl, Nat.le_of_ble_eq_true rfl⟩ ⟨by show (kc + 1) ≤ 436; omega, by show (sc + 6) ≤ 2616; omega⟩ rfl hl.1 (Nat.le_of_ble_eq_true rfl) rfl dX4_foldInstalments_24 ?_
        refine lv_lstore_n (lv' := [(3, .long v2), (0, .ref n0), (5, .int l5_5)]) hx hb dX4_foldInstalments_27 rfl hl (by decide) rfl (fun ls hl => ?_)
        refine lv_lload_n hx hb dX4_foldInstalments_28 rfl (lv_at hl 0 rfl) ?_
        refine lv_aload_n hx hb dX4_foldInstalments_29 rfl (lv_at hl 1 rfl) ?_
        refine lv_iload hx hb dX4_foldInstalments_30 (lv_at hl 2 rfl) ?_
        obtain ⟨v3, hc3, hok⟩ := bN_some hok
        refine cYVi (ci := 4) (q0 := 0) [.int l5_5] S hK hP hP hD hS hS hA hX (c_X4_paragraphIn l hlt dC dI cI cZ n0 h0 h3 h4 h5 h6 c0 c8 c9 c10 c11 c12 c13 t0 t8 t9 t10 t11 t12 t13 i0 i1 i2 i3 i4 m0 m1 m2 _ sa uH uC uT uI uM l5_5 hc3) (lw_V qm_X4_347 qi_X4_paragraphIn qs_X4_paragraphIn qn_X4 qc_X4_paragraphIn) hd_X4_paragraphIn ⟨rfl, rfl⟩ ⟨Nat.le_of_ble_eq_true rfl, Nat.le_of_ble_eq_true rfl⟩ ⟨by show (kc + 1) + 1 ≤ 436; omega, by show (sc + 6) + 6 ≤ 2616; omega⟩ rfl rfl rfl hl.1 (Nat.le_of_ble_eq_true rfl) rfl dX4_foldInstalments_32 (fun E ce q9 H1 locs1 hz hS1 hce hcv hcl => by cases hz) (fun w3 H locs hz3 hP hS => ?_)
        cases Sum.inr.inj hz3
        obtain ⟨v4, hc4, hok⟩ := bd_some hok
        refine cRSl [.long v2, .int v3] S hK va_Pnil (c_X4_fold l dC dI cI cZ v2 v3 hc4) (lw_S qm_X4_257 qt_X4_fold qn_X4 qc_X4_fold) hd_X4_fold ⟨rfl, rfl⟩ ⟨Nat.le_of_ble_eq_true rfl, Nat.le_of_ble_eq_true rfl⟩ ⟨by show ((kc + 1) + 1) ≤ 436; omega, by show ((sc + 6) + 6) ≤ 2616; omega⟩ rfl hl.1 (Nat.le_of_ble_eq_true rfl) rfl dX4_foldInstalments_35 ?_
        refine lv_lstore_n (lv' := [(3, .long v4), (0, .ref n0), (5, .int l5_5)]) hx hb dX4_foldInstalments_38 rfl hl (by decide) rfl (fun ls hl => ?_)
        refine lv_lload_n hx hb dX4_foldInstalments_39 rfl (lv_at hl 0 rfl) ?_
        refine lv_aload_n hx hb dX4_foldInstalments_40 rfl (lv_at hl 1 rfl) ?_
        refine lv_iload hx hb dX4_foldInstalments_41 (lv_at hl 2 rfl) ?_
        obtain ⟨v5, hc5, hok⟩ := bN_some hok
        refine cYVi (ci := 4) (q0 := 0) [.int l5_5] S hK hP hP hD hS hS hA hX (c_X4_thrillIn l hlt dC dI cI cZ n0 h0 h3 h4 h5 h6 c0 c8 c9 c10 c11 c12 c13 t0 t8 t9 t10 t11 t12 t13 i0 i1 i2 i3 i4 m0 m1 m2 _ sa uH uC uT uI uM l5_5 hc5) (lw_V qm_X4_350 qi_X4_thrillIn qs_X4_thrillIn qn_X4 qc_X4_thrillIn) hd_X4_thrillIn ⟨rfl, rfl⟩ ⟨Nat.le_of_ble_eq_true rfl, Nat.le_of_ble_eq_true rfl⟩ ⟨by show ((kc + 1) + 1) + 1 ≤ 436; omega, by show ((sc + 6) + 6) + 6 ≤ 2616; omega⟩ rfl rfl rfl hl.1 (Nat.le_of_ble_eq_true rfl) rfl dX4_foldInstalments_43 (fun E ce q9 H1 locs1 hz hS1 hce hcv hcl => by cases hz) (fun w5 H locs hz5 hP hS => ?_)
        cases Sum.inr.inj hz5
        obtain ⟨v6, hc6, hok⟩ := bd_some hok
        refine cRSl [.long v4, .int v5] S hK va_Pnil (c_X4_fold l dC dI cI cZ v4 v5 hc6) (lw_S qm_X4_257 qt_X4_fold qn_X4 qc_X4_fold) hd_X4_fold ⟨rfl, rfl⟩ ⟨Nat.le_of_ble_eq_true rfl, Nat.le_of_ble_eq_true rfl⟩ ⟨by show (((kc + 1) + 1) + 1) ≤ 436; omega, by show (((sc + 6) + 6) + 6) ≤ 2616; omega⟩ rfl hl.1 (Nat.le_of_ble_eq_true rfl) rfl dX4_foldInstalments_46 ?_
        refine lv_lstore_n (lv' := [(3, .long v6), (0, .ref n0), (5, .int l5_5)]) hx hb dX4_foldInstalments_49 rfl hl (by decide) rfl (fun ls hl => ?_)
        refine lv_lload_n hx hb dX4_foldInstalments_50 rfl (lv_at hl 0 rfl) ?_
        refine lv_aload_n hx hb dX4_foldInstalments_51 rfl (lv_at hl 1 rfl) ?_
        refine lv_iload hx hb dX4_foldInstalments_52 (lv_at hl 2 rfl) ?_
        obtain ⟨v7, hc7, hok⟩ := bN_some hok
        refine cYVi (ci := 4) (q0 := 0) [.int l5_5] S hK hP hP hD hS hS hA hX (c_X4_hourIn l hlt dC dI cI cZ n0 h0 h3 h4 h5 h6 c0 c8 c9 c10 c11 c12 c13 t0 t8 t9 t10 t11 t12 t13 i0 i1 i2 i3 i4 m0 m1 m2 _ sa uH uC uT uI uM l5_5 hc7) (lw_V qm_X4_353 qi_X4_hourIn qs_X4_hourIn qn_X4 qc_X4_hourIn) hd_X4_hourIn ⟨rfl, rfl⟩ ⟨Nat.le_of_ble_eq_true rfl, Nat.le_of_ble_eq_true rfl⟩ ⟨by show (((kc + 1) + 1) + 1) + 1 ≤ 436; omega, by show (((sc + 6) + 6) + 6) + 6 ≤ 2616; omega⟩ rfl rfl rfl hl.1 (Nat.le_of_ble_eq_true rfl) rfl dX4_foldInstalments_54 (fun E ce q9 H1 locs1 hz hS1 hce hcv hcl => by cases hz) (fun w7 H locs hz7 hP hS => ?_)
        cases Sum.inr.inj hz7
        obtain ⟨v8, hc8, hok⟩ := bd_some hok
        refine cRSl [.long v6, .int v7] S hK va_Pnil (c_X4_fold l dC dI cI cZ v6 v7 hc8) (lw_S qm_X4_257 qt_X4_fold qn_X4 qc_X4_fold) hd_X4_fold ⟨rfl, rfl⟩ ⟨Nat.le_of_ble_eq_true rfl, Nat.le_of_ble_eq_true rfl⟩ ⟨by show ((((kc + 1) + 1) + 1) + 1) ≤ 436; omega, by show ((((sc + 6) + 6) + 6) + 6) ≤ 2616; omega⟩ rfl hl.1 (Nat.le_of_ble_eq_true rfl) rfl dX4_foldInstalments_57 ?_
        refine lv_lstore_n (lv' := [(3, .long v8), (0, .ref n0), (5, .int l5_5)]) hx hb dX4_foldInstalments_60 rfl hl (by decide) rfl (fun ls hl => ?_)
        refine lv_iinc (v := (l5_5 + 1)) (lv' := [(5, .int (l5_5 + 1)), (3, .long v8), (0, .ref n0)]) hx hb dX4_foldInstalments_61 hl (k := 2) rfl rfl (by decide) rfl (fun ls hl => ?_)
        refine lv_goto (tgt := 5) hx hb dX4_foldInstalments_64 (by decide) ?_
        exact ih5 v8 (l5_5 + 1) ((((kc + 1) + 1) + 1) + 1) ((((sc + 6) + 6) + 6) + 6) (by omega) (by omega) _ _ hP hD hS _ (lv_sub hl [2, 1, 0] rfl) hok
  unfold p_X4_foldInstalments at hok
  refine lv_lload_n hx hb dX4_foldInstalments_0 rfl (lv_at hl 1 rfl) ?_
  refine lv_lstore_n (lv' := [(3, .long a1), (0, .ref n0), (1, .long a1)]) hx hb dX4_foldInstalments_1 rfl hl (by decide) rfl (fun ls hl => ?_)
  refine lv_iconst (v := (0 : Int32)) hx hb dX4_foldInstalments_2 (by decide) ?_
  refine lv_istore (lv' := [(5, .int (0 : Int32)), (3, .long a1), (0, .ref n0), (1, .long a1)]) hx hb dX4_foldInstalments_3 hl (by decide) rfl (fun ls hl => ?_)
  exact L5 109 a1 (0 : Int32) 0 0 (by omega) (by omega) _ _ hP hD hS _ (lv_sub hl [2, 1, 0] rfl) hok
theorem hd_X4_foldReaders : yX4_foldReaders.cls = RX4 ∧ yX4_foldReaders.cls ≠ "java/lang/invoke/MethodHandle" ∧ yX4_foldReaders.cls ≠ "java/lang/invoke/VarHandle" ∧ (parseMethodDescriptor yX4_foldReaders.desc).map (fun d => d.parameters.length) = some 1 := by decide +kernel
def p_X4_foldReaders_L5 : Nat → tX1 → tX0 → tX0 → tX2 → tX3 → Int64 → Int32 → Option Int64
  | 0, _, _, _, _, _, _, _ => none
  | n + 1, uH, uC, uT, uI, uM, l5_3, l5_5 =>
    if uH.2.2.1 ≤ l5_5 then
      some l5_3
    else
      bN (p_X4_warmthOf uH uC uT uI uM l5_5) (fun v1 =>
      bd (p_X4_fold l5_3 v1) (fun v2 =>
      bN (p_X4_isSubscriber uH uC uT uI uM l5_5) (fun v3 =>
      bd (p_X4_bit v3) (fun v4 =>
      bd (p_X4_fold v2 v4) (fun v5 =>
      (p_X4_foldReaders_L5 n) uH uC uT uI uM v5 (l5_5 + 1))))))
def p_X4_foldReaders (uH : tX1) (uC : tX0) (uT : tX0) (uI : tX2) (uM : tX3) (a1 : Int64) : Option Int64 :=
  p_X4_foldReaders_L5 9 uH uC uT uI uM a1 (0 : Int32)
set_option maxHeartbeats 4000000 in
set_option maxRecDepth 100000 in
theorem c_X4_foldReaders (l : Launch) (hlt : l.stackTraces = false) (dC : Nat → ClassId) (dI : Nat → Nat → Nat) (cI cZ : ClassId) (n0 h0 h3 h4 h5 h6 c0 c8 c9 c10 c11 c12 c13 t0 t8 t9 t10 t11 t12 t13 i0 i1 i2 i3 i4 m0 m1 m2 : Nat) (sz : Nat) (sa : Nat → Nat) (uH : tX1) (uC : tX0) (uT : tX0) (uI : tX2) (uM : tX3) (a1 : Int64) {z : Int64} (hok : p_X4_foldReaders uH uC uT uI uM a1 = some z) : Met l yX4_foldReaders (Cond.code yX4_foldReaders cX4_foldReaders 6 (some .long) :: lw_all) { frames := 8, cells := 18, slots := 108, locals := 132 } (prX (dC, dI) vwCl (TYS cI cZ) (wN cI cZ n0 h0 h3 h4 h5 h6 c0 c8 c9 c10 c11 c12 c13 t0 t8 t9 t10 t11 t12 t13 i0 i1 i2 i3 i4 m0 m1 m2 uH uC uT uI uM) sz sa [.ref n0, .long a1]) (va_Ql (fun (r : Int64) (_ : Unit) => r = z) (fun _ t => va_P (dC, dI) vwCl (wN cI cZ n0 h0 h3 h4 h5 h6 c0 c8 c9 c10 c11 c12 c13 t0 t8 t9 t10 t11 t12 t13 i0 i1 i2 i3 i4 m0 m1 m2 uH uC uT uI uM) t.heap) (va_A (wN cI cZ n0 h0 h3 h4 h5 h6 c0 c8 c9 c10 c11 c12 c13 t0 t8 t9 t10 t11 t12 t13 i0 i1 i2 i3 i4 m0 m1 m2 uH uC uT uI uM) sz)) 18 108 (va_A (wN cI cZ n0 h0 h3 h4 h5 h6 c0 c8 c9 c10 c11 c12 c13 t0 t8 t9 t10 t11 t12 t13 i0 i1 i2 i3 i4 m0 m1 m2 uH uC uT uI uM) sz) := by
  refine oM (by decide) (Nat.le_of_ble_eq_true rfl) ?_
  intro p e s m args below meth c S hr hlk hnm hB ls hl
  have hx := S.1
  have hb := S.2.1
  have hml := S.2.2.1
  have hown : s.vm.findClass RX4 = some m.cls := S.2.2.2.1
  have hts := S.2.2.2.2
  have S : CallFix p m c cX4_foldReaders 6 s args lw_all RX4 := S
  have hl : lv_has ls 6 [(0, .ref n0), (1, .long a1)] := hl
  obtain ⟨hsz, hP, hK, hD0, hX⟩ := hB
  subst hsz
  have hD := hD0.self (sz := s.heap.size)
  generalize hAe : va_A (wN cI cZ n0 h0 h3 h4 h5 h6 c0 c8 c9 c10 c11 c12 c13 t0 t8 t9 t10 t11 t12 t13 i0 i1 i2 i3 i4 m0 m1 m2 uH uC uT uI uM) s.heap.size = A at hD hX ⊢
  have hA : ∀ q : Nat, s.heap.size ≤ q → A q := fun q h => by rw [← hAe]; exact Or.inr h
  have hS : va_S A s.heap s.heap [] := va_S.rf
  have hP : va_P (dC, dI) vwCl (wN cI cZ n0 h0 h3 h4 h5 h6 c0 c8 c9 c10 c11 c12 c13 t0 t8 t9 t10 t11 t12 t13 i0 i1 i2 i3 i4 m0 m1 m2 uH uC uT uI uM) s.heap := hP
  have L5 : ∀ n5 : Nat, ∀ (l5_3 : Int64) (l5_5 : Int32) (kc sc : Nat) (hkc : kc + 2 * n5 ≤ 18) (hsc : sc + 12 * n5 ≤ 108) (H : Heap) (locs : List Loc) (hP : va_P (dC, dI) vwCl (wN cI cZ n0 h0 h3 h4 h5 h6 c0 c8 c9 c10 c11 c12 c13 t0 t8 t9 t10 t11 t12 t13 i0 i1 i2 i3 i4 m0 m1 m2 uH uC uT uI uM) H) (hD : va_D A (wN cI cZ n0 h0 h3 h4 h5 h6 c0 c8 c9 c10 c11 c12 c13 t0 t8 t9 t10 t11 t12 t13 i0 i1 i2 i3 i4 m0 m1 m2 uH uC uT uI uM)) (hS : va_S A s.heap H locs) (ls : Array Slot) (hl : lv_has ls 6 [(0, .ref n0), (3, .long l5_3), (5, .int l5_5)]) (hok : p_X4_foldReaders_L5 n5 uH uC uT uI uM l5_3 l5_5 = some z), W p l e { frames := 8, cells := 18, slots := 108, locals := 132 } s m args below meth c H locs kc sc (MQ below (va_Ql (fun (r : Int64) (_ : Unit) => r = z) (fun _ t => va_P (dC, dI) vwCl (wN cI cZ n0 h0 h3 h4 h5 h6 c0 c8 c9 c10 c11 c12 c13 t0 t8 t9 t10 t11 t12 t13 i0 i1 i2 i3 i4 m0 m1 m2 uH uC uT uI uM) t.heap) A) args s 18 108 A) (F0 m 5 ls []) := by
    intro n5
    induction n5 with
    | zero =>
      intro l5_3 l5_5 kc sc hkc hsc H locs hP hD hS ls hl hok
      rw [p_X4_foldReaders_L5] at hok
      cases hok
    | succ n5 ih5 =>
      intro l5_3 l5_5 kc sc hkc hsc H locs hP hD hS ls hl hok
      rw [p_X4_foldReaders_L5] at hok
      refine lv_iload hx hb dX4_foldReaders_5 (lv_at hl 2 rfl) ?_
      refine lv_aload_n hx hb dX4_foldReaders_7 rfl (lv_at hl 0 rfl) ?_
      refine va_get (D := (dC, dI)) (ci := 4) (v := .ref h0) (C := RX4) (T := TX4) (N := 5) hx hb hts inX4 hown hK hP 0 rfl rfl 0 (by decide) (hts _ qf_X4_12) (fun _ h9 => h9) rfl dX4_foldReaders_8 ?_
      refine va_get (D := (dC, dI)) (ci := 1) (v := .int uH.2.2.1) (C := RX1) (T := TX1) (N := 7) hx hb hts inX1 hown hK hP 1 rfl rfl 2 (by decide) (hts _ qf_X4_100) (fun _ h9 => h9) rfl dX4_foldReaders_11 ?_
      refine lv_icmp_ge (tgt := 48) hx hb dX4_foldReaders_14 (by decide) (fun hc => ?_) (fun hc => ?_)
      · have hok := ip hok hc
        refine lv_lload_n hx hb dX4_foldReaders_48 rfl (lv_at hl 1 rfl) ?_
        have hok := Option.some.inj hok
        subst hok
        exact eWl S hr hlk rfl hP hS (by omega) (by omega) dX4_foldReaders_49
      · have hok := iq hok hc
        refine lv_lload_n hx hb dX4_foldReaders_17 rfl (lv_at hl 1 rfl) ?_
        refine lv_aload_n hx hb dX4_foldReaders_18 rfl (lv_at hl 0 rfl) ?_
        refine lv_iload hx hb dX4_foldReaders_19 (lv_at hl 2 rfl) ?_
        obtain ⟨v1, hc1, hok⟩ := bN_some hok
        refine cYVi (ci := 4) (q0 := 0) [.int l5_5] S hK hP hP hD hS hS hA hX (c_X4_warmthOf l hlt dC dI cI cZ n0 h0 h3 h4 h5 h6 c0 c8 c9 c10 c11 c12 c13 t0 t8 t9 t10 t11 t12 t13 i0 i1 i2 i3 i4 m0 m1 m2 _ sa uH uC uT uI uM l5_5 hc1) (lw_V qm_X4_356 qi_X4_warmthOf qs_X4_warmthOf qn_X4 qc_X4_warmthOf) hd_X4_warmthOf ⟨rfl, rfl⟩ ⟨Nat.le_of_ble_eq_true rfl, Nat.le_of_ble_eq_true rfl⟩ ⟨by show kc + 1 ≤ 18; omega, by show sc + 6 ≤ 108; omega⟩ rfl rfl rfl hl.1 (Nat.le_of_ble_eq_true rfl) rfl dX4_foldReaders_21 (fun E ce q9 H1 locs1 hz hS1 hce hcv hcl => by cases hz) (fun w1 H locs hz1 hP hS => ?_)
        cases Sum.inr.inj hz1
        obtain ⟨v2, hc2, hok⟩ := bd_some hok
        refine cRSl [.long l5_3, .int v1] S hK va_Pnil (c_X4_fold l dC dI cI cZ l5_3 v1 hc2) (lw_S qm_X4_257 qt_X4_fold qn_X4 qc_X4_fold) hd_X4_fold ⟨rfl, rfl⟩ ⟨Nat.le_of_ble_eq_true rfl, Nat.le_of_ble_eq_true rfl⟩ ⟨by show (kc + 1) ≤ 18; omega, by show (sc + 6) ≤ 108; omega⟩ rfl hl.1 (Nat.le_of_ble_eq_true rfl) rfl dX4_foldReaders_24 ?_
        refine lv_lstore_n (lv' := [(3, .long v2), (0, .ref n0), (5, .int l5_5)]) hx hb dX4_foldReaders_27 rfl hl (by decide) rfl (fun ls hl => ?_)
        refine lv_lload_n hx hb dX4_foldReaders_28 rfl (lv_at hl 0 rfl) ?_
        refine lv_aload_n hx hb dX4_foldReaders_29 rfl (lv_at hl 1 rfl) ?_
        refine lv_iload hx hb dX4_foldReaders_30 (lv_at hl 2 rfl) ?_
        obtain ⟨v3, hc3, hok⟩ := bN_some hok
        refine cYVi (ci := 4) (q0 := 0) [.int l5_5] S hK hP hP hD hS hS hA hX (c_X4_isSubscriber l hlt dC dI cI cZ n0 h0 h3 h4 h5 h6 c0 c8 c9 c10 c11 c12 c13 t0 t8 t9 t10 t11 t12 t13 i0 i1 i2 i3 i4 m0 m1 m2 _ sa uH uC uT uI uM l5_5 hc3) (lw_V qm_X4_359 qi_X4_isSubscriber qs_X4_isSubscriber qn_X4 qc_X4_isSubscriber) hd_X4_isSubscriber ⟨rfl, rfl⟩ ⟨Nat.le_of_ble_eq_true rfl, Nat.le_of_ble_eq_true rfl⟩ ⟨by show (kc + 1) + 1 ≤ 18; omega, by show (sc + 6) + 6 ≤ 108; omega⟩ rfl rfl rfl hl.1 (Nat.le_of_ble_eq_true rfl) rfl dX4_foldReaders_32 (fun E ce q9 H1 locs1 hz hS1 hce hcv hcl => by cases hz) (fun w3 H locs hz3 hP hS => ?_)
        cases Sum.inr.inj hz3
        obtain ⟨v4, hc4, hok⟩ := bd_some hok
        refine cRSi [.int v3] S hK va_Pnil (c_X4_bit l dC dI cI cZ v3 hc4) (lw_S qm_X4_323 qt_X4_bit qn_X4 qc_X4_bit) hd_X4_bit ⟨rfl, rfl⟩ ⟨Nat.le_of_ble_eq_true rfl, Nat.le_of_ble_eq_true rfl⟩ ⟨by show ((kc + 1) + 1) ≤ 18; omega, by show ((sc + 6) + 6) ≤ 108; omega⟩ rfl hl.1 (Nat.le_of_ble_eq_true rfl) rfl dX4_foldReaders_35 ?_
        obtain ⟨v5, hc5, hok⟩ := bd_some hok
        refine cRSl [.long v2, .int v4] S hK va_Pnil (c_X4_fold l dC dI cI cZ v2 v4 hc5) (lw_S qm_X4_257 qt_X4_fold qn_X4 qc_X4_fold) hd_X4_fold ⟨rfl, rfl⟩ ⟨Nat.le_of_ble_eq_true rfl, Nat.le_of_ble_eq_true rfl⟩ ⟨by show ((kc + 1) + 1) ≤ 18; omega, by show ((sc + 6) + 6) ≤ 108; omega⟩ rfl hl.1 (Nat.le_of_ble_eq_true rfl) rfl dX4_foldReaders_38 ?_
        refine lv_lstore_n (lv' := [(3, .long v5), (0, .ref n0), (5, .int l5_5)]) hx hb dX4_foldReaders_41 rfl hl (by decide) rfl (fun ls hl => ?_)
        refine lv_iinc (v := (l5_5 + 1)) (lv' := [(5, .int (l5_5 + 1)), (3, .long v5), (0, .ref n0)]) hx hb dX4_foldReaders_42 hl (k := 2) rfl rfl (by decide) rfl (fun ls hl => ?_)
        refine lv_goto (tgt := 5) hx hb dX4_foldReaders_45 (by decide) ?_
        exact ih5 v5 (l5_5 + 1) ((kc + 1) + 1) ((sc + 6) + 6) (by omega) (by omega) _ _ hP hD hS _ (lv_sub hl [2, 1, 0] rfl) hok
  unfold p_X4_foldReaders at hok
  refine lv_lload_n hx hb dX4_foldReaders_0 rfl (lv_at hl 1 rfl) ?_
  refine lv_lstore_n (lv' := [(3, .long a1), (0, .ref n0), (1, .long a1)]) hx hb dX4_foldReaders_1 rfl hl (by decide) rfl (fun ls hl => ?_)
  refine lv_iconst (v := (0 : Int32)) hx hb dX4_foldReaders_2 (by decide) ?_
  refine lv_istore (lv' := [(5, .int (0 : Int32)), (3, .long a1), (0, .ref n0), (1, .long a1)]) hx hb dX4_foldReaders_3 hl (by decide) rfl (fun ls hl => ?_)
  exact L5 9 a1 (0 : Int32) 0 0 (by omega) (by omega) _ _ hP hD hS _ (lv_sub hl [2, 1, 0] rfl) hok
theorem hd_X4_foldMirrors : yX4_foldMirrors.cls = RX4 ∧ yX4_foldMirrors.cls ≠ "java/lang/invoke/MethodHandle" ∧ yX4_foldMirrors.cls ≠ "java/lang/invoke/VarHandle" ∧ (parseMethodDescriptor yX4_foldMirrors.desc).map (fun d => d.parameters.length) = some 1 := by decide +kernel
def p_X4_foldMirrors_L5 : Nat → tX1 → tX0 → tX0 → tX2 → tX3 → Int64 → Int32 → Option Int64
  | 0, _, _, _, _, _, _, _ => none
  | n + 1, uH, uC, uT, uI, uM, l5_3, l5_5 =>
    if uM.1 ≤ l5_5 then
      some l5_3
    else
      bN (p_X4_gradesBy uH uC uT uI uM l5_5) (fun v1 =>
      bd (p_X4_fold l5_3 v1) (fun v2 =>
      bN (p_X4_favouriteOf uH uC uT uI uM l5_5) (fun v3 =>
      bd (p_X4_fold v2 v3) (fun v4 =>
      (p_X4_foldMirrors_L5 n) uH uC uT uI uM v4 (l5_5 + 1)))))
def p_X4_foldMirrors (uH : tX1) (uC : tX0) (uT : tX0) (uI : tX2) (uM : tX3) (a1 : Int64) : Option Int64 :=
  p_X4_foldMirrors_L5 5 uH uC uT uI uM a1 (0 : Int32)
set_option maxHeartbeats 4000000 in
set_option maxRecDepth 100000 in
theorem c_X4_foldMirrors (l : Launch) (hlt : l.stackTraces = false) (dC : Nat → ClassId) (dI : Nat → Nat → Nat) (cI cZ : ClassId) (n0 h0 h3 h4 h5 h6 c0 c8 c9 c10 c11 c12 c13 t0 t8 t9 t10 t11 t12 t13 i0 i1 i2 i3 i4 m0 m1 m2 : Nat) (sz : Nat) (sa : Nat → Nat) (uH : tX1) (uC : tX0) (uT : tX0) (uI : tX2) (uM : tX3) (a1 : Int64) {z : Int64} (hok : p_X4_foldMirrors uH uC uT uI uM a1 = some z) : Met l yX4_foldMirrors (Cond.code yX4_foldMirrors cX4_foldMirrors 6 (some .long) :: lw_all) { frames := 8, cells := 10, slots := 60, locals := 136 } (prX (dC, dI) vwCl (TYS cI cZ) (wN cI cZ n0 h0 h3 h4 h5 h6 c0 c8 c9 c10 c11 c12 c13 t0 t8 t9 t10 t11 t12 t13 i0 i1 i2 i3 i4 m0 m1 m2 uH uC uT uI uM) sz sa [.ref n0, .long a1]) (va_Ql (fun (r : Int64) (_ : Unit) => r = z) (fun _ t => va_P (dC, dI) vwCl (wN cI cZ n0 h0 h3 h4 h5 h6 c0 c8 c9 c10 c11 c12 c13 t0 t8 t9 t10 t11 t12 t13 i0 i1 i2 i3 i4 m0 m1 m2 uH uC uT uI uM) t.heap) (va_A (wN cI cZ n0 h0 h3 h4 h5 h6 c0 c8 c9 c10 c11 c12 c13 t0 t8 t9 t10 t11 t12 t13 i0 i1 i2 i3 i4 m0 m1 m2 uH uC uT uI uM) sz)) 10 60 (va_A (wN cI cZ n0 h0 h3 h4 h5 h6 c0 c8 c9 c10 c11 c12 c13 t0 t8 t9 t10 t11 t12 t13 i0 i1 i2 i3 i4 m0 m1 m2 uH uC uT uI uM) sz) := by
  refine oM (by decide) (Nat.le_of_ble_eq_true rfl) ?_
  intro p e s m args below meth c S hr hlk hnm hB ls hl
  have hx := S.1
  have hb := S.2.1
  have hml := S.2.2.1
  have hown : s.vm.findClass RX4 = some m.cls := S.2.2.2.1
  have hts := S.2.2.2.2
  have S : CallFix p m c cX4_foldMirrors 6 s args lw_all RX4 := S
  have hl : lv_has ls 6 [(0, .ref n0), (1, .long a1)] := hl
  obtain ⟨hsz, hP, hK, hD0, hX⟩ := hB
  subst hsz
  have hD := hD0.self (sz := s.heap.size)
  generalize hAe : va_A (wN cI cZ n0 h0 h3 h4 h5 h6 c0 c8 c9 c10 c11 c12 c13 t0 t8 t9 t10 t11 t12 t13 i0 i1 i2 i3 i4 m0 m1 m2 uH uC uT uI uM) s.heap.size = A at hD hX ⊢
  have hA : ∀ q : Nat, s.heap.size ≤ q → A q := fun q h => by rw [← hAe]; exact Or.inr h
  have hS : va_S A s.heap s.heap [] := va_S.rf
  have hP : va_P (dC, dI) vwCl (wN cI cZ n0 h0 h3 h4 h5 h6 c0 c8 c9 c10 c11 c12 c13 t0 t8 t9 t10 t11 t12 t13 i0 i1 i2 i3 i4 m0 m1 m2 uH uC uT uI uM) s.heap := hP
  have L5 : ∀ n5 : Nat, ∀ (l5_3 : Int64) (l5_5 : Int32) (kc sc : Nat) (hkc : kc + 2 * n5 ≤ 10) (hsc : sc + 12 * n5 ≤ 60) (H : Heap) (locs : List Loc) (hP : va_P (dC, dI) vwCl (wN cI cZ n0 h0 h3 h4 h5 h6 c0 c8 c9 c10 c11 c12 c13 t0 t8 t9 t10 t11 t12 t13 i0 i1 i2 i3 i4 m0 m1 m2 uH uC uT uI uM) H) (hD : va_D A (wN cI cZ n0 h0 h3 h4 h5 h6 c0 c8 c9 c10 c11 c12 c13 t0 t8 t9 t10 t11 t12 t13 i0 i1 i2 i3 i4 m0 m1 m2 uH uC uT uI uM)) (hS : va_S A s.heap H locs) (ls : Array Slot) (hl : lv_has ls 6 [(0, .ref n0), (3, .long l5_3), (5, .int l5_5)]) (hok : p_X4_foldMirrors_L5 n5 uH uC uT uI uM l5_3 l5_5 = some z), W p l e { frames := 8, cells := 10, slots := 60, locals := 136 } s m args below meth c H locs kc sc (MQ below (va_Ql (fun (r : Int64) (_ : Unit) => r = z) (fun _ t => va_P (dC, dI) vwCl (wN cI cZ n0 h0 h3 h4 h5 h6 c0 c8 c9 c10 c11 c12 c13 t0 t8 t9 t10 t11 t12 t13 i0 i1 i2 i3 i4 m0 m1 m2 uH uC uT uI uM) t.heap) A) args s 10 60 A) (F0 m 5 ls []) := by
    intro n5
    induction n5 with
    | zero =>
      intro l5_3 l5_5 kc sc hkc hsc H locs hP hD hS ls hl hok
      rw [p_X4_foldMirrors_L5] at hok
      cases hok
    | succ n5 ih5 =>
      intro l5_3 l5_5 kc sc hkc hsc H locs hP hD hS ls hl hok
      rw [p_X4_foldMirrors_L5] at hok
      refine lv_iload hx hb dX4_foldMirrors_5 (lv_at hl 2 rfl) ?_
      refine lv_aload_n hx hb dX4_foldMirrors_7 rfl (lv_at hl 0 rfl) ?_
      refine va_get (D := (dC, dI)) (ci := 4) (v := .ref m0) (C := RX4) (T := TX4) (N := 5) hx hb hts inX4 hown hK hP 0 rfl rfl 4 (by decide) (hts _ qf_X4_38) (fun _ h9 => h9) rfl dX4_foldMirrors_8 ?_
      refine va_get (D := (dC, dI)) (ci := 3) (v := .int uM.1) (C := RX3) (T := TX3) (N := 3) hx hb hts inX3 hown hK hP 25 rfl rfl 0 (by decide) (hts _ qf_X4_116) (fun _ h9 => h9) rfl dX4_foldMirrors_11 ?_
      refine lv_icmp_ge (tgt := 45) hx hb dX4_foldMirrors_14 (by decide) (fun hc => ?_) (fun hc => ?_)
      · have hok := ip hok hc
        refine lv_lload_n hx hb dX4_foldMirrors_45 rfl (lv_at hl 1 rfl) ?_
        have hok := Option.some.inj hok
        subst hok
        exact eWl S hr hlk rfl hP hS (by omega) (by omega) dX4_foldMirrors_46
      · have hok := iq hok hc
        refine lv_lload_n hx hb dX4_foldMirrors_17 rfl (lv_at hl 1 rfl) ?_
        refine lv_aload_n hx hb dX4_foldMirrors_18 rfl (lv_at hl 0 rfl) ?_
        refine lv_iload hx hb dX4_foldMirrors_19 (lv_at hl 2 rfl) ?_
        obtain ⟨v1, hc1, hok⟩ := bN_some hok
        refine cYVi (ci := 4) (q0 := 0) [.int l5_5] S hK hP hP hD hS hS hA hX (c_X4_gradesBy l hlt dC dI cI cZ n0 h0 h3 h4 h5 h6 c0 c8 c9 c10 c11 c12 c13 t0 t8 t9 t10 t11 t12 t13 i0 i1 i2 i3 i4 m0 m1 m2 _ sa uH uC uT uI uM l5_5 hc1) (lw_V qm_X4_362 qi_X4_gradesBy qs_X4_gradesBy qn_X4 qc_X4_gradesBy) hd_X4_gradesBy ⟨rfl, rfl⟩ ⟨Nat.le_of_ble_eq_true rfl, Nat.le_of_ble_eq_true rfl⟩ ⟨by show kc + 1 ≤ 10; omega, by show sc + 6 ≤ 60; omega⟩ rfl rfl rfl hl.1 (Nat.le_of_ble_eq_true rfl) rfl dX4_foldMirrors_21 (fun E ce q9 H1 locs1 hz hS1 hce hcv hcl => by cases hz) (fun w1 H locs hz1 hP hS => ?_)
        cases Sum.inr.inj hz1
        obtain ⟨v2, hc2, hok⟩ := bd_some hok
        refine cRSl [.long l5_3, .int v1] S hK va_Pnil (c_X4_fold l dC dI cI cZ l5_3 v1 hc2) (lw_S qm_X4_257 qt_X4_fold qn_X4 qc_X4_fold) hd_X4_fold ⟨rfl, rfl⟩ ⟨Nat.le_of_ble_eq_true rfl, Nat.le_of_ble_eq_true rfl⟩ ⟨by show (kc + 1) ≤ 10; omega, by show (sc + 6) ≤ 60; omega⟩ rfl hl.1 (Nat.le_of_ble_eq_true rfl) rfl dX4_foldMirrors_24 ?_
        refine lv_lstore_n (lv' := [(3, .long v2), (0, .ref n0), (5, .int l5_5)]) hx hb dX4_foldMirrors_27 rfl hl (by decide) rfl (fun ls hl => ?_)
        refine lv_lload_n hx hb dX4_foldMirrors_28 rfl (lv_at hl 0 rfl) ?_
        refine lv_aload_n hx hb dX4_foldMirrors_29 rfl (lv_at hl 1 rfl) ?_
        refine lv_iload hx hb dX4_foldMirrors_30 (lv_at hl 2 rfl) ?_
        obtain ⟨v3, hc3, hok⟩ := bN_some hok
        refine cYVi (ci := 4) (q0 := 0) [.int l5_5] S hK hP hP hD hS hS hA hX (c_X4_favouriteOf l hlt dC dI cI cZ n0 h0 h3 h4 h5 h6 c0 c8 c9 c10 c11 c12 c13 t0 t8 t9 t10 t11 t12 t13 i0 i1 i2 i3 i4 m0 m1 m2 _ sa uH uC uT uI uM l5_5 hc3) (lw_V qm_X4_365 qi_X4_favouriteOf qs_X4_favouriteOf qn_X4 qc_X4_favouriteOf) hd_X4_favouriteOf ⟨rfl, rfl⟩ ⟨Nat.le_of_ble_eq_true rfl, Nat.le_of_ble_eq_true rfl⟩ ⟨by show (kc + 1) + 1 ≤ 10; omega, by show (sc + 6) + 6 ≤ 60; omega⟩ rfl rfl rfl hl.1 (Nat.le_of_ble_eq_true rfl) rfl dX4_foldMirrors_32 (fun E ce q9 H1 locs1 hz hS1 hce hcv hcl => by cases hz) (fun w3 H locs hz3 hP hS => ?_)
        cases Sum.inr.inj hz3
        obtain ⟨v4, hc4, hok⟩ := bd_some hok
        refine cRSl [.long v2, .int v3] S hK va_Pnil (c_X4_fold l dC dI cI cZ v2 v3 hc4) (lw_S qm_X4_257 qt_X4_fold qn_X4 qc_X4_fold) hd_X4_fold ⟨rfl, rfl⟩ ⟨Nat.le_of_ble_eq_true rfl, Nat.le_of_ble_eq_true rfl⟩ ⟨by show ((kc + 1) + 1) ≤ 10; omega, by show ((sc + 6) + 6) ≤ 60; omega⟩ rfl hl.1 (Nat.le_of_ble_eq_true rfl) rfl dX4_foldMirrors_35 ?_
        refine lv_lstore_n (lv' := [(3, .long v4), (0, .ref n0), (5, .int l5_5)]) hx hb dX4_foldMirrors_38 rfl hl (by decide) rfl (fun ls hl => ?_)
        refine lv_iinc (v := (l5_5 + 1)) (lv' := [(5, .int (l5_5 + 1)), (3, .long v4), (0, .ref n0)]) hx hb dX4_foldMirrors_39 hl (k := 2) rfl rfl (by decide) rfl (fun ls hl => ?_)
        refine lv_goto (tgt := 5) hx hb dX4_foldMirrors_42 (by decide) ?_
        exact ih5 v4 (l5_5 + 1) ((kc + 1) + 1) ((sc + 6) + 6) (by omega) (by omega) _ _ hP hD hS _ (lv_sub hl [2, 1, 0] rfl) hok
  unfold p_X4_foldMirrors at hok
  refine lv_lload_n hx hb dX4_foldMirrors_0 rfl (lv_at hl 1 rfl) ?_
  refine lv_lstore_n (lv' := [(3, .long a1), (0, .ref n0), (1, .long a1)]) hx hb dX4_foldMirrors_1 rfl hl (by decide) rfl (fun ls hl => ?_)
  refine lv_iconst (v := (0 : Int32)) hx hb dX4_foldMirrors_2 (by decide) ?_
  refine lv_istore (lv' := [(5, .int (0 : Int32)), (3, .long a1), (0, .ref n0), (1, .long a1)]) hx hb dX4_foldMirrors_3 hl (by decide) rfl (fun ls hl => ?_)
  exact L5 5 a1 (0 : Int32) 0 0 (by omega) (by omega) _ _ hP hD hS _ (lv_sub hl [2, 1, 0] rfl) hok
theorem hd_X4_digest : yX4_digest.cls = RX4 ∧ yX4_digest.cls ≠ "java/lang/invoke/MethodHandle" ∧ yX4_digest.cls ≠ "java/lang/invoke/VarHandle" ∧ (parseMethodDescriptor yX4_digest.desc).map (fun d => d.parameters.length) = some 0 := by decide +kernel
def p_X4_digest (uH : tX1) (uC : tX0) (uT : tX0) (uI : tX2) (uM : tX3) : Option (Int64 × tX0) :=
  bd (p_X4_foldLift uH uC uT uI uM (2293 : Int64)) (fun v1 =>
  bd (p_X4_foldForesight uH uC uT uI uM v1) (fun v2 =>
  bd (p_X4_foldFloors uH uC v2.2 uI uM v2.1) (fun v3 =>
  bd (p_X4_foldTopics uH uC v3.2 uI uM v3.1) (fun v4 =>
  bd (p_X4_foldInstalments uH uC v3.2 uI uM v4) (fun v5 =>
  bd (p_X4_foldReaders uH uC v3.2 uI uM v5) (fun v6 =>
  bd (p_X4_foldMirrors uH uC v3.2 uI uM v6) (fun v7 =>
  some (v7, v3.2))))))))
set_option maxHeartbeats 4000000 in
set_option maxRecDepth 100000 in
theorem c_X4_digest (l : Launch) (hlt : l.stackTraces = false) (dC : Nat → ClassId) (dI : Nat → Nat → Nat) (cI cZ : ClassId) (n0 h0 h3 h4 h5 h6 c0 c8 c9 c10 c11 c12 c13 t0 t8 t9 t10 t11 t12 t13 i0 i1 i2 i3 i4 m0 m1 m2 : Nat) (sz : Nat) (sa : Nat → Nat) (uH : tX1) (uC : tX0) (uT : tX0) (uI : tX2) (uM : tX3) {z : (Int64 × tX0)} (hok : p_X4_digest uH uC uT uI uM = some z) : Met l yX4_digest (Cond.code yX4_digest cX4_digest 3 (some .long) :: lw_all) { frames := 9, cells := 551, slots := 3306, locals := 161 } (prX (dC, dI) vwCl (TYS cI cZ) (wN cI cZ n0 h0 h3 h4 h5 h6 c0 c8 c9 c10 c11 c12 c13 t0 t8 t9 t10 t11 t12 t13 i0 i1 i2 i3 i4 m0 m1 m2 uH uC uT uI uM) sz sa [.ref n0]) (va_Ql (fun (r : Int64) (_ : Unit) => r = z.1) (fun _ t => va_P (dC, dI) vwCl (wN cI cZ n0 h0 h3 h4 h5 h6 c0 c8 c9 c10 c11 c12 c13 t0 t8 t9 t10 t11 t12 t13 i0 i1 i2 i3 i4 m0 m1 m2 uH uC z.2 uI uM) t.heap) (va_A (wN cI cZ n0 h0 h3 h4 h5 h6 c0 c8 c9 c10 c11 c12 c13 t0 t8 t9 t10 t11 t12 t13 i0 i1 i2 i3 i4 m0 m1 m2 uH uC uT uI uM) sz)) 551 3306 (va_A (wN cI cZ n0 h0 h3 h4 h5 h6 c0 c8 c9 c10 c11 c12 c13 t0 t8 t9 t10 t11 t12 t13 i0 i1 i2 i3 i4 m0 m1 m2 uH uC uT uI uM) sz) := by
  refine oM (by decide) (Nat.le_of_ble_eq_true rfl) ?_
  intro p e s m args below meth c S hr hlk hnm hB ls hl
  have hx := S.1
  have hb := S.2.1
  have hml := S.2.2.1
  have hown : s.vm.findClass RX4 = some m.cls := S.2.2.2.1
  have hts := S.2.2.2.2
  have S : CallFix p m c cX4_digest 3 s args lw_all RX4 := S
  have hl : lv_has ls 3 [(0, .ref n0)] := hl
  obtain ⟨hsz, hP, hK, hD0, hX⟩ := hB
  subst hsz
  have hD := hD0.self (sz := s.heap.size)
  generalize hAe : va_A (wN cI cZ n0 h0 h3 h4 h5 h6 c0 c8 c9 c10 c11 c12 c13 t0 t8 t9 t10 t11 t12 t13 i0 i1 i2 i3 i4 m0 m1 m2 uH uC uT uI uM) s.heap.size = A at hD hX ⊢
  have hA : ∀ q : Nat, s.heap.size ≤ q → A q := fun q h => by rw [← hAe]; exact Or.inr h
  have hS : va_S A s.heap s.heap [] := va_S.rf
  have hP : va_P (dC, dI) vwCl (wN cI cZ n0 h0 h3 h4 h5 h6 c0 c8 c9 c10 c11 c12 c13 t0 t8 t9 t10 t11 t12 t13 i0 i1 i2 i3 i4 m0 m1 m2 uH uC uT uI uM) s.heap := hP
  unfold p_X4_digest at hok
  refine lv_ldc2 (v := (2293 : Int64)) hx hb hown (hts _ ql_X4_231) dX4_digest_0 ?_
  refine lv_lstore_n (lv' := [(1, .long (2293 : Int64)), (0, .ref n0)]) hx hb dX4_digest_3 rfl hl (by decide) rfl (fun ls hl => ?_)
  refine lv_aload_n hx hb dX4_digest_4 rfl (lv_at hl 1 rfl) ?_
  refine lv_lload_n hx hb dX4_digest_5 rfl (lv_at hl 0 rfl) ?_
  obtain ⟨v1, hc1, hok⟩ := bd_some hok
  refine cRVl (ci := 4) (q0 := 0) [.long (2293 : Int64)] S hK hP (c_X4_foldLift l dC dI cI cZ n0 h0 h3 h4 h5 h6 c0 c8 c9 c10 c11 c12 c13 t0 t8 t9 t10 t11 t12 t13 i0 i1 i2 i3 i4 m0 m1 m2 uH uC uT uI uM (2293 : Int64) hc1) (lw_V qm_X4_233 qi_X4_foldLift qs_X4_foldLift qn_X4 qc_X4_foldLift) hd_X4_foldLift ⟨rfl, rfl⟩ ⟨Nat.le_of_ble_eq_true rfl, Nat.le_of_ble_eq_true rfl⟩ ⟨Nat.le_of_ble_eq_true rfl, Nat.le_of_ble_eq_true rfl⟩ rfl rfl rfl hl.1 (Nat.le_of_ble_eq_true rfl) rfl dX4_digest_6 ?_
  refine lv_lstore_n (lv' := [(1, .long v1), (0, .ref n0)]) hx hb dX4_digest_9 rfl hl (by decide) rfl (fun ls hl => ?_)
  refine lv_aload_n hx hb dX4_digest_10 rfl (lv_at hl 1 rfl) ?_
  refine lv_lload_n hx hb dX4_digest_11 rfl (lv_at hl 0 rfl) ?_
  obtain ⟨v2, hc2, hok⟩ := bd_some hok
  refine cQVl (ci := 4) (q0 := 0) [.long v1] S hK hP hD hS hA hX (c_X4_foldForesight l hlt dC dI cI cZ n0 h0 h3 h4 h5 h6 c0 c8 c9 c10 c11 c12 c13 t0 t8 t9 t10 t11 t12 t13 i0 i1 i2 i3 i4 m0 m1 m2 _ sa uH uC uT uI uM v1 hc2) (lw_V qm_X4_237 qi_X4_foldForesight qs_X4_foldForesight qn_X4 qc_X4_foldForesight) hd_X4_foldForesight ⟨rfl, rfl⟩ ⟨Nat.le_of_ble_eq_true rfl, Nat.le_of_ble_eq_true rfl⟩ ⟨Nat.le_of_ble_eq_true rfl, Nat.le_of_ble_eq_true rfl⟩ rfl rfl rfl hl.1 (Nat.le_of_ble_eq_true rfl) rfl dX4_digest_12 (D_N hD) (fun H locs hP hD hS => ?_)
  refine lv_lstore_n (lv' := [(1, .long v2.1), (0, .ref n0)]) hx hb dX4_digest_15 rfl hl (by decide) rfl (fun ls hl => ?_)
  refine lv_aload_n hx hb dX4_digest_16 rfl (lv_at hl 1 rfl) ?_
  refine lv_lload_n hx hb dX4_digest_17 rfl (lv_at hl 0 rfl) ?_
  obtain ⟨v3, hc3, hok⟩ := bd_some hok
  refine cQVl (ci := 4) (q0 := 0) [.long v2.1] S hK hP hD hS hA hX (c_X4_foldFloors l hlt dC dI cI cZ n0 h0 h3 h4 h5 h6 c0 c8 c9 c10 c11 c12 c13 t0 t8 t9 t10 t11 t12 t13 i0 i1 i2 i3 i4 m0 m1 m2 _ sa uH uC v2.2 uI uM v2.1 hc3) (lw_V qm_X4_240 qi_X4_foldFloors qs_X4_foldFloors qn_X4 qc_X4_foldFloors) hd_X4_foldFloors ⟨rfl, rfl⟩ ⟨Nat.le_of_ble_eq_true rfl, Nat.le_of_ble_eq_true rfl⟩ ⟨Nat.le_of_ble_eq_true rfl, Nat.le_of_ble_eq_true rfl⟩ rfl rfl rfl hl.1 (Nat.le_of_ble_eq_true rfl) rfl dX4_digest_18 (D_N hD) (fun H locs hP hD hS => ?_)
  refine lv_lstore_n (lv' := [(1, .long v3.1), (0, .ref n0)]) hx hb dX4_digest_21 rfl hl (by decide) rfl (fun ls hl => ?_)
  refine lv_aload_n hx hb dX4_digest_22 rfl (lv_at hl 1 rfl) ?_
  refine lv_lload_n hx hb dX4_digest_23 rfl (lv_at hl 0 rfl) ?_
  obtain ⟨v4, hc4, hok⟩ := bd_some hok
  refine cQVl (ci := 4) (q0 := 0) [.long v3.1] S hK hP hD hS hA hX (c_X4_foldTopics l hlt dC dI cI cZ n0 h0 h3 h4 h5 h6 c0 c8 c9 c10 c11 c12 c13 t0 t8 t9 t10 t11 t12 t13 i0 i1 i2 i3 i4 m0 m1 m2 _ sa uH uC v3.2 uI uM v3.1 hc4) (lw_V qm_X4_243 qi_X4_foldTopics qs_X4_foldTopics qn_X4 qc_X4_foldTopics) hd_X4_foldTopics ⟨rfl, rfl⟩ ⟨Nat.le_of_ble_eq_true rfl, Nat.le_of_ble_eq_true rfl⟩ ⟨Nat.le_of_ble_eq_true rfl, Nat.le_of_ble_eq_true rfl⟩ rfl rfl rfl hl.1 (Nat.le_of_ble_eq_true rfl) rfl dX4_digest_24 (D_N hD) (fun H locs hP hD hS => ?_)
  refine lv_lstore_n (lv' := [(1, .long v4), (0, .ref n0)]) hx hb dX4_digest_27 rfl hl (by decide) rfl (fun ls hl => ?_)
  refine lv_aload_n hx hb dX4_digest_28 rfl (lv_at hl 1 rfl) ?_
  refine lv_lload_n hx hb dX4_digest_29 rfl (lv_at hl 0 rfl) ?_
  obtain ⟨v5, hc5, hok⟩ := bd_some hok
  refine cQVl (ci := 4) (q0 := 0) [.long v4] S hK hP hD hS hA hX (c_X4_foldInstalments l hlt dC dI cI cZ n0 h0 h3 h4 h5 h6 c0 c8 c9 c10 c11 c12 c13 t0 t8 t9 t10 t11 t12 t13 i0 i1 i2 i3 i4 m0 m1 m2 _ sa uH uC v3.2 uI uM v4 hc5) (lw_V qm_X4_246 qi_X4_foldInstalments qs_X4_foldInstalments qn_X4 qc_X4_foldInstalments) hd_X4_foldInstalments ⟨rfl, rfl⟩ ⟨Nat.le_of_ble_eq_true rfl, Nat.le_of_ble_eq_true rfl⟩ ⟨Nat.le_of_ble_eq_true rfl, Nat.le_of_ble_eq_true rfl⟩ rfl rfl rfl hl.1 (Nat.le_of_ble_eq_true rfl) rfl dX4_digest_30 (D_N hD) (fun H locs hP hD hS => ?_)
  refine lv_lstore_n (lv' := [(1, .long v5), (0, .ref n0)]) hx hb dX4_digest_33 rfl hl (by decide) rfl (fun ls hl => ?_)
  refine lv_aload_n hx hb dX4_digest_34 rfl (lv_at hl 1 rfl) ?_
  refine lv_lload_n hx hb dX4_digest_35 rfl (lv_at hl 0 rfl) ?_
  obtain ⟨v6, hc6, hok⟩ := bd_some hok
  refine cQVl (ci := 4) (q0 := 0) [.long v5] S hK hP hD hS hA hX (c_X4_foldReaders l hlt dC dI cI cZ n0 h0 h3 h4 h5 h6 c0 c8 c9 c10 c11 c12 c13 t0 t8 t9 t10 t11 t12 t13 i0 i1 i2 i3 i4 m0 m1 m2 _ sa uH uC v3.2 uI uM v5 hc6) (lw_V qm_X4_249 qi_X4_foldReaders qs_X4_foldReaders qn_X4 qc_X4_foldReaders) hd_X4_foldReaders ⟨rfl, rfl⟩ ⟨Nat.le_of_ble_eq_true rfl, Nat.le_of_ble_eq_true rfl⟩ ⟨Nat.le_of_ble_eq_true rfl, Nat.le_of_ble_eq_true rfl⟩ rfl rfl rfl hl.1 (Nat.le_of_ble_eq_true rfl) rfl dX4_digest_36 (D_N hD) (fun H locs hP hD hS => ?_)
  refine lv_lstore_n (lv' := [(1, .long v6), (0, .ref n0)]) hx hb dX4_digest_39 rfl hl (by decide) rfl (fun ls hl => ?_)
  refine lv_aload_n hx hb dX4_digest_40 rfl (lv_at hl 1 rfl) ?_
  refine lv_lload_n hx hb dX4_digest_41 rfl (lv_at hl 0 rfl) ?_
  obtain ⟨v7, hc7, hok⟩ := bd_some hok
  refine cQVl (ci := 4) (q0 := 0) [.long v6] S hK hP hD hS hA hX (c_X4_foldMirrors l hlt dC dI cI cZ n0 h0 h3 h4 h5 h6 c0 c8 c9 c10 c11 c12 c13 t0 t8 t9 t10 t11 t12 t13 i0 i1 i2 i3 i4 m0 m1 m2 _ sa uH uC v3.2 uI uM v6 hc7) (lw_V qm_X4_252 qi_X4_foldMirrors qs_X4_foldMirrors qn_X4 qc_X4_foldMirrors) hd_X4_foldMirrors ⟨rfl, rfl⟩ ⟨Nat.le_of_ble_eq_true rfl, Nat.le_of_ble_eq_true rfl⟩ ⟨Nat.le_of_ble_eq_true rfl, Nat.le_of_ble_eq_true rfl⟩ rfl rfl rfl hl.1 (Nat.le_of_ble_eq_true rfl) rfl dX4_digest_42 (D_N hD) (fun H locs hP hD hS => ?_)
  have hok := Option.some.inj hok
  subst hok
  exact eWl S hr hlk rfl hP hS (Nat.le_of_ble_eq_true rfl) (Nat.le_of_ble_eq_true rfl) dX4_digest_45
