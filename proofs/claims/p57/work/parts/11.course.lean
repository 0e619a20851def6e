theorem hd_X0_startOver : yX0_startOver.cls = RX0 ∧ yX0_startOver.cls ≠ "java/lang/invoke/MethodHandle" ∧ yX0_startOver.cls ≠ "java/lang/invoke/VarHandle" ∧ (parseMethodDescriptor yX0_startOver.desc).map (fun d => d.parameters.length) = some 0 := by decide +kernel
def p_X0_startOver_L32 : Nat → tX0 → tX1 → Int32 → Option tX0
  | 0, _, _, _ => none
  | n + 1, uC, uH, l32_1 =>
    if (12 : Int32) ≤ l32_1 then
      some uC
    else
      gd l32_1 12 (
      (p_X0_startOver_L32 n) (uC.1, uC.2.1, uC.2.2.1, uC.2.2.2.1, uC.2.2.2.2.1, uC.2.2.2.2.2.1, uC.2.2.2.2.2.2.1, (upd uC.2.2.2.2.2.2.2.1 l32_1.toNatClampNeg (vp_nar .boolean (0 : Int32))), (upd uC.2.2.2.2.2.2.2.2.1 l32_1.toNatClampNeg (0 : Int32)), (upd uC.2.2.2.2.2.2.2.2.2.1 l32_1.toNatClampNeg (0 : Int32)), uC.2.2.2.2.2.2.2.2.2.2) uH (l32_1 + 1))
def p_X0_startOver (uC : tX0) (uH : tX1) : Option tX0 :=
  p_X0_startOver_L32 200 (uC.1, (0 : Int32), (0 : Int32), (0 : Int32), (0 : Int32), (0 : Int32), (0 : Int32), uC.2.2.2.2.2.2.2) uH (0 : Int32)
set_option maxHeartbeats 4000000 in
set_option maxRecDepth 100000 in
theorem c_X0_startOver (l : Launch) (dC : Nat → ClassId) (dI : Nat → Nat → Nat) (cI cZ : ClassId) (c0 c8 c9 c10 c11 c12 c13 h0 h3 h4 h5 h6 : Nat) (sz : Nat) (uC : tX0) (uH : tX1) {z : tX0} (hok : p_X0_startOver uC uH = some z) : Met l yX0_startOver (Cond.code yX0_startOver cX0_startOver 2 none :: lw_all) { frames := 0, cells := 0, slots := 0, locals := 0 } (prW (dC, dI) vwCl (TYS cI cZ) ((wX0 cI cZ c0 c8 c9 c10 c11 c12 c13 h0 uC) ++ (wX1 cI cZ h0 h3 h4 h5 h6 uH)) sz [.ref c0]) (va_Qv (fun _ : Unit => True) (fun _ t => va_P (dC, dI) vwCl ((wX0 cI cZ c0 c8 c9 c10 c11 c12 c13 h0 z) ++ (wX1 cI cZ h0 h3 h4 h5 h6 uH)) t.heap) (va_A ((wX0 cI cZ c0 c8 c9 c10 c11 c12 c13 h0 uC) ++ (wX1 cI cZ h0 h3 h4 h5 h6 uH)) sz)) 0 0 (va_A ((wX0 cI cZ c0 c8 c9 c10 c11 c12 c13 h0 uC) ++ (wX1 cI cZ h0 h3 h4 h5 h6 uH)) sz) := by
  refine oM (by decide) (Nat.le_of_ble_eq_true rfl) ?_
  intro p e s m args below meth c S hr hlk hnm hB ls hl
  have hx := S.1
  have hb := S.2.1
  have hml := S.2.2.1
  have hown : s.vm.findClass RX0 = some m.cls := S.2.2.2.1
  have hts := S.2.2.2.2
  have S : CallFix p m c cX0_startOver 2 s args lw_all RX0 := S
  have hl : lv_has ls 2 [(0, .ref c0)] := hl
  obtain ⟨hsz, hP, hK, hD0⟩ := hB
  subst hsz
  have hD := hD0.self (sz := s.heap.size)
  generalize hAe : va_A ((wX0 cI cZ c0 c8 c9 c10 c11 c12 c13 h0 uC) ++ (wX1 cI cZ h0 h3 h4 h5 h6 uH)) s.heap.size = A at hD ⊢
  have hA : ∀ q : Nat, s.heap.size ≤ q → A q := fun q h => by rw [← hAe]; exact Or.inr h
  have hS : va_S A s.heap s.heap [] := va_S.rf
  have hP : va_P (dC, dI) vwCl ((wX0 cI cZ c0 c8 c9 c10 c11 c12 c13 h0 uC) ++ (wX1 cI cZ h0 h3 h4 h5 h6 uH)) s.heap := hP
  have L32 : ∀ n32 : Nat, ∀ (uC : tX0) (l32_1 : Int32) (H : Heap) (locs : List Loc) (hP : va_P (dC, dI) vwCl ((wX0 cI cZ c0 c8 c9 c10 c11 c12 c13 h0 uC) ++ (wX1 cI cZ h0 h3 h4 h5 h6 uH)) H) (hD : va_D A ((wX0 cI cZ c0 c8 c9 c10 c11 c12 c13 h0 uC) ++ (wX1 cI cZ h0 h3 h4 h5 h6 uH))) (hS : va_S A s.heap H locs) (ls : Array Slot) (hl : lv_has ls 2 [(0, .ref c0), (1, .int l32_1)]) (hok : p_X0_startOver_L32 n32 uC uH l32_1 = some z), W p l e { frames := 0, cells := 0, slots := 0, locals := 0 } s m args below meth c H locs 0 0 (MQ below (va_Qv (fun _ : Unit => True) (fun _ t => va_P (dC, dI) vwCl ((wX0 cI cZ c0 c8 c9 c10 c11 c12 c13 h0 z) ++ (wX1 cI cZ h0 h3 h4 h5 h6 uH)) t.heap) A) args s 0 0 A) (F0 m 32 ls []) := by
    intro n32
    induction n32 with
    | zero =>
      intro uC l32_1 H locs hP hD hS ls hl hok
      rw [p_X0_startOver_L32] at hok
      cases hok
    | succ n32 ih32 =>
      intro uC l32_1 H locs hP hD hS ls hl hok
      rw [p_X0_startOver_L32] at hok
      refine lv_iload_n hx hb dX0_startOver_32 rfl (lv_at hl 1 rfl) ?_
      refine lv_bipush (v := (12 : Int32)) hx hb dX0_startOver_33 (by decide) ?_
      refine lv_icmp_ge (tgt := 65) hx hb dX0_startOver_35 (by decide) (fun hc => ?_) (fun hc => ?_)
      · have hok := ip hok hc
        have hok := Option.some.inj hok
        subst hok
        exact eWv S hr hlk hP hS (Nat.le_of_ble_eq_true rfl) (Nat.le_of_ble_eq_true rfl) dX0_startOver_65
      · have hok := iq hok hc
        refine lv_aload_n hx hb dX0_startOver_38 rfl (lv_at hl 0 rfl) ?_
        refine va_get (D := (dC, dI)) (ci := 0) (v := .ref c8) (C := RX0) (T := TX0) (N := 14) hx hb hts inX0 hown hK hP 0 rfl rfl 8 (by decide) (hts _ qf_X0_33) (fun _ h9 => h9) rfl dX0_startOver_39 ?_
        refine lv_iload_n hx hb dX0_startOver_42 rfl (lv_at hl 1 rfl) ?_
        refine lv_iconst (v := (0 : Int32)) hx hb dX0_startOver_43 (by decide) ?_
        obtain ⟨hi1, hok⟩ := gd_some hok
        refine va_zast hx hb hK hP hD hS 1 1 rfl rfl hi1 dX0_startOver_44 (fun H locs hP _ hS => ?_)
        have hP : va_P (dC, dI) vwCl ((wX0 cI cZ c0 c8 c9 c10 c11 c12 c13 h0 (uC.1, uC.2.1, uC.2.2.1, uC.2.2.2.1, uC.2.2.2.2.1, uC.2.2.2.2.2.1, uC.2.2.2.2.2.2.1, (upd uC.2.2.2.2.2.2.2.1 l32_1.toNatClampNeg (vp_nar .boolean (0 : Int32))), uC.2.2.2.2.2.2.2.2)) ++ (wX1 cI cZ h0 h3 h4 h5 h6 uH)) H := hP
        have hD : va_D A ((wX0 cI cZ c0 c8 c9 c10 c11 c12 c13 h0 (uC.1, uC.2.1, uC.2.2.1, uC.2.2.2.1, uC.2.2.2.2.1, uC.2.2.2.2.2.1, uC.2.2.2.2.2.2.1, (upd uC.2.2.2.2.2.2.2.1 l32_1.toNatClampNeg (vp_nar .boolean (0 : Int32))), uC.2.2.2.2.2.2.2.2)) ++ (wX1 cI cZ h0 h3 h4 h5 h6 uH)) := D_CH hD
        refine lv_aload_n hx hb dX0_startOver_45 rfl (lv_at hl 0 rfl) ?_
        refine va_get (D := (dC, dI)) (ci := 0) (v := .ref c9) (C := RX0) (T := TX0) (N := 14) hx hb hts inX0 hown hK hP 0 rfl rfl 9 (by decide) (hts _ qf_X0_37) (fun _ h9 => h9) rfl dX0_startOver_46 ?_
        refine lv_iload_n hx hb dX0_startOver_49 rfl (lv_at hl 1 rfl) ?_
        refine lv_iconst (v := (0 : Int32)) hx hb dX0_startOver_50 (by decide) ?_
        refine va_iast hx hb hK hP hD hS 2 0 rfl rfl hi1 dX0_startOver_51 (fun H locs hP _ hS => ?_)
        have hP : va_P (dC, dI) vwCl ((wX0 cI cZ c0 c8 c9 c10 c11 c12 c13 h0 (uC.1, uC.2.1, uC.2.2.1, uC.2.2.2.1, uC.2.2.2.2.1, uC.2.2.2.2.2.1, uC.2.2.2.2.2.2.1, (upd uC.2.2.2.2.2.2.2.1 l32_1.toNatClampNeg (vp_nar .boolean (0 : Int32))), (upd uC.2.2.2.2.2.2.2.2.1 l32_1.toNatClampNeg (0 : Int32)), uC.2.2.2.2.2.2.2.2.2)) ++ (wX1 cI cZ h0 h3 h4 h5 h6 uH)) H := hP
        have hD : va_D A ((wX0 cI cZ c0 c8 c9 c10 c11 c12 c13 h0 (uC.1, uC.2.1, uC.2.2.1, uC.2.2.2.1, uC.2.2.2.2.1, uC.2.2.2.2.2.1, uC.2.2.2.2.2.2.1, (upd uC.2.2.2.2.2.2.2.1 l32_1.toNatClampNeg (vp_nar .boolean (0 : Int32))), (upd uC.2.2.2.2.2.2.2.2.1 l32_1.toNatClampNeg (0 : Int32)), uC.2.2.2.2.2.2.2.2.2)) ++ (wX1 cI cZ h0 h3 h4 h5 h6 uH)) := D_CH hD
        refine lv_aload_n hx hb dX0_startOver_52 rfl (lv_at hl 0 rfl) ?_
        refine va_get (D := (dC, dI)) (ci := 0) (v := .ref c10) (C := RX0) (T := TX0) (N := 14) hx hb hts inX0 hown hK hP 0 rfl rfl 10 (by decide) (hts _ qf_X0_41) (fun _ h9 => h9) rfl dX0_startOver_53 ?_
        refine lv_iload_n hx hb dX0_startOver_56 rfl (lv_at hl 1 rfl) ?_
        refine lv_iconst (v := (0 : Int32)) hx hb dX0_startOver_57 (by decide) ?_
        refine va_iast hx hb hK hP hD hS 3 0 rfl rfl hi1 dX0_startOver_58 (fun H locs hP _ hS => ?_)
        have hP : va_P (dC, dI) vwCl ((wX0 cI cZ c0 c8 c9 c10 c11 c12 c13 h0 (uC.1, uC.2.1, uC.2.2.1, uC.2.2.2.1, uC.2.2.2.2.1, uC.2.2.2.2.2.1, uC.2.2.2.2.2.2.1, (upd uC.2.2.2.2.2.2.2.1 l32_1.toNatClampNeg (vp_nar .boolean (0 : Int32))), (upd uC.2.2.2.2.2.2.2.2.1 l32_1.toNatClampNeg (0 : Int32)), (upd uC.2.2.2.2.2.2.2.2.2.1 l32_1.toNatClampNeg (0 : Int32)), uC.2.2.2.2.2.2.2.2.2.2)) ++ (wX1 cI cZ h0 h3 h4 h5 h6 uH)) H := hP
        have hD : va_D A ((wX0 cI cZ c0 c8 c9 c10 c11 c12 c13 h0 (uC.1, uC.2.1, uC.2.2.1, uC.2.2.2.1, uC.2.2.2.2.1, uC.2.2.2.2.2.1, uC.2.2.2.2.2.2.1, (upd uC.2.2.2.2.2.2.2.1 l32_1.toNatClampNeg (vp_nar .boolean (0 : Int32))), (upd uC.2.2.2.2.2.2.2.2.1 l32_1.toNatClampNeg (0 : Int32)), (upd uC.2.2.2.2.2.2.2.2.2.1 l32_1.toNatClampNeg (0 : Int32)), uC.2.2.2.2.2.2.2.2.2.2)) ++ (wX1 cI cZ h0 h3 h4 h5 h6 uH)) := D_CH hD
        refine lv_iinc (v := (l32_1 + 1)) (lv' := [(1, .int (l32_1 + 1)), (0, .ref c0)]) hx hb dX0_startOver_59 hl (k := 1) rfl rfl (by decide) rfl (fun ls hl => ?_)
        refine lv_goto (tgt := 32) hx hb dX0_startOver_62 (by decide) ?_
        exact ih32 (uC.1, uC.2.1, uC.2.2.1, uC.2.2.2.1, uC.2.2.2.2.1, uC.2.2.2.2.2.1, uC.2.2.2.2.2.2.1, (upd uC.2.2.2.2.2.2.2.1 l32_1.toNatClampNeg (vp_nar .boolean (0 : Int32))), (upd uC.2.2.2.2.2.2.2.2.1 l32_1.toNatClampNeg (0 : Int32)), (upd uC.2.2.2.2.2.2.2.2.2.1 l32_1.toNatClampNeg (0 : Int32)), uC.2.2.2.2.2.2.2.2.2.2) (l32_1 + 1) _ _ hP hD hS _ (lv_sub hl [1, 0] rfl) hok
  unfold p_X0_startOver at hok
  refine lv_aload_n hx hb dX0_startOver_0 rfl (lv_at hl 0 rfl) ?_
  refine lv_iconst (v := (0 : Int32)) hx hb dX0_startOver_1 (by decide) ?_
  refine va_put (D := (dC, dI)) (ci := 0) (v := .int (0 : Int32)) (ty := .int) (C := RX0) (T := TX0) (N := 14) hx hb hts inX0 tyX0 tyX0_ok nmX0 hown hK hP hD hS 0 rfl rfl 2 (by decide) (hts _ qf_X0_15) (fun _ h9 => h9) rfl (tyX0_ok 2 (by decide)) rfl rfl (Nat.le_of_ble_eq_true rfl) dX0_startOver_2 (fun H locs hP _ hS => ?_)
  have hP : va_P (dC, dI) vwCl ((wX0 cI cZ c0 c8 c9 c10 c11 c12 c13 h0 (uC.1, (0 : Int32), uC.2.2)) ++ (wX1 cI cZ h0 h3 h4 h5 h6 uH)) H := hP
  have hD : va_D A ((wX0 cI cZ c0 c8 c9 c10 c11 c12 c13 h0 (uC.1, (0 : Int32), uC.2.2)) ++ (wX1 cI cZ h0 h3 h4 h5 h6 uH)) := D_CH hD
  refine lv_aload_n hx hb dX0_startOver_5 rfl (lv_at hl 0 rfl) ?_
  refine lv_iconst (v := (0 : Int32)) hx hb dX0_startOver_6 (by decide) ?_
  refine va_put (D := (dC, dI)) (ci := 0) (v := .int (0 : Int32)) (ty := .int) (C := RX0) (T := TX0) (N := 14) hx hb hts inX0 tyX0 tyX0_ok nmX0 hown hK hP hD hS 0 rfl rfl 3 (by decide) (hts _ qf_X0_18) (fun _ h9 => h9) rfl (tyX0_ok 3 (by decide)) rfl rfl (Nat.le_of_ble_eq_true rfl) dX0_startOver_7 (fun H locs hP _ hS => ?_)
  have hP : va_P (dC, dI) vwCl ((wX0 cI cZ c0 c8 c9 c10 c11 c12 c13 h0 (uC.1, (0 : Int32), (0 : Int32), uC.2.2.2)) ++ (wX1 cI cZ h0 h3 h4 h5 h6 uH)) H := hP
  have hD : va_D A ((wX0 cI cZ c0 c8 c9 c10 c11 c12 c13 h0 (uC.1, (0 : Int32), (0 : Int32), uC.2.2.2)) ++ (wX1 cI cZ h0 h3 h4 h5 h6 uH)) := D_CH hD
  refine lv_aload_n hx hb dX0_startOver_10 rfl (lv_at hl 0 rfl) ?_
  refine lv_iconst (v := (0 : Int32)) hx hb dX0_startOver_11 (by decide) ?_
  refine va_put (D := (dC, dI)) (ci := 0) (v := .int (0 : Int32)) (ty := .int) (C := RX0) (T := TX0) (N := 14) hx hb hts inX0 tyX0 tyX0_ok nmX0 hown hK hP hD hS 0 rfl rfl 4 (by decide) (hts _ qf_X0_21) (fun _ h9 => h9) rfl (tyX0_ok 4 (by decide)) rfl rfl (Nat.le_of_ble_eq_true rfl) dX0_startOver_12 (fun H locs hP _ hS => ?_)
  have hP : va_P (dC, dI) vwCl ((wX0 cI cZ c0 c8 c9 c10 c11 c12 c13 h0 (uC.1, (0 : Int32), (0 : Int32), (0 : Int32), uC.2.2.2.2)) ++ (wX1 cI cZ h0 h3 h4 h5 h6 uH)) H := hP
  have hD : va_D A ((wX0 cI cZ c0 c8 c9 c10 c11 c12 c13 h0 (uC.1, (0 : Int32), (0 : Int32), (0 : Int32), uC.2.2.2.2)) ++ (wX1 cI cZ h0 h3 h4 h5 h6 uH)) := D_CH hD
  refine lv_aload_n hx hb dX0_startOver_15 rfl (lv_at hl 0 rfl) ?_
  refine lv_iconst (v := (0 : Int32)) hx hb dX0_startOver_16 (by decide) ?_
  refine va_put (D := (dC, dI)) (ci := 0) (v := .int (0 : Int32)) (ty := .int) (C := RX0) (T := TX0) (N := 14) hx hb hts inX0 tyX0 tyX0_ok nmX0 hown hK hP hD hS 0 rfl rfl 5 (by decide) (hts _ qf_X0_24) (fun _ h9 => h9) rfl (tyX0_ok 5 (by decide)) rfl rfl (Nat.le_of_ble_eq_true rfl) dX0_startOver_17 (fun H locs hP _ hS => ?_)
  have hP : va_P (dC, dI) vwCl ((wX0 cI cZ c0 c8 c9 c10 c11 c12 c13 h0 (uC.1, (0 : Int32), (0 : Int32), (0 : Int32), (0 : Int32), uC.2.2.2.2.2)) ++ (wX1 cI cZ h0 h3 h4 h5 h6 uH)) H := hP
  have hD : va_D A ((wX0 cI cZ c0 c8 c9 c10 c11 c12 c13 h0 (uC.1, (0 : Int32), (0 : Int32), (0 : Int32), (0 : Int32), uC.2.2.2.2.2)) ++ (wX1 cI cZ h0 h3 h4 h5 h6 uH)) := D_CH hD
  refine lv_aload_n hx hb dX0_startOver_20 rfl (lv_at hl 0 rfl) ?_
  refine lv_iconst (v := (0 : Int32)) hx hb dX0_startOver_21 (by decide) ?_
  refine va_put (D := (dC, dI)) (ci := 0) (v := .int (0 : Int32)) (ty := .int) (C := RX0) (T := TX0) (N := 14) hx hb hts inX0 tyX0 tyX0_ok nmX0 hown hK hP hD hS 0 rfl rfl 6 (by decide) (hts _ qf_X0_27) (fun _ h9 => h9) rfl (tyX0_ok 6 (by decide)) rfl rfl (Nat.le_of_ble_eq_true rfl) dX0_startOver_22 (fun H locs hP _ hS => ?_)
  have hP : va_P (dC, dI) vwCl ((wX0 cI cZ c0 c8 c9 c10 c11 c12 c13 h0 (uC.1, (0 : Int32), (0 : Int32), (0 : Int32), (0 : Int32), (0 : Int32), uC.2.2.2.2.2.2)) ++ (wX1 cI cZ h0 h3 h4 h5 h6 uH)) H := hP
  have hD : va_D A ((wX0 cI cZ c0 c8 c9 c10 c11 c12 c13 h0 (uC.1, (0 : Int32), (0 : Int32), (0 : Int32), (0 : Int32), (0 : Int32), uC.2.2.2.2.2.2)) ++ (wX1 cI cZ h0 h3 h4 h5 h6 uH)) := D_CH hD
  refine lv_aload_n hx hb dX0_startOver_25 rfl (lv_at hl 0 rfl) ?_
  refine lv_iconst (v := (0 : Int32)) hx hb dX0_startOver_26 (by decide) ?_
  refine va_put (D := (dC, dI)) (ci := 0) (v := .int (0 : Int32)) (ty := .int) (C := RX0) (T := TX0) (N := 14) hx hb hts inX0 tyX0 tyX0_ok nmX0 hown hK hP hD hS 0 rfl rfl 7 (by decide) (hts _ qf_X0_30) (fun _ h9 => h9) rfl (tyX0_ok 7 (by decide)) rfl rfl (Nat.le_of_ble_eq_true rfl) dX0_startOver_27 (fun H locs hP _ hS => ?_)
  have hP : va_P (dC, dI) vwCl ((wX0 cI cZ c0 c8 c9 c10 c11 c12 c13 h0 (uC.1, (0 : Int32), (0 : Int32), (0 : Int32), (0 : Int32), (0 : Int32), (0 : Int32), uC.2.2.2.2.2.2.2)) ++ (wX1 cI cZ h0 h3 h4 h5 h6 uH)) H := hP
  have hD : va_D A ((wX0 cI cZ c0 c8 c9 c10 c11 c12 c13 h0 (uC.1, (0 : Int32), (0 : Int32), (0 : Int32), (0 : Int32), (0 : Int32), (0 : Int32), uC.2.2.2.2.2.2.2)) ++ (wX1 cI cZ h0 h3 h4 h5 h6 uH)) := D_CH hD
  refine lv_iconst (v := (0 : Int32)) hx hb dX0_startOver_30 (by decide) ?_
  refine lv_istore_n (lv' := [(1, .int (0 : Int32)), (0, .ref c0)]) hx hb dX0_startOver_31 rfl hl (by decide) rfl (fun ls hl => ?_)
  exact L32 200 (uC.1, (0 : Int32), (0 : Int32), (0 : Int32), (0 : Int32), (0 : Int32), (0 : Int32), uC.2.2.2.2.2.2.2) (0 : Int32) _ _ hP hD hS _ (lv_sub hl [1, 0] rfl) hok
theorem hd_X0_countSubscribers : yX0_countSubscribers.cls = RX0 ∧ yX0_countSubscribers.cls ≠ "java/lang/invoke/MethodHandle" ∧ yX0_countSubscribers.cls ≠ "java/lang/invoke/VarHandle" ∧ (parseMethodDescriptor yX0_countSubscribers.desc).map (fun d => d.parameters.length) = some 0 := by decide +kernel
def p_X0_countSubscribers_L4 : Nat → tX0 → tX1 → Int32 → Int32 → Option Int32
  | 0, _, _, _, _ => none
  | n + 1, uC, uH, l4_1, l4_2 =>
    if uH.2.2.1 ≤ l4_2 then
      some l4_1
    else
      gd l4_2 8 (
      if (uC.2.2.2.2.2.2.2.2.2.2.2.2 l4_2.toNatClampNeg) = 0 then
        (p_X0_countSubscribers_L4 n) uC uH l4_1 (l4_2 + 1)
      else
        (p_X0_countSubscribers_L4 n) uC uH (l4_1 + 1) (l4_2 + 1))
def p_X0_countSubscribers (uC : tX0) (uH : tX1) : Option Int32 :=
  p_X0_countSubscribers_L4 200 uC uH (0 : Int32) (0 : Int32)
set_option maxHeartbeats 4000000 in
set_option maxRecDepth 100000 in
theorem c_X0_countSubscribers (l : Launch) (dC : Nat → ClassId) (dI : Nat → Nat → Nat) (cI cZ : ClassId) (c0 c8 c9 c10 c11 c12 c13 h0 h3 h4 h5 h6 : Nat) (uC : tX0) (uH : tX1) {z : Int32} (hok : p_X0_countSubscribers uC uH = some z) : Met l yX0_countSubscribers (Cond.code yX0_countSubscribers cX0_countSubscribers 3 (some .int) :: lw_all) { frames := 0, cells := 0, slots := 0, locals := 0 } (prR (dC, dI) vwCl (TYS cI cZ) ((wX0 cI cZ c0 c8 c9 c10 c11 c12 c13 h0 uC) ++ (wX1 cI cZ h0 h3 h4 h5 h6 uH)) [.ref c0]) (vp_Si (fun r => r = z)) 0 0 (fun _ => False) := by
  refine oM (by decide) (Nat.le_of_ble_eq_true rfl) ?_
  intro p e s m args below meth c S hr hlk hnm hB ls hl
  have hx := S.1
  have hb := S.2.1
  have hml := S.2.2.1
  have hown : s.vm.findClass RX0 = some m.cls := S.2.2.2.1
  have hts := S.2.2.2.2
  have S : CallFix p m c cX0_countSubscribers 3 s args lw_all RX0 := S
  have hl : lv_has ls 3 [(0, .ref c0)] := hl
  obtain ⟨hP, hK⟩ := hB
  have hP : va_P (dC, dI) vwCl ((wX0 cI cZ c0 c8 c9 c10 c11 c12 c13 h0 uC) ++ (wX1 cI cZ h0 h3 h4 h5 h6 uH)) s.heap := hP
  have L4 : ∀ n4 : Nat, ∀ (l4_1 : Int32) (l4_2 : Int32) (ls : Array Slot) (hl : lv_has ls 3 [(0, .ref c0), (1, .int l4_1), (2, .int l4_2)]) (hok : p_X0_countSubscribers_L4 n4 uC uH l4_1 l4_2 = some z), W p l e { frames := 0, cells := 0, slots := 0, locals := 0 } s m args below meth c s.heap [] 0 0 (MQ below (vp_Si (fun r => r = z)) args s 0 0 (fun _ => False)) (F0 m 4 ls []) := by
    intro n4
    induction n4 with
    | zero =>
      intro l4_1 l4_2 ls hl hok
      rw [p_X0_countSubscribers_L4] at hok
      cases hok
    | succ n4 ih4 =>
      intro l4_1 l4_2 ls hl hok
      rw [p_X0_countSubscribers_L4] at hok
      refine lv_iload_n hx hb dX0_countSubscribers_4 rfl (lv_at hl 2 rfl) ?_
      refine lv_aload_n hx hb dX0_countSubscribers_5 rfl (lv_at hl 0 rfl) ?_
      refine va_get (D := (dC, dI)) (ci := 0) (v := .ref h0) (C := RX0) (T := TX0) (N := 14) hx hb hts inX0 hown hK hP 0 rfl rfl 0 (by decide) (hts _ qf_X0_53) (fun _ h9 => h9) rfl dX0_countSubscribers_6 ?_
      refine va_get (D := (dC, dI)) (ci := 1) (v := .int uH.2.2.1) (C := RX1) (T := TX1) (N := 7) hx hb hts inX1 hown hK hP 7 rfl rfl 2 (by decide) (hts _ qf_X0_108) (fun _ h9 => h9) rfl dX0_countSubscribers_9 ?_
      refine lv_icmp_ge (tgt := 33) hx hb dX0_countSubscribers_12 (by decide) (fun hc => ?_) (fun hc => ?_)
      · have hok := ip hok hc
        refine lv_iload_n hx hb dX0_countSubscribers_33 rfl (lv_at hl 1 rfl) ?_
        exact eRi S hr hlk (Option.some.inj hok) dX0_countSubscribers_34
      · have hok := iq hok hc
        refine lv_aload_n hx hb dX0_countSubscribers_15 rfl (lv_at hl 0 rfl) ?_
        refine va_get (D := (dC, dI)) (ci := 0) (v := .ref c13) (C := RX0) (T := TX0) (N := 14) hx hb hts inX0 hown hK hP 0 rfl rfl 13 (by decide) (hts _ qf_X0_50) (fun _ h9 => h9) rfl dX0_countSubscribers_16 ?_
        refine lv_iload_n hx hb dX0_countSubscribers_19 rfl (lv_at hl 2 rfl) ?_
        obtain ⟨hi1, hok⟩ := gd_some hok
        refine va_zald hx hb hK hP 6 1 rfl rfl hi1 dX0_countSubscribers_20 ?_
        refine lv_if_eq (tgt := 27) hx hb dX0_countSubscribers_21 (by decide) (fun hc => ?_) (fun hc => ?_)
        · have hok := ip hok hc
          refine lv_iinc (v := (l4_2 + 1)) (lv' := [(2, .int (l4_2 + 1)), (0, .ref c0), (1, .int l4_1)]) hx hb dX0_countSubscribers_27 hl (k := 2) rfl rfl (by decide) rfl (fun ls hl => ?_)
          refine lv_goto (tgt := 4) hx hb dX0_countSubscribers_30 (by decide) ?_
          exact ih4 l4_1 (l4_2 + 1) _ (lv_sub hl [1, 2, 0] rfl) hok
        · have hok := iq hok hc
          refine lv_iinc (v := (l4_1 + 1)) (lv' := [(1, .int (l4_1 + 1)), (0, .ref c0), (2, .int l4_2)]) hx hb dX0_countSubscribers_24 hl (k := 1) rfl rfl (by decide) rfl (fun ls hl => ?_)
          refine lv_iinc (v := (l4_2 + 1)) (lv' := [(2, .int (l4_2 + 1)), (1, .int (l4_1 + 1)), (0, .ref c0)]) hx hb dX0_countSubscribers_27 hl (k := 2) rfl rfl (by decide) rfl (fun ls hl => ?_)
          refine lv_goto (tgt := 4) hx hb dX0_countSubscribers_30 (by decide) ?_
          exact ih4 (l4_1 + 1) (l4_2 + 1) _ (lv_sub hl [2, 1, 0] rfl) hok
  unfold p_X0_countSubscribers at hok
  refine lv_iconst (v := (0 : Int32)) hx hb dX0_countSubscribers_0 (by decide) ?_
  refine lv_istore_n (lv' := [(1, .int (0 : Int32)), (0, .ref c0)]) hx hb dX0_countSubscribers_1 rfl hl (by decide) rfl (fun ls hl => ?_)
  refine lv_iconst (v := (0 : Int32)) hx hb dX0_countSubscribers_2 (by decide) ?_
  refine lv_istore_n (lv' := [(2, .int (0 : Int32)), (1, .int (0 : Int32)), (0, .ref c0)]) hx hb dX0_countSubscribers_3 rfl hl (by decide) rfl (fun ls hl => ?_)
  exact L4 200 (0 : Int32) (0 : Int32) _ (lv_sub hl [2, 1, 0] rfl) hok
theorem hd_X0_waitStuck : yX0_waitStuck.cls = RX0 ∧ yX0_waitStuck.cls ≠ "java/lang/invoke/MethodHandle" ∧ yX0_waitStuck.cls ≠ "java/lang/invoke/VarHandle" ∧ (parseMethodDescriptor yX0_waitStuck.desc).map (fun d => d.parameters.length) = some 0 := by decide +kernel
def p_X0_waitStuck (uC : tX0) (uH : tX1) : Option tX0 :=
  some (uC.1, uC.2.1, uC.2.2.1, (uC.2.2.2.1 - (1 : Int32)), uC.2.2.2.2.1, (uC.2.2.2.2.2.1 + ((1 : Int32) + uC.2.2.2.2.2.2.1)), uC.2.2.2.2.2.2)
set_option maxHeartbeats 4000000 in
set_option maxRecDepth 100000 in
theorem c_X0_waitStuck (l : Launch) (dC : Nat → ClassId) (dI : Nat → Nat → Nat) (cI cZ : ClassId) (c0 c8 c9 c10 c11 c12 c13 h0 h3 h4 h5 h6 : Nat) (sz : Nat) (uC : tX0) (uH : tX1) {z : tX0} (hok : p_X0_waitStuck uC uH = some z) : Met l yX0_waitStuck (Cond.code yX0_waitStuck cX0_waitStuck 1 none :: lw_all) { frames := 0, cells := 0, slots := 0, locals := 0 } (prW (dC, dI) vwCl (TYS cI cZ) ((wX0 cI cZ c0 c8 c9 c10 c11 c12 c13 h0 uC) ++ (wX1 cI cZ h0 h3 h4 h5 h6 uH)) sz [.ref c0]) (va_Qv (fun _ : Unit => True) (fun _ t => va_P (dC, dI) vwCl ((wX0 cI cZ c0 c8 c9 c10 c11 c12 c13 h0 z) ++ (wX1 cI cZ h0 h3 h4 h5 h6 uH)) t.heap) (va_A ((wX0 cI cZ c0 c8 c9 c10 c11 c12 c13 h0 uC) ++ (wX1 cI cZ h0 h3 h4 h5 h6 uH)) sz)) 0 0 (va_A ((wX0 cI cZ c0 c8 c9 c10 c11 c12 c13 h0 uC) ++ (wX1 cI cZ h0 h3 h4 h5 h6 uH)) sz) := by
  refine oM (by decide) (Nat.le_of_ble_eq_true rfl) ?_
  intro p e s m args below meth c S hr hlk hnm hB ls hl
  have hx := S.1
  have hb := S.2.1
  have hml := S.2.2.1
  have hown : s.vm.findClass RX0 = some m.cls := S.2.2.2.1
  have hts := S.2.2.2.2
  have S : CallFix p m c cX0_waitStuck 1 s args lw_all RX0 := S
  have hl : lv_has ls 1 [(0, .ref c0)] := hl
  obtain ⟨hsz, hP, hK, hD0⟩ := hB
  subst hsz
  have hD := hD0.self (sz := s.heap.size)
  generalize hAe : va_A ((wX0 cI cZ c0 c8 c9 c10 c11 c12 c13 h0 uC) ++ (wX1 cI cZ h0 h3 h4 h5 h6 uH)) s.heap.size = A at hD ⊢
  have hA : ∀ q : Nat, s.heap.size ≤ q → A q := fun q h => by rw [← hAe]; exact Or.inr h
  have hS : va_S A s.heap s.heap [] := va_S.rf
  have hP : va_P (dC, dI) vwCl ((wX0 cI cZ c0 c8 c9 c10 c11 c12 c13 h0 uC) ++ (wX1 cI cZ h0 h3 h4 h5 h6 uH)) s.heap := hP
  unfold p_X0_waitStuck at hok
  refine lv_aload_n hx hb dX0_waitStuck_0 rfl (lv_at hl 0 rfl) ?_
  refine lv_dup hx hb dX0_waitStuck_1 rfl ?_
  refine va_get (D := (dC, dI)) (ci := 0) (v := .int uC.2.2.2.1) (C := RX0) (T := TX0) (N := 14) hx hb hts inX0 hown hK hP 0 rfl rfl 4 (by decide) (hts _ qf_X0_21) (fun _ h9 => h9) rfl dX0_waitStuck_2 ?_
  refine lv_iconst (v := (1 : Int32)) hx hb dX0_waitStuck_5 (by decide) ?_
  refine lv_isub hx hb dX0_waitStuck_6 ?_
  refine va_put (D := (dC, dI)) (ci := 0) (v := .int (uC.2.2.2.1 - (1 : Int32))) (ty := .int) (C := RX0) (T := TX0) (N := 14) hx hb hts inX0 tyX0 tyX0_ok nmX0 hown hK hP hD hS 0 rfl rfl 4 (by decide) (hts _ qf_X0_21) (fun _ h9 => h9) rfl (tyX0_ok 4 (by decide)) rfl rfl (Nat.le_of_ble_eq_true rfl) dX0_waitStuck_7 (fun H locs hP _ hS => ?_)
  have hP : va_P (dC, dI) vwCl ((wX0 cI cZ c0 c8 c9 c10 c11 c12 c13 h0 (uC.1, uC.2.1, uC.2.2.1, (uC.2.2.2.1 - (1 : Int32)), uC.2.2.2.2)) ++ (wX1 cI cZ h0 h3 h4 h5 h6 uH)) H := hP
  have hD : va_D A ((wX0 cI cZ c0 c8 c9 c10 c11 c12 c13 h0 (uC.1, uC.2.1, uC.2.2.1, (uC.2.2.2.1 - (1 : Int32)), uC.2.2.2.2)) ++ (wX1 cI cZ h0 h3 h4 h5 h6 uH)) := D_CH hD
  refine lv_aload_n hx hb dX0_waitStuck_10 rfl (lv_at hl 0 rfl) ?_
  refine lv_dup hx hb dX0_waitStuck_11 rfl ?_
  refine va_get (D := (dC, dI)) (ci := 0) (v := .int uC.2.2.2.2.2.1) (C := RX0) (T := TX0) (N := 14) hx hb hts inX0 hown hK hP 0 rfl rfl 6 (by decide) (hts _ qf_X0_27) (fun _ h9 => h9) rfl dX0_waitStuck_12 ?_
  refine lv_iconst (v := (1 : Int32)) hx hb dX0_waitStuck_15 (by decide) ?_
  refine lv_aload_n hx hb dX0_waitStuck_16 rfl (lv_at hl 0 rfl) ?_
  refine va_get (D := (dC, dI)) (ci := 0) (v := .int uC.2.2.2.2.2.2.1) (C := RX0) (T := TX0) (N := 14) hx hb hts inX0 hown hK hP 0 rfl rfl 7 (by decide) (hts _ qf_X0_30) (fun _ h9 => h9) rfl dX0_waitStuck_17 ?_
  refine lv_iadd hx hb dX0_waitStuck_20 ?_
  refine lv_iadd hx hb dX0_waitStuck_21 ?_
  refine va_put (D := (dC, dI)) (ci := 0) (v := .int (uC.2.2.2.2.2.1 + ((1 : Int32) + uC.2.2.2.2.2.2.1))) (ty := .int) (C := RX0) (T := TX0) (N := 14) hx hb hts inX0 tyX0 tyX0_ok nmX0 hown hK hP hD hS 0 rfl rfl 6 (by decide) (hts _ qf_X0_27) (fun _ h9 => h9) rfl (tyX0_ok 6 (by decide)) rfl rfl (Nat.le_of_ble_eq_true rfl) dX0_waitStuck_22 (fun H locs hP _ hS => ?_)
  have hP : va_P (dC, dI) vwCl ((wX0 cI cZ c0 c8 c9 c10 c11 c12 c13 h0 (uC.1, uC.2.1, uC.2.2.1, (uC.2.2.2.1 - (1 : Int32)), uC.2.2.2.2.1, (uC.2.2.2.2.2.1 + ((1 : Int32) + uC.2.2.2.2.2.2.1)), uC.2.2.2.2.2.2)) ++ (wX1 cI cZ h0 h3 h4 h5 h6 uH)) H := hP
  have hD : va_D A ((wX0 cI cZ c0 c8 c9 c10 c11 c12 c13 h0 (uC.1, uC.2.1, uC.2.2.1, (uC.2.2.2.1 - (1 : Int32)), uC.2.2.2.2.1, (uC.2.2.2.2.2.1 + ((1 : Int32) + uC.2.2.2.2.2.2.1)), uC.2.2.2.2.2.2)) ++ (wX1 cI cZ h0 h3 h4 h5 h6 uH)) := D_CH hD
  have hok := Option.some.inj hok
  subst hok
  exact eWv S hr hlk hP hS (Nat.le_of_ble_eq_true rfl) (Nat.le_of_ble_eq_true rfl) dX0_waitStuck_25
theorem hd_X0_countCalled : yX0_countCalled.cls = RX0 ∧ yX0_countCalled.cls ≠ "java/lang/invoke/MethodHandle" ∧ yX0_countCalled.cls ≠ "java/lang/invoke/VarHandle" ∧ (parseMethodDescriptor yX0_countCalled.desc).map (fun d => d.parameters.length) = some 0 := by decide +kernel
def p_X0_countCalled_L4 : Nat → tX0 → tX1 → Int32 → Int32 → Option Int32
  | 0, _, _, _, _ => none
  | n + 1, uC, uH, l4_1, l4_2 =>
    if (12 : Int32) ≤ l4_2 then
      some l4_1
    else
      gd l4_2 12 (
      if (uC.2.2.2.2.2.2.2.1 l4_2.toNatClampNeg) = 0 then
        (p_X0_countCalled_L4 n) uC uH l4_1 (l4_2 + 1)
      else
        (p_X0_countCalled_L4 n) uC uH (l4_1 + 1) (l4_2 + 1))
def p_X0_countCalled (uC : tX0) (uH : tX1) : Option Int32 :=
  p_X0_countCalled_L4 200 uC uH (0 : Int32) (0 : Int32)
set_option maxHeartbeats 4000000 in
set_option maxRecDepth 100000 in
theorem c_X0_countCalled (l : Launch) (dC : Nat → ClassId) (dI : Nat → Nat → Nat) (cI cZ : ClassId) (c0 c8 c9 c10 c11 c12 c13 h0 h3 h4 h5 h6 : Nat) (uC : tX0) (uH : tX1) {z : Int32} (hok : p_X0_countCalled uC uH = some z) : Met l yX0_countCalled (Cond.code yX0_countCalled cX0_countCalled 3 (some .int) :: lw_all) { frames := 0, cells := 0, slots := 0, locals := 0 } (prR (dC, dI) vwCl (TYS cI cZ) ((wX0 cI cZ c0 c8 c9 c10 c11 c12 c13 h0 uC) ++ (wX1 cI cZ h0 h3 h4 h5 h6 uH)) [.ref c0]) (vp_Si (fun r => r = z)) 0 0 (fun _ => False) := by
  refine oM (by decide) (Nat.le_of_ble_eq_true rfl) ?_
  intro p e s m args below meth c S hr hlk hnm hB ls hl
  have hx := S.1
  have hb := S.2.1
  have hml := S.2.2.1
  have hown : s.vm.findClass RX0 = some m.cls := S.2.2.2.1
  have hts := S.2.2.2.2
  have S : CallFix p m c cX0_countCalled 3 s args lw_all RX0 := S
  have hl : lv_has ls 3 [(0, .ref c0)] := hl
  obtain ⟨hP, hK⟩ := hB
  have hP : va_P (dC, dI) vwCl ((wX0 cI cZ c0 c8 c9 c10 c11 c12 c13 h0 uC) ++ (wX1 cI cZ h0 h3 h4 h5 h6 uH)) s.heap := hP
  have L4 : ∀ n4 : Nat, ∀ (l4_1 : Int32) (l4_2 : Int32) (ls : Array Slot) (hl : lv_has ls 3 [(0, .ref c0), (1, .int l4_1), (2, .int l4_2)]) (hok : p_X0_countCalled_L4 n4 uC uH l4_1 l4_2 = some z), W p l e { frames := 0, cells := 0, slots := 0, locals := 0 } s m args below meth c s.heap [] 0 0 (MQ below (vp_Si (fun r => r = z)) args s 0 0 (fun _ => False)) (F0 m 4 ls []) := by
    intro n4
    induction n4 with
    | zero =>
      intro l4_1 l4_2 ls hl hok
      rw [p_X0_countCalled_L4] at hok
      cases hok
    | succ n4 ih4 =>
      intro l4_1 l4_2 ls hl hok
      rw [p_X0_countCalled_L4] at hok
      refine lv_iload_n hx hb dX0_countCalled_4 rfl (lv_at hl 2 rfl) ?_
      refine lv_bipush (v := (12 : Int32)) hx hb dX0_countCalled_5 (by decide) ?_
      refine lv_icmp_ge (tgt := 28) hx hb dX0_countCalled_7 (by decide) (fun hc => ?_) (fun hc => ?_)
      · have hok := ip hok hc
        refine lv_iload_n hx hb dX0_countCalled_28 rfl (lv_at hl 1 rfl) ?_
        exact eRi S hr hlk (Option.some.inj hok) dX0_countCalled_29
      · have hok := iq hok hc
        refine lv_aload_n hx hb dX0_countCalled_10 rfl (lv_at hl 0 rfl) ?_
        refine va_get (D := (dC, dI)) (ci := 0) (v := .ref c8) (C := RX0) (T := TX0) (N := 14) hx hb hts inX0 hown hK hP 0 rfl rfl 8 (by decide) (hts _ qf_X0_33) (fun _ h9 => h9) rfl dX0_countCalled_11 ?_
        refine lv_iload_n hx hb dX0_countCalled_14 rfl (lv_at hl 2 rfl) ?_
        obtain ⟨hi1, hok⟩ := gd_some hok
        refine va_zald hx hb hK hP 1 1 rfl rfl hi1 dX0_countCalled_15 ?_
        refine lv_if_eq (tgt := 22) hx hb dX0_countCalled_16 (by decide) (fun hc => ?_) (fun hc => ?_)
        · have hok := ip hok hc
          refine lv_iinc (v := (l4_2 + 1)) (lv' := [(2, .int (l4_2 + 1)), (0, .ref c0), (1, .int l4_1)]) hx hb dX0_countCalled_22 hl (k := 2) rfl rfl (by decide) rfl (fun ls hl => ?_)
          refine lv_goto (tgt := 4) hx hb dX0_countCalled_25 (by decide) ?_
          exact ih4 l4_1 (l4_2 + 1) _ (lv_sub hl [1, 2, 0] rfl) hok
        · have hok := iq hok hc
          refine lv_iinc (v := (l4_1 + 1)) (lv' := [(1, .int (l4_1 + 1)), (0, .ref c0), (2, .int l4_2)]) hx hb dX0_countCalled_19 hl (k := 1) rfl rfl (by decide) rfl (fun ls hl => ?_)
          refine lv_iinc (v := (l4_2 + 1)) (lv' := [(2, .int (l4_2 + 1)), (1, .int (l4_1 + 1)), (0, .ref c0)]) hx hb dX0_countCalled_22 hl (k := 2) rfl rfl (by decide) rfl (fun ls hl => ?_)
          refine lv_goto (tgt := 4) hx hb dX0_countCalled_25 (by decide) ?_
          exact ih4 (l4_1 + 1) (l4_2 + 1) _ (lv_sub hl [2, 1, 0] rfl) hok
  unfold p_X0_countCalled at hok
  refine lv_iconst (v := (0 : Int32)) hx hb dX0_countCalled_0 (by decide) ?_
  refine lv_istore_n (lv' := [(1, .int (0 : Int32)), (0, .ref c0)]) hx hb dX0_countCalled_1 rfl hl (by decide) rfl (fun ls hl => ?_)
  refine lv_iconst (v := (0 : Int32)) hx hb dX0_countCalled_2 (by decide) ?_
  refine lv_istore_n (lv' := [(2, .int (0 : Int32)), (1, .int (0 : Int32)), (0, .ref c0)]) hx hb dX0_countCalled_3 rfl hl (by decide) rfl (fun ls hl => ?_)
  exact L4 200 (0 : Int32) (0 : Int32) _ (lv_sub hl [2, 1, 0] rfl) hok
theorem hd_X0_hasCall : yX0_hasCall.cls = RX0 ∧ yX0_hasCall.cls ≠ "java/lang/invoke/MethodHandle" ∧ yX0_hasCall.cls ≠ "java/lang/invoke/VarHandle" ∧ (parseMethodDescriptor yX0_hasCall.desc).map (fun d => d.parameters.length) = some 1 := by decide +kernel
def p_X0_hasCall (uC : tX0) (uH : tX1) (a1 : Int32) : Option Int32 :=
  if a1 < 0 then
    some (0 : Int32)
  else
    if (12 : Int32) ≤ a1 then
      some (0 : Int32)
    else
      gd a1 12 (
      if (uC.2.2.2.2.2.2.2.1 a1.toNatClampNeg) = 0 then
        some (0 : Int32)
      else
        some (1 : Int32))
set_option maxHeartbeats 4000000 in
set_option maxRecDepth 100000 in
theorem c_X0_hasCall (l : Launch) (dC : Nat → ClassId) (dI : Nat → Nat → Nat) (cI cZ : ClassId) (c0 c8 c9 c10 c11 c12 c13 h0 h3 h4 h5 h6 : Nat) (uC : tX0) (uH : tX1) (a1 : Int32) {z : Int32} (hok : p_X0_hasCall uC uH a1 = some z) : Met l yX0_hasCall (Cond.code yX0_hasCall cX0_hasCall 2 (some .boolean) :: lw_all) { frames := 0, cells := 0, slots := 0, locals := 0 } (prR (dC, dI) vwCl (TYS cI cZ) ((wX0 cI cZ c0 c8 c9 c10 c11 c12 c13 h0 uC) ++ (wX1 cI cZ h0 h3 h4 h5 h6 uH)) [.ref c0, .int a1]) (vp_Si (fun r => r = z)) 0 0 (fun _ => False) := by
  refine oM (by decide) (Nat.le_of_ble_eq_true rfl) ?_
  intro p e s m args below meth c S hr hlk hnm hB ls hl
  have hx := S.1
  have hb := S.2.1
  have hml := S.2.2.1
  have hown : s.vm.findClass RX0 = some m.cls := S.2.2.2.1
  have hts := S.2.2.2.2
  have S : CallFix p m c cX0_hasCall 2 s args lw_all RX0 := S
  have hl : lv_has ls 2 [(0, .ref c0), (1, .int a1)] := hl
  obtain ⟨hP, hK⟩ := hB
  have hP : va_P (dC, dI) vwCl ((wX0 cI cZ c0 c8 c9 c10 c11 c12 c13 h0 uC) ++ (wX1 cI cZ h0 h3 h4 h5 h6 uH)) s.heap := hP
  unfold p_X0_hasCall at hok
  refine lv_iload_n hx hb dX0_hasCall_0 rfl (lv_at hl 1 rfl) ?_
  refine lv_if_lt (tgt := 23) hx hb dX0_hasCall_1 (by decide) (fun hc => ?_) (fun hc => ?_)
  · have hok := ip hok hc
    refine lv_iconst (v := (0 : Int32)) hx hb dX0_hasCall_23 (by decide) ?_
    exact eRz S hr hlk (by decide) (Option.some.inj hok) dX0_hasCall_24
  · have hok := iq hok hc
    refine lv_iload_n hx hb dX0_hasCall_4 rfl (lv_at hl 1 rfl) ?_
    refine lv_bipush (v := (12 : Int32)) hx hb dX0_hasCall_5 (by decide) ?_
    refine lv_icmp_ge (tgt := 23) hx hb dX0_hasCall_7 (by decide) (fun hc => ?_) (fun hc => ?_)
    · have hok := ip hok hc
      refine lv_iconst (v := (0 : Int32)) hx hb dX0_hasCall_23 (by decide) ?_
      exact eRz S hr hlk (by decide) (Option.some.inj hok) dX0_hasCall_24
    · have hok := iq hok hc
      refine lv_aload_n hx hb dX0_hasCall_10 rfl (lv_at hl 0 rfl) ?_
      refine va_get (D := (dC, dI)) (ci := 0) (v := .ref c8) (C := RX0) (T := TX0) (N := 14) hx hb hts inX0 hown hK hP 0 rfl rfl 8 (by decide) (hts _ qf_X0_33) (fun _ h9 => h9) rfl dX0_hasCall_11 ?_
      refine lv_iload_n hx hb dX0_hasCall_14 rfl (lv_at hl 1 rfl) ?_
      obtain ⟨hi1, hok⟩ := gd_some hok
      refine va_zald hx hb hK hP 1 1 rfl rfl hi1 dX0_hasCall_15 ?_
      refine lv_if_eq (tgt := 23) hx hb dX0_hasCall_16 (by decide) (fun hc => ?_) (fun hc => ?_)
      · have hok := ip hok hc
        refine lv_iconst (v := (0 : Int32)) hx hb dX0_hasCall_23 (by decide) ?_
        exact eRz S hr hlk (by decide) (Option.some.inj hok) dX0_hasCall_24
      · have hok := iq hok hc
        refine lv_iconst (v := (1 : Int32)) hx hb dX0_hasCall_19 (by decide) ?_
        refine lv_goto (tgt := 24) hx hb dX0_hasCall_20 (by decide) ?_
        exact eRz S hr hlk (by decide) (Option.some.inj hok) dX0_hasCall_24
theorem hd_X0_hasCallAbove : yX0_hasCallAbove.cls = RX0 ∧ yX0_hasCallAbove.cls ≠ "java/lang/invoke/MethodHandle" ∧ yX0_hasCallAbove.cls ≠ "java/lang/invoke/VarHandle" ∧ (parseMethodDescriptor yX0_hasCallAbove.desc).map (fun d => d.parameters.length) = some 0 := by decide +kernel
def p_X0_hasCallAbove_L7 : Nat → tX0 → tX1 → Int32 → Option Int32
  | 0, _, _, _ => none
  | n + 1, uC, uH, l7_1 =>
    if (12 : Int32) ≤ l7_1 then
      some (0 : Int32)
    else
      gd l7_1 12 (
      if (uC.2.2.2.2.2.2.2.1 l7_1.toNatClampNeg) = 0 then
        (p_X0_hasCallAbove_L7 n) uC uH (l7_1 + 1)
      else
        some (1 : Int32))
def p_X0_hasCallAbove (uC : tX0) (uH : tX1) : Option Int32 :=
  p_X0_hasCallAbove_L7 200 uC uH (uC.2.1 + (1 : Int32))
set_option maxHeartbeats 4000000 in
set_option maxRecDepth 100000 in
theorem c_X0_hasCallAbove (l : Launch) (dC : Nat → ClassId) (dI : Nat → Nat → Nat) (cI cZ : ClassId) (c0 c8 c9 c10 c11 c12 c13 h0 h3 h4 h5 h6 : Nat) (uC : tX0) (uH : tX1) {z : Int32} (hok : p_X0_hasCallAbove uC uH = some z) : Met l yX0_hasCallAbove (Cond.code yX0_hasCallAbove cX0_hasCallAbove 2 (some .boolean) :: lw_all) { frames := 0, cells := 0, slots := 0, locals := 0 } (prR (dC, dI) vwCl (TYS cI cZ) ((wX0 cI cZ c0 c8 c9 c10 c11 c12 c13 h0 uC) ++ (wX1 cI cZ h0 h3 h4 h5 h6 uH)) [.ref c0]) (vp_Si (fun r => r = z)) 0 0 (fun _ => False) := by
  refine oM (by decide) (Nat.le_of_ble_eq_true rfl) ?_
  intro p e s m args below meth c S hr hlk hnm hB ls hl
  have hx := S.1
  have hb := S.2.1
  have hml := S.2.2.1
  have hown : s.vm.findClass RX0 = some m.cls := S.2.2.2.1
  have hts := S.2.2.2.2
  have S : CallFix p m c cX0_hasCallAbove 2 s args lw_all RX0 := S
  have hl : lv_has ls 2 [(0, .ref c0)] := hl
  obtain ⟨hP, hK⟩ := hB
  have hP : va_P (dC, dI) vwCl ((wX0 cI cZ c0 c8 c9 c10 c11 c12 c13 h0 uC) ++ (wX1 cI cZ h0 h3 h4 h5 h6 uH)) s.heap := hP
  have L7 : ∀ n7 : Nat, ∀ (l7_1 : Int32) (ls : Array Slot) (hl : lv_has ls 2 [(0, .ref c0), (1, .int l7_1)]) (hok : p_X0_hasCallAbove_L7 n7 uC uH l7_1 = some z), W p l e { frames := 0, cells := 0, slots := 0, locals := 0 } s m args below meth c s.heap [] 0 0 (MQ below (vp_Si (fun r => r = z)) args s 0 0 (fun _ => False)) (F0 m 7 ls []) := by
    intro n7
    induction n7 with
    | zero =>
      intro l7_1 ls hl hok
      rw [p_X0_hasCallAbove_L7] at hok
      cases hok
    | succ n7 ih7 =>
      intro l7_1 ls hl hok
      rw [p_X0_hasCallAbove_L7] at hok
      refine lv_iload_n hx hb dX0_hasCallAbove_7 rfl (lv_at hl 1 rfl) ?_
      refine lv_bipush (v := (12 : Int32)) hx hb dX0_hasCallAbove_8 (by decide) ?_
      refine lv_icmp_ge (tgt := 30) hx hb dX0_hasCallAbove_10 (by decide) (fun hc => ?_) (fun hc => ?_)
      · have hok := ip hok hc
        refine lv_iconst (v := (0 : Int32)) hx hb dX0_hasCallAbove_30 (by decide) ?_
        exact eRz S hr hlk (by decide) (Option.some.inj hok) dX0_hasCallAbove_31
      · have hok := iq hok hc
        refine lv_aload_n hx hb dX0_hasCallAbove_13 rfl (lv_at hl 0 rfl) ?_
        refine va_get (D := (dC, dI)) (ci := 0) (v := .ref c8) (C := RX0) (T := TX0) (N := 14) hx hb hts inX0 hown hK hP 0 rfl rfl 8 (by decide) (hts _ qf_X0_33) (fun _ h9 => h9) rfl dX0_hasCallAbove_14 ?_
        refine lv_iload_n hx hb dX0_hasCallAbove_17 rfl (lv_at hl 1 rfl) ?_
        obtain ⟨hi1, hok⟩ := gd_some hok
        refine va_zald hx hb hK hP 1 1 rfl rfl hi1 dX0_hasCallAbove_18 ?_
        refine lv_if_eq (tgt := 24) hx hb dX0_hasCallAbove_19 (by decide) (fun hc => ?_) (fun hc => ?_)
        · have hok := ip hok hc
          refine lv_iinc (v := (l7_1 + 1)) (lv' := [(1, .int (l7_1 + 1)), (0, .ref c0)]) hx hb dX0_hasCallAbove_24 hl (k := 1) rfl rfl (by decide) rfl (fun ls hl => ?_)
          refine lv_goto (tgt := 7) hx hb dX0_hasCallAbove_27 (by decide) ?_
          exact ih7 (l7_1 + 1) _ (lv_sub hl [1, 0] rfl) hok
        · have hok := iq hok hc
          refine lv_iconst (v := (1 : Int32)) hx hb dX0_hasCallAbove_22 (by decide) ?_
          exact eRz S hr hlk (by decide) (Option.some.inj hok) dX0_hasCallAbove_23
  unfold p_X0_hasCallAbove at hok
  refine lv_aload_n hx hb dX0_hasCallAbove_0 rfl (lv_at hl 0 rfl) ?_
  refine va_get (D := (dC, dI)) (ci := 0) (v := .int uC.2.1) (C := RX0) (T := TX0) (N := 14) hx hb hts inX0 hown hK hP 0 rfl rfl 2 (by decide) (hts _ qf_X0_15) (fun _ h9 => h9) rfl dX0_hasCallAbove_1 ?_
  refine lv_iconst (v := (1 : Int32)) hx hb dX0_hasCallAbove_4 (by decide) ?_
  refine lv_iadd hx hb dX0_hasCallAbove_5 ?_
  refine lv_istore_n (lv' := [(1, .int (uC.2.1 + (1 : Int32))), (0, .ref c0)]) hx hb dX0_hasCallAbove_6 rfl hl (by decide) rfl (fun ls hl => ?_)
  exact L7 200 (uC.2.1 + (1 : Int32)) _ (lv_sub hl [1, 0] rfl) hok
theorem hd_X0_hasCallBelow : yX0_hasCallBelow.cls = RX0 ∧ yX0_hasCallBelow.cls ≠ "java/lang/invoke/MethodHandle" ∧ yX0_hasCallBelow.cls ≠ "java/lang/invoke/VarHandle" ∧ (parseMethodDescriptor yX0_hasCallBelow.desc).map (fun d => d.parameters.length) = some 0 := by decide +kernel
def p_X0_hasCallBelow_L2 : Nat → tX0 → tX1 → Int32 → Option Int32
  | 0, _, _, _ => none
  | n + 1, uC, uH, l2_1 =>
    if uC.2.1 ≤ l2_1 then
      some (0 : Int32)
    else
      gd l2_1 12 (
      if (uC.2.2.2.2.2.2.2.1 l2_1.toNatClampNeg) = 0 then
        (p_X0_hasCallBelow_L2 n) uC uH (l2_1 + 1)
      else
        some (1 : Int32))
def p_X0_hasCallBelow (uC : tX0) (uH : tX1) : Option Int32 :=
  p_X0_hasCallBelow_L2 200 uC uH (0 : Int32)
set_option maxHeartbeats 4000000 in
set_option maxRecDepth 100000 in
theorem c_X0_hasCallBelow (l : Launch) (dC : Nat → ClassId) (dI : Nat → Nat → Nat) (cI cZ : ClassId) (c0 c8 c9 c10 c11 c12 c13 h0 h3 h4 h5 h6 : Nat) (uC : tX0) (uH : tX1) {z : Int32} (hok : p_X0_hasCallBelow uC uH = some z) : Met l yX0_hasCallBelow (Cond.code yX0_hasCallBelow cX0_hasCallBelow 2 (some .boolean) :: lw_all) { frames := 0, cells := 0, slots := 0, locals := 0 } (prR (dC, dI) vwCl (TYS cI cZ) ((wX0 cI cZ c0 c8 c9 c10 c11 c12 c13 h0 uC) ++ (wX1 cI cZ h0 h3 h4 h5 h6 uH)) [.ref c0]) (vp_Si (fun r => r = z)) 0 0 (fun _ => False) := by
  refine oM (by decide) (Nat.le_of_ble_eq_true rfl) ?_
  intro p e s m args below meth c S hr hlk hnm hB ls hl
  have hx := S.1
  have hb := S.2.1
  have hml := S.2.2.1
  have hown : s.vm.findClass RX0 = some m.cls := S.2.2.2.1
  have hts := S.2.2.2.2
  have S : CallFix p m c cX0_hasCallBelow 2 s args lw_all RX0 := S
  have hl : lv_has ls 2 [(0, .ref c0)] := hl
  obtain ⟨hP, hK⟩ := hB
  have hP : va_P (dC, dI) vwCl ((wX0 cI cZ c0 c8 c9 c10 c11 c12 c13 h0 uC) ++ (wX1 cI cZ h0 h3 h4 h5 h6 uH)) s.heap := hP
  have L2 : ∀ n2 : Nat, ∀ (l2_1 : Int32) (ls : Array Slot) (hl : lv_has ls 2 [(0, .ref c0), (1, .int l2_1)]) (hok : p_X0_hasCallBelow_L2 n2 uC uH l2_1 = some z), W p l e { frames := 0, cells := 0, slots := 0, locals := 0 } s m args below meth c s.heap [] 0 0 (MQ below (vp_Si (fun r => r = z)) args s 0 0 (fun _ => False)) (F0 m 2 ls []) := by
    intro n2
    induction n2 with
    | zero =>
      intro l2_1 ls hl hok
      rw [p_X0_hasCallBelow_L2] at hok
      cases hok
    | succ n2 ih2 =>
      intro l2_1 ls hl hok
      rw [p_X0_hasCallBelow_L2] at hok
      refine lv_iload_n hx hb dX0_hasCallBelow_2 rfl (lv_at hl 1 rfl) ?_
      refine lv_aload_n hx hb dX0_hasCallBelow_3 rfl (lv_at hl 0 rfl) ?_
      refine va_get (D := (dC, dI)) (ci := 0) (v := .int uC.2.1) (C := RX0) (T := TX0) (N := 14) hx hb hts inX0 hown hK hP 0 rfl rfl 2 (by decide) (hts _ qf_X0_15) (fun _ h9 => h9) rfl dX0_hasCallBelow_4 ?_
      refine lv_icmp_ge (tgt := 27) hx hb dX0_hasCallBelow_7 (by decide) (fun hc => ?_) (fun hc => ?_)
      · have hok := ip hok hc
        refine lv_iconst (v := (0 : Int32)) hx hb dX0_hasCallBelow_27 (by decide) ?_
        exact eRz S hr hlk (by decide) (Option.some.inj hok) dX0_hasCallBelow_28
      · have hok := iq hok hc
        refine lv_aload_n hx hb dX0_hasCallBelow_10 rfl (lv_at hl 0 rfl) ?_
        refine va_get (D := (dC, dI)) (ci := 0) (v := .ref c8) (C := RX0) (T := TX0) (N := 14) hx hb hts inX0 hown hK hP 0 rfl rfl 8 (by decide) (hts _ qf_X0_33) (fun _ h9 => h9) rfl dX0_hasCallBelow_11 ?_
        refine lv_iload_n hx hb dX0_hasCallBelow_14 rfl (lv_at hl 1 rfl) ?_
        obtain ⟨hi1, hok⟩ := gd_some hok
        refine va_zald hx hb hK hP 1 1 rfl rfl hi1 dX0_hasCallBelow_15 ?_
        refine lv_if_eq (tgt := 21) hx hb dX0_hasCallBelow_16 (by decide) (fun hc => ?_) (fun hc => ?_)
        · have hok := ip hok hc
          refine lv_iinc (v := (l2_1 + 1)) (lv' := [(1, .int (l2_1 + 1)), (0, .ref c0)]) hx hb dX0_hasCallBelow_21 hl (k := 1) rfl rfl (by decide) rfl (fun ls hl => ?_)
          refine lv_goto (tgt := 2) hx hb dX0_hasCallBelow_24 (by decide) ?_
          exact ih2 (l2_1 + 1) _ (lv_sub hl [1, 0] rfl) hok
        · have hok := iq hok hc
          refine lv_iconst (v := (1 : Int32)) hx hb dX0_hasCallBelow_19 (by decide) ?_
          exact eRz S hr hlk (by decide) (Option.some.inj hok) dX0_hasCallBelow_20
  unfold p_X0_hasCallBelow at hok
  refine lv_iconst (v := (0 : Int32)) hx hb dX0_hasCallBelow_0 (by decide) ?_
  refine lv_istore_n (lv' := [(1, .int (0 : Int32)), (0, .ref c0)]) hx hb dX0_hasCallBelow_1 rfl hl (by decide) rfl (fun ls hl => ?_)
  exact L2 200 (0 : Int32) _ (lv_sub hl [1, 0] rfl) hok
theorem hd_X0_wayToNearestCall : yX0_wayToNearestCall.cls = RX0 ∧ yX0_wayToNearestCall.cls ≠ "java/lang/invoke/MethodHandle" ∧ yX0_wayToNearestCall.cls ≠ "java/lang/invoke/VarHandle" ∧ (parseMethodDescriptor yX0_wayToNearestCall.desc).map (fun d => d.parameters.length) = some 0 := by decide +kernel
def p_X0_wayToNearestCall_L2 : Nat → tX0 → tX1 → Int32 → Option Int32
  | 0, _, _, _ => none
  | n + 1, uC, uH, l2_1 =>
    if (12 : Int32) ≤ l2_1 then
      some (0 : Int32)
    else
      bd (p_X0_hasCall uC uH (uC.2.1 + l2_1)) (fun v1 =>
      if v1 = 0 then
        bd (p_X0_hasCall uC uH (uC.2.1 - l2_1)) (fun v2 =>
        if v2 = 0 then
          (p_X0_wayToNearestCall_L2 n) uC uH (l2_1 + 1)
        else
          some (-1 : Int32))
      else
        some (1 : Int32))
def p_X0_wayToNearestCall (uC : tX0) (uH : tX1) : Option Int32 :=
  p_X0_wayToNearestCall_L2 200 uC uH (1 : Int32)
set_option maxHeartbeats 4000000 in
set_option maxRecDepth 100000 in
theorem c_X0_wayToNearestCall (l : Launch) (dC : Nat → ClassId) (dI : Nat → Nat → Nat) (cI cZ : ClassId) (c0 c8 c9 c10 c11 c12 c13 h0 h3 h4 h5 h6 : Nat) (uC : tX0) (uH : tX1) {z : Int32} (hok : p_X0_wayToNearestCall uC uH = some z) : Met l yX0_wayToNearestCall (Cond.code yX0_wayToNearestCall cX0_wayToNearestCall 2 (some .int) :: lw_all) { frames := 1, cells := 0, slots := 0, locals := 21 } (prR (dC, dI) vwCl (TYS cI cZ) ((wX0 cI cZ c0 c8 c9 c10 c11 c12 c13 h0 uC) ++ (wX1 cI cZ h0 h3 h4 h5 h6 uH)) [.ref c0]) (vp_Si (fun r => r = z)) 0 0 (fun _ => False) := by
  refine oM (by decide) (Nat.le_of_ble_eq_true rfl) ?_
  intro p e s m args below meth c S hr hlk hnm hB ls hl
  have hx := S.1
  have hb := S.2.1
  have hml := S.2.2.1
  have hown : s.vm.findClass RX0 = some m.cls := S.2.2.2.1
  have hts := S.2.2.2.2
  have S : CallFix p m c cX0_wayToNearestCall 2 s args lw_all RX0 := S
  have hl : lv_has ls 2 [(0, .ref c0)] := hl
  obtain ⟨hP, hK⟩ := hB
  have hP : va_P (dC, dI) vwCl ((wX0 cI cZ c0 c8 c9 c10 c11 c12 c13 h0 uC) ++ (wX1 cI cZ h0 h3 h4 h5 h6 uH)) s.heap := hP
  have L2 : ∀ n2 : Nat, ∀ (l2_1 : Int32) (ls : Array Slot) (hl : lv_has ls 2 [(0, .ref c0), (1, .int l2_1)]) (hok : p_X0_wayToNearestCall_L2 n2 uC uH l2_1 = some z), W p l e { frames := 1, cells := 0, slots := 0, locals := 21 } s m args below meth c s.heap [] 0 0 (MQ below (vp_Si (fun r => r = z)) args s 0 0 (fun _ => False)) (F0 m 2 ls []) := by
    intro n2
    induction n2 with
    | zero =>
      intro l2_1 ls hl hok
      rw [p_X0_wayToNearestCall_L2] at hok
      cases hok
    | succ n2 ih2 =>
      intro l2_1 ls hl hok
      rw [p_X0_wayToNearestCall_L2] at hok
      refine lv_iload_n hx hb dX0_wayToNearestCall_2 rfl (lv_at hl 1 rfl) ?_
      refine lv_bipush (v := (12 : Int32)) hx hb dX0_wayToNearestCall_3 (by decide) ?_
      refine lv_icmp_ge (tgt := 44) hx hb dX0_wayToNearestCall_5 (by decide) (fun hc => ?_) (fun hc => ?_)
      · have hok := ip hok hc
        refine lv_iconst (v := (0 : Int32)) hx hb dX0_wayToNearestCall_44 (by decide) ?_
        exact eRi S hr hlk (Option.some.inj hok) dX0_wayToNearestCall_45
      · have hok := iq hok hc
        refine lv_aload_n hx hb dX0_wayToNearestCall_8 rfl (lv_at hl 0 rfl) ?_
        refine lv_aload_n hx hb dX0_wayToNearestCall_9 rfl (lv_at hl 0 rfl) ?_
        refine va_get (D := (dC, dI)) (ci := 0) (v := .int uC.2.1) (C := RX0) (T := TX0) (N := 14) hx hb hts inX0 hown hK hP 0 rfl rfl 2 (by decide) (hts _ qf_X0_15) (fun _ h9 => h9) rfl dX0_wayToNearestCall_10 ?_
        refine lv_iload_n hx hb dX0_wayToNearestCall_13 rfl (lv_at hl 1 rfl) ?_
        refine lv_iadd hx hb dX0_wayToNearestCall_14 ?_
        obtain ⟨v1, hc1, hok⟩ := bd_some hok
        refine cRVi (ci := 0) (q0 := 0) [.int (uC.2.1 + l2_1)] S hK hP (c_X0_hasCall l dC dI cI cZ c0 c8 c9 c10 c11 c12 c13 h0 h3 h4 h5 h6 uC uH (uC.2.1 + l2_1) hc1) (lw_V qm_X0_79 qi_X0_hasCall qs_X0_hasCall qn_X0 qc_X0_hasCall) hd_X0_hasCall ⟨rfl, rfl⟩ ⟨Nat.le_of_ble_eq_true rfl, Nat.le_of_ble_eq_true rfl⟩ ⟨Nat.le_of_ble_eq_true rfl, Nat.le_of_ble_eq_true rfl⟩ rfl rfl rfl hl.1 (Nat.le_of_ble_eq_true rfl) rfl dX0_wayToNearestCall_15 ?_
        refine lv_if_eq (tgt := 23) hx hb dX0_wayToNearestCall_18 (by decide) (fun hc => ?_) (fun hc => ?_)
        · have hok := ip hok hc
          refine lv_aload_n hx hb dX0_wayToNearestCall_23 rfl (lv_at hl 0 rfl) ?_
          refine lv_aload_n hx hb dX0_wayToNearestCall_24 rfl (lv_at hl 0 rfl) ?_
          refine va_get (D := (dC, dI)) (ci := 0) (v := .int uC.2.1) (C := RX0) (T := TX0) (N := 14) hx hb hts inX0 hown hK hP 0 rfl rfl 2 (by decide) (hts _ qf_X0_15) (fun _ h9 => h9) rfl dX0_wayToNearestCall_25 ?_
          refine lv_iload_n hx hb dX0_wayToNearestCall_28 rfl (lv_at hl 1 rfl) ?_
          refine lv_isub hx hb dX0_wayToNearestCall_29 ?_
          obtain ⟨v2, hc2, hok⟩ := bd_some hok
          refine cRVi (ci := 0) (q0 := 0) [.int (uC.2.1 - l2_1)] S hK hP (c_X0_hasCall l dC dI cI cZ c0 c8 c9 c10 c11 c12 c13 h0 h3 h4 h5 h6 uC uH (uC.2.1 - l2_1) hc2) (lw_V qm_X0_79 qi_X0_hasCall qs_X0_hasCall qn_X0 qc_X0_hasCall) hd_X0_hasCall ⟨rfl, rfl⟩ ⟨Nat.le_of_ble_eq_true rfl, Nat.le_of_ble_eq_true rfl⟩ ⟨Nat.le_of_ble_eq_true rfl, Nat.le_of_ble_eq_true rfl⟩ rfl rfl rfl hl.1 (Nat.le_of_ble_eq_true rfl) rfl dX0_wayToNearestCall_30 ?_
          refine lv_if_eq (tgt := 38) hx hb dX0_wayToNearestCall_33 (by decide) (fun hc => ?_) (fun hc => ?_)
          · have hok := ip hok hc
            refine lv_iinc (v := (l2_1 + 1)) (lv' := [(1, .int (l2_1 + 1)), (0, .ref c0)]) hx hb dX0_wayToNearestCall_38 hl (k := 1) rfl rfl (by decide) rfl (fun ls hl => ?_)
            refine lv_goto (tgt := 2) hx hb dX0_wayToNearestCall_41 (by decide) ?_
            exact ih2 (l2_1 + 1) _ (lv_sub hl [1, 0] rfl) hok
          · have hok := iq hok hc
            refine lv_iconst (v := (-1 : Int32)) hx hb dX0_wayToNearestCall_36 (by decide) ?_
            exact eRi S hr hlk (Option.some.inj hok) dX0_wayToNearestCall_37
        · have hok := iq hok hc
          refine lv_iconst (v := (1 : Int32)) hx hb dX0_wayToNearestCall_21 (by decide) ?_
          exact eRi S hr hlk (Option.some.inj hok) dX0_wayToNearestCall_22
  unfold p_X0_wayToNearestCall at hok
  refine lv_iconst (v := (1 : Int32)) hx hb dX0_wayToNearestCall_0 (by decide) ?_
  refine lv_istore_n (lv' := [(1, .int (1 : Int32)), (0, .ref c0)]) hx hb dX0_wayToNearestCall_1 rfl hl (by decide) rfl (fun ls hl => ?_)
  exact L2 200 (1 : Int32) _ (lv_sub hl [1, 0] rfl) hok
theorem hd_X0_ride : yX0_ride.cls = RX0 ∧ yX0_ride.cls ≠ "java/lang/invoke/MethodHandle" ∧ yX0_ride.cls ≠ "java/lang/invoke/VarHandle" ∧ (parseMethodDescriptor yX0_ride.desc).map (fun d => d.parameters.length) = some 0 := by decide +kernel
def p_X0_ride_J58 (uC : tX0) (uH : tX1) : Option tX0 :=
  some (uC.1, (uC.2.1 + uC.2.2.1), uC.2.2.1, uC.2.2.2.1, (uC.2.2.2.2.1 + (1 : Int32)), uC.2.2.2.2.2)
def p_X0_ride_J45 (uC : tX0) (uH : tX1) (s45_0 : Int32) : Option tX0 :=
  if s45_0 = 0 then
    bd (p_X0_wayToNearestCall uC uH) (fun v4 =>
    p_X0_ride_J58 (uC.1, uC.2.1, v4, uC.2.2.2) uH)
  else
    p_X0_ride_J58 uC uH
def p_X0_ride_J44 (uC : tX0) (uH : tX1) : Option tX0 :=
  p_X0_ride_J45 uC uH (0 : Int32)
def p_X0_ride_J40 (uC : tX0) (uH : tX1) : Option tX0 :=
  p_X0_ride_J45 uC uH (1 : Int32)
def p_X0_ride_J26 (uC : tX0) (uH : tX1) : Option tX0 :=
  if 0 ≤ uC.2.2.1 then
    p_X0_ride_J44 uC uH
  else
    bd (p_X0_hasCallBelow uC uH) (fun v3 =>
    if v3 = 0 then
      p_X0_ride_J44 uC uH
    else
      p_X0_ride_J40 uC uH)
def p_X0_ride (uC : tX0) (uH : tX1) : Option tX0 :=
  bd (p_X0_hasCall uC uH uC.2.1) (fun v1 =>
  if v1 = 0 then
    if uC.2.2.1 ≤ 0 then
      p_X0_ride_J26 uC uH
    else
      bd (p_X0_hasCallAbove uC uH) (fun v2 =>
      if v2 = 0 then
        p_X0_ride_J26 uC uH
      else
        p_X0_ride_J40 uC uH)
  else
    some uC)
set_option maxHeartbeats 4000000 in
set_option maxRecDepth 100000 in
theorem c_X0_ride (l : Launch) (dC : Nat → ClassId) (dI : Nat → Nat → Nat) (cI cZ : ClassId) (c0 c8 c9 c10 c11 c12 c13 h0 h3 h4 h5 h6 : Nat) (sz : Nat) (uC : tX0) (uH : tX1) {z : tX0} (hok : p_X0_ride uC uH = some z) : Met l yX0_ride (Cond.code yX0_ride cX0_ride 2 none :: lw_all) { frames := 2, cells := 0, slots := 0, locals := 42 } (prW (dC, dI) vwCl (TYS cI cZ) ((wX0 cI cZ c0 c8 c9 c10 c11 c12 c13 h0 uC) ++ (wX1 cI cZ h0 h3 h4 h5 h6 uH)) sz [.ref c0]) (va_Qv (fun _ : Unit => True) (fun _ t => va_P (dC, dI) vwCl ((wX0 cI cZ c0 c8 c9 c10 c11 c12 c13 h0 z) ++ (wX1 cI cZ h0 h3 h4 h5 h6 uH)) t.heap) (va_A ((wX0 cI cZ c0 c8 c9 c10 c11 c12 c13 h0 uC) ++ (wX1 cI cZ h0 h3 h4 h5 h6 uH)) sz)) 0 0 (va_A ((wX0 cI cZ c0 c8 c9 c10 c11 c12 c13 h0 uC) ++ (wX1 cI cZ h0 h3 h4 h5 h6 uH)) sz) := by
  refine oM (by decide) (Nat.le_of_ble_eq_true rfl) ?_
  intro p e s m args below meth c S hr hlk hnm hB ls hl
  have hx := S.1
  have hb := S.2.1
  have hml := S.2.2.1
  have hown : s.vm.findClass RX0 = some m.cls := S.2.2.2.1
  have hts := S.2.2.2.2
  have S : CallFix p m c cX0_ride 2 s args lw_all RX0 := S
  have hl : lv_has ls 2 [(0, .ref c0)] := hl
  obtain ⟨hsz, hP, hK, hD0⟩ := hB
  subst hsz
  have hD := hD0.self (sz := s.heap.size)
  generalize hAe : va_A ((wX0 cI cZ c0 c8 c9 c10 c11 c12 c13 h0 uC) ++ (wX1 cI cZ h0 h3 h4 h5 h6 uH)) s.heap.size = A at hD ⊢
  have hA : ∀ q : Nat, s.heap.size ≤ q → A q := fun q h => by rw [← hAe]; exact Or.inr h
  have hS : va_S A s.heap s.heap [] := va_S.rf
  have hP : va_P (dC, dI) vwCl ((wX0 cI cZ c0 c8 c9 c10 c11 c12 c13 h0 uC) ++ (wX1 cI cZ h0 h3 h4 h5 h6 uH)) s.heap := hP
  have J58 : ∀ (uC : tX0) (H : Heap) (locs : List Loc) (hP : va_P (dC, dI) vwCl ((wX0 cI cZ c0 c8 c9 c10 c11 c12 c13 h0 uC) ++ (wX1 cI cZ h0 h3 h4 h5 h6 uH)) H) (hD : va_D A ((wX0 cI cZ c0 c8 c9 c10 c11 c12 c13 h0 uC) ++ (wX1 cI cZ h0 h3 h4 h5 h6 uH))) (hS : va_S A s.heap H locs) (ls : Array Slot) (hl : lv_has ls 2 [(0, .ref c0)]) (hok : p_X0_ride_J58 uC uH = some z), W p l e { frames := 2, cells := 0, slots := 0, locals := 42 } s m args below meth c H locs 0 0 (MQ below (va_Qv (fun _ : Unit => True) (fun _ t => va_P (dC, dI) vwCl ((wX0 cI cZ c0 c8 c9 c10 c11 c12 c13 h0 z) ++ (wX1 cI cZ h0 h3 h4 h5 h6 uH)) t.heap) A) args s 0 0 A) (F0 m 58 ls []) := by
    intro uC H locs hP hD hS ls hl hok
    unfold p_X0_ride_J58 at hok
    refine lv_aload_n hx hb dX0_ride_58 rfl (lv_at hl 0 rfl) ?_
    refine lv_dup hx hb dX0_ride_59 rfl ?_
    refine va_get (D := (dC, dI)) (ci := 0) (v := .int uC.2.1) (C := RX0) (T := TX0) (N := 14) hx hb hts inX0 hown hK hP 0 rfl rfl 2 (by decide) (hts _ qf_X0_15) (fun _ h9 => h9) rfl dX0_ride_60 ?_
    refine lv_aload_n hx hb dX0_ride_63 rfl (lv_at hl 0 rfl) ?_
    refine va_get (D := (dC, dI)) (ci := 0) (v := .int uC.2.2.1) (C := RX0) (T := TX0) (N := 14) hx hb hts inX0 hown hK hP 0 rfl rfl 3 (by decide) (hts _ qf_X0_18) (fun _ h9 => h9) rfl dX0_ride_64 ?_
    refine lv_iadd hx hb dX0_ride_67 ?_
    refine va_put (D := (dC, dI)) (ci := 0) (v := .int (uC.2.1 + uC.2.2.1)) (ty := .int) (C := RX0) (T := TX0) (N := 14) hx hb hts inX0 tyX0 tyX0_ok nmX0 hown hK hP hD hS 0 rfl rfl 2 (by decide) (hts _ qf_X0_15) (fun _ h9 => h9) rfl (tyX0_ok 2 (by decide)) rfl rfl (Nat.le_of_ble_eq_true rfl) dX0_ride_68 (fun H locs hP _ hS => ?_)
    have hP : va_P (dC, dI) vwCl ((wX0 cI cZ c0 c8 c9 c10 c11 c12 c13 h0 (uC.1, (uC.2.1 + uC.2.2.1), uC.2.2)) ++ (wX1 cI cZ h0 h3 h4 h5 h6 uH)) H := hP
    have hD : va_D A ((wX0 cI cZ c0 c8 c9 c10 c11 c12 c13 h0 (uC.1, (uC.2.1 + uC.2.2.1), uC.2.2)) ++ (wX1 cI cZ h0 h3 h4 h5 h6 uH)) := D_CH hD
    refine lv_aload_n hx hb dX0_ride_71 rfl (lv_at hl 0 rfl) ?_
    refine lv_dup hx hb dX0_ride_72 rfl ?_
    refine va_get (D := (dC, dI)) (ci := 0) (v := .int uC.2.2.2.2.1) (C := RX0) (T := TX0) (N := 14) hx hb hts inX0 hown hK hP 0 rfl rfl 5 (by decide) (hts _ qf_X0_24) (fun _ h9 => h9) rfl dX0_ride_73 ?_
    refine lv_iconst (v := (1 : Int32)) hx hb dX0_ride_76 (by decide) ?_
    refine lv_iadd hx hb dX0_ride_77 ?_
    refine va_put (D := (dC, dI)) (ci := 0) (v := .int (uC.2.2.2.2.1 + (1 : Int32))) (ty := .int) (C := RX0) (T := TX0) (N := 14) hx hb hts inX0 tyX0 tyX0_ok nmX0 hown hK hP hD hS 0 rfl rfl 5 (by decide) (hts _ qf_X0_24) (fun _ h9 => h9) rfl (tyX0_ok 5 (by decide)) rfl rfl (Nat.le_of_ble_eq_true rfl) dX0_ride_78 (fun H locs hP _ hS => ?_)
    have hP : va_P (dC, dI) vwCl ((wX0 cI cZ c0 c8 c9 c10 c11 c12 c13 h0 (uC.1, (uC.2.1 + uC.2.2.1), uC.2.2.1, uC.2.2.2.1, (uC.2.2.2.2.1 + (1 : Int32)), uC.2.2.2.2.2)) ++ (wX1 cI cZ h0 h3 h4 h5 h6 uH)) H := hP
    have hD : va_D A ((wX0 cI cZ c0 c8 c9 c10 c11 c12 c13 h0 (uC.1, (uC.2.1 + uC.2.2.1), uC.2.2.1, uC.2.2.2.1, (uC.2.2.2.2.1 + (1 : Int32)), uC.2.2.2.2.2)) ++ (wX1 cI cZ h0 h3 h4 h5 h6 uH)) := D_CH hD
    have hok := Option.some.inj hok
    subst hok
    exact eWv S hr hlk hP hS (Nat.le_of_ble_eq_true rfl) (Nat.le_of_ble_eq_true rfl) dX0_ride_81
  have J45 : ∀ (uC : tX0) (s45_0 : Int32) (H : Heap) (locs : List Loc) (hP : va_P (dC, dI) vwCl ((wX0 cI cZ c0 c8 c9 c10 c11 c12 c13 h0 uC) ++ (wX1 cI cZ h0 h3 h4 h5 h6 uH)) H) (hD : va_D A ((wX0 cI cZ c0 c8 c9 c10 c11 c12 c13 h0 uC) ++ (wX1 cI cZ h0 h3 h4 h5 h6 uH))) (hS : va_S A s.heap H locs) (ls : Array Slot) (hl : lv_has ls 2 [(0, .ref c0)]) (hok : p_X0_ride_J45 uC uH s45_0 = some z), W p l e { frames := 2, cells := 0, slots := 0, locals := 42 } s m args below meth c H locs 0 0 (MQ below (va_Qv (fun _ : Unit => True) (fun _ t => va_P (dC, dI) vwCl ((wX0 cI cZ c0 c8 c9 c10 c11 c12 c13 h0 z) ++ (wX1 cI cZ h0 h3 h4 h5 h6 uH)) t.heap) A) args s 0 0 A) (F0 m 45 ls [.int s45_0]) := by
    intro uC s45_0 H locs hP hD hS ls hl hok
    unfold p_X0_ride_J45 at hok
    refine lv_istore_n (lv' := [(1, .int s45_0), (0, .ref c0)]) hx hb dX0_ride_45 rfl hl (by decide) rfl (fun ls hl => ?_)
    refine lv_iload_n hx hb dX0_ride_46 rfl (lv_at hl 0 rfl) ?_
    refine lv_if_ne (tgt := 58) hx hb dX0_ride_47 (by decide) (fun hc => ?_) (fun hc => ?_)
    · have hok := iq hok hc
      exact J58 uC _ _ hP hD hS _ (lv_sub hl [1] rfl) hok
    · have hok := ip hok hc
      refine lv_aload_n hx hb dX0_ride_50 rfl (lv_at hl 1 rfl) ?_
      refine lv_aload_n hx hb dX0_ride_51 rfl (lv_at hl 1 rfl) ?_
      obtain ⟨v4, hc4, hok⟩ := bd_some hok
      refine cRVi (ci := 0) (q0 := 0) [] S hK hP (c_X0_wayToNearestCall l dC dI cI cZ c0 c8 c9 c10 c11 c12 c13 h0 h3 h4 h5 h6 uC uH hc4) (lw_V qm_X0_90 qi_X0_wayToNearestCall qs_X0_wayToNearestCall qn_X0 qc_X0_wayToNearestCall) hd_X0_wayToNearestCall ⟨rfl, rfl⟩ ⟨Nat.le_of_ble_eq_true rfl, Nat.le_of_ble_eq_true rfl⟩ ⟨Nat.le_of_ble_eq_true rfl, Nat.le_of_ble_eq_true rfl⟩ rfl rfl rfl hl.1 (Nat.le_of_ble_eq_true rfl) rfl dX0_ride_52 ?_
      refine va_put (D := (dC, dI)) (ci := 0) (v := .int v4) (ty := .int) (C := RX0) (T := TX0) (N := 14) hx hb hts inX0 tyX0 tyX0_ok nmX0 hown hK hP hD hS 0 rfl rfl 3 (by decide) (hts _ qf_X0_18) (fun _ h9 => h9) rfl (tyX0_ok 3 (by decide)) rfl rfl (Nat.le_of_ble_eq_true rfl) dX0_ride_55 (fun H locs hP _ hS => ?_)
      have hP : va_P (dC, dI) vwCl ((wX0 cI cZ c0 c8 c9 c10 c11 c12 c13 h0 (uC.1, uC.2.1, v4, uC.2.2.2)) ++ (wX1 cI cZ h0 h3 h4 h5 h6 uH)) H := hP
      have hD : va_D A ((wX0 cI cZ c0 c8 c9 c10 c11 c12 c13 h0 (uC.1, uC.2.1, v4, uC.2.2.2)) ++ (wX1 cI cZ h0 h3 h4 h5 h6 uH)) := D_CH hD
      exact J58 (uC.1, uC.2.1, v4, uC.2.2.2) _ _ hP hD hS _ (lv_sub hl [1] rfl) hok
  have J44 : ∀ (uC : tX0) (H : Heap) (locs : List Loc) (hP : va_P (dC, dI) vwCl ((wX0 cI cZ c0 c8 c9 c10 c11 c12 c13 h0 uC) ++ (wX1 cI cZ h0 h3 h4 h5 h6 uH)) H) (hD : va_D A ((wX0 cI cZ c0 c8 c9 c10 c11 c12 c13 h0 uC) ++ (wX1 cI cZ h0 h3 h4 h5 h6 uH))) (hS : va_S A s.heap H locs) (ls : Array Slot) (hl : lv_has ls 2 [(0, .ref c0)]) (hok : p_X0_ride_J44 uC uH = some z), W p l e { frames := 2, cells := 0, slots := 0, locals := 42 } s m args below meth c H locs 0 0 (MQ below (va_Qv (fun _ : Unit => True) (fun _ t => va_P (dC, dI) vwCl ((wX0 cI cZ c0 c8 c9 c10 c11 c12 c13 h0 z) ++ (wX1 cI cZ h0 h3 h4 h5 h6 uH)) t.heap) A) args s 0 0 A) (F0 m 44 ls []) := by
    intro uC H locs hP hD hS ls hl hok
    unfold p_X0_ride_J44 at hok
    refine lv_iconst (v := (0 : Int32)) hx hb dX0_ride_44 (by decide) ?_
    exact J45 uC (0 : Int32) _ _ hP hD hS _ hl hok
  have J40 : ∀ (uC : tX0) (H : Heap) (locs : List Loc) (hP : va_P (dC, dI) vwCl ((wX0 cI cZ c0 c8 c9 c10 c11 c12 c13 h0 uC) ++ (wX1 cI cZ h0 h3 h4 h5 h6 uH)) H) (hD : va_D A ((wX0 cI cZ c0 c8 c9 c10 c11 c12 c13 h0 uC) ++ (wX1 cI cZ h0 h3 h4 h5 h6 uH))) (hS : va_S A s.heap H locs) (ls : Array Slot) (hl : lv_has ls 2 [(0, .ref c0)]) (hok : p_X0_ride_J40 uC uH = some z), W p l e { frames := 2, cells := 0, slots := 0, locals := 42 } s m args below meth c H locs 0 0 (MQ below (va_Qv (fun _ : Unit => True) (fun _ t => va_P (dC, dI) vwCl ((wX0 cI cZ c0 c8 c9 c10 c11 c12 c13 h0 z) ++ (wX1 cI cZ h0 h3 h4 h5 h6 uH)) t.heap) A) args s 0 0 A) (F0 m 40 ls []) := by
    intro uC H locs hP hD hS ls hl hok
    unfold p_X0_ride_J40 at hok
    refine lv_iconst (v := (1 : Int32)) hx hb dX0_ride_40 (by decide) ?_
    refine lv_goto (tgt := 45) hx hb dX0_ride_41 (by decide) ?_
    exact J45 uC (1 : Int32) _ _ hP hD hS _ hl hok
  have J26 : ∀ (uC : tX0) (H : Heap) (locs : List Loc) (hP : va_P (dC, dI) vwCl ((wX0 cI cZ c0 c8 c9 c10 c11 c12 c13 h0 uC) ++ (wX1 cI cZ h0 h3 h4 h5 h6 uH)) H) (hD : va_D A ((wX0 cI cZ c0 c8 c9 c10 c11 c12 c13 h0 uC) ++ (wX1 cI cZ h0 h3 h4 h5 h6 uH))) (hS : va_S A s.heap H locs) (ls : Array Slot) (hl : lv_has ls 2 [(0, .ref c0)]) (hok : p_X0_ride_J26 uC uH = some z), W p l e { frames := 2, cells := 0, slots := 0, locals := 42 } s m args below meth c H locs 0 0 (MQ below (va_Qv (fun _ : Unit => True) (fun _ t => va_P (dC, dI) vwCl ((wX0 cI cZ c0 c8 c9 c10 c11 c12 c13 h0 z) ++ (wX1 cI cZ h0 h3 h4 h5 h6 uH)) t.heap) A) args s 0 0 A) (F0 m 26 ls []) := by
    intro uC H locs hP hD hS ls hl hok
    unfold p_X0_ride_J26 at hok
    refine lv_aload_n hx hb dX0_ride_26 rfl (lv_at hl 0 rfl) ?_
    refine va_get (D := (dC, dI)) (ci := 0) (v := .int uC.2.2.1) (C := RX0) (T := TX0) (N := 14) hx hb hts inX0 hown hK hP 0 rfl rfl 3 (by decide) (hts _ qf_X0_18) (fun _ h9 => h9) rfl dX0_ride_27 ?_
    refine lv_if_ge (tgt := 44) hx hb dX0_ride_30 (by decide) (fun hc => ?_) (fun hc => ?_)
    · have hok := ip hok hc
      exact J44 uC _ _ hP hD hS _ hl hok
    · have hok := iq hok hc
      refine lv_aload_n hx hb dX0_ride_33 rfl (lv_at hl 0 rfl) ?_
      obtain ⟨v3, hc3, hok⟩ := bd_some hok
      refine cRVi (ci := 0) (q0 := 0) [] S hK hP (c_X0_hasCallBelow l dC dI cI cZ c0 c8 c9 c10 c11 c12 c13 h0 h3 h4 h5 h6 uC uH hc3) (lw_V qm_X0_87 qi_X0_hasCallBelow qs_X0_hasCallBelow qn_X0 qc_X0_hasCallBelow) hd_X0_hasCallBelow ⟨rfl, rfl⟩ ⟨Nat.le_of_ble_eq_true rfl, Nat.le_of_ble_eq_true rfl⟩ ⟨Nat.le_of_ble_eq_true rfl, Nat.le_of_ble_eq_true rfl⟩ rfl rfl rfl hl.1 (Nat.le_of_ble_eq_true rfl) rfl dX0_ride_34 ?_
      refine lv_if_eq (tgt := 44) hx hb dX0_ride_37 (by decide) (fun hc => ?_) (fun hc => ?_)
      · have hok := ip hok hc
        exact J44 uC _ _ hP hD hS _ hl hok
      · have hok := iq hok hc
        exact J40 uC _ _ hP hD hS _ hl hok
  unfold p_X0_ride at hok
  refine lv_aload_n hx hb dX0_ride_0 rfl (lv_at hl 0 rfl) ?_
  refine lv_aload_n hx hb dX0_ride_1 rfl (lv_at hl 0 rfl) ?_
  refine va_get (D := (dC, dI)) (ci := 0) (v := .int uC.2.1) (C := RX0) (T := TX0) (N := 14) hx hb hts inX0 hown hK hP 0 rfl rfl 2 (by decide) (hts _ qf_X0_15) (fun _ h9 => h9) rfl dX0_ride_2 ?_
  obtain ⟨v1, hc1, hok⟩ := bd_some hok
  refine cRVi (ci := 0) (q0 := 0) [.int uC.2.1] S hK hP (c_X0_hasCall l dC dI cI cZ c0 c8 c9 c10 c11 c12 c13 h0 h3 h4 h5 h6 uC uH uC.2.1 hc1) (lw_V qm_X0_79 qi_X0_hasCall qs_X0_hasCall qn_X0 qc_X0_hasCall) hd_X0_hasCall ⟨rfl, rfl⟩ ⟨Nat.le_of_ble_eq_true rfl, Nat.le_of_ble_eq_true rfl⟩ ⟨Nat.le_of_ble_eq_true rfl, Nat.le_of_ble_eq_true rfl⟩ rfl rfl rfl hl.1 (Nat.le_of_ble_eq_true rfl) rfl dX0_ride_5 ?_
  refine lv_if_eq (tgt := 12) hx hb dX0_ride_8 (by decide) (fun hc => ?_) (fun hc => ?_)
  · have hok := ip hok hc
    refine lv_aload_n hx hb dX0_ride_12 rfl (lv_at hl 0 rfl) ?_
    refine va_get (D := (dC, dI)) (ci := 0) (v := .int uC.2.2.1) (C := RX0) (T := TX0) (N := 14) hx hb hts inX0 hown hK hP 0 rfl rfl 3 (by decide) (hts _ qf_X0_18) (fun _ h9 => h9) rfl dX0_ride_13 ?_
    refine lv_if_le (tgt := 26) hx hb dX0_ride_16 (by decide) (fun hc => ?_) (fun hc => ?_)
    · have hok := ip hok hc
      exact J26 uC _ _ hP hD hS _ hl hok
    · have hok := iq hok hc
      refine lv_aload_n hx hb dX0_ride_19 rfl (lv_at hl 0 rfl) ?_
      obtain ⟨v2, hc2, hok⟩ := bd_some hok
      refine cRVi (ci := 0) (q0 := 0) [] S hK hP (c_X0_hasCallAbove l dC dI cI cZ c0 c8 c9 c10 c11 c12 c13 h0 h3 h4 h5 h6 uC uH hc2) (lw_V qm_X0_83 qi_X0_hasCallAbove qs_X0_hasCallAbove qn_X0 qc_X0_hasCallAbove) hd_X0_hasCallAbove ⟨rfl, rfl⟩ ⟨Nat.le_of_ble_eq_true rfl, Nat.le_of_ble_eq_true rfl⟩ ⟨Nat.le_of_ble_eq_true rfl, Nat.le_of_ble_eq_true rfl⟩ rfl rfl rfl hl.1 (Nat.le_of_ble_eq_true rfl) rfl dX0_ride_20 ?_
      refine lv_if_ne (tgt := 40) hx hb dX0_ride_23 (by decide) (fun hc => ?_) (fun hc => ?_)
      · have hok := iq hok hc
        exact J40 uC _ _ hP hD hS _ hl hok
      · have hok := ip hok hc
        exact J26 uC _ _ hP hD hS _ hl hok
  · have hok := iq hok hc
    have hok := Option.some.inj hok
    subst hok
    exact eWv S hr hlk hP hS (Nat.le_of_ble_eq_true rfl) (Nat.le_of_ble_eq_true rfl) dX0_ride_11
theorem hd_X0_print : yX0_print.cls = RX0 ∧ yX0_print.cls ≠ "java/lang/invoke/MethodHandle" ∧ yX0_print.cls ≠ "java/lang/invoke/VarHandle" ∧ (parseMethodDescriptor yX0_print.desc).map (fun d => d.parameters.length) = some 2 := by decide +kernel
def p_X0_print_J63 (rec20 : tX0 → tX1 → Int32 → Int32 → Int32 → Option (Int32 × tX0)) (uC : tX0) (uH : tX1) (l63_1 : Int32) (l63_3 : Int32) (l63_4 : Int32) (s63_0 : Int32) : Option (Int32 × tX0) :=
  gd l63_4 8 (
  rec20 (uC.1, uC.2.1, uC.2.2.1, uC.2.2.2.1, uC.2.2.2.2.1, uC.2.2.2.2.2.1, uC.2.2.2.2.2.2.1, uC.2.2.2.2.2.2.2.1, uC.2.2.2.2.2.2.2.2.1, uC.2.2.2.2.2.2.2.2.2.1, uC.2.2.2.2.2.2.2.2.2.2.1, (upd uC.2.2.2.2.2.2.2.2.2.2.2.1 l63_4.toNatClampNeg (if ((uC.2.2.2.2.2.2.2.2.2.2.2.1 l63_4.toNatClampNeg) + s63_0) < (99 : Int32) then ((uC.2.2.2.2.2.2.2.2.2.2.2.1 l63_4.toNatClampNeg) + s63_0) else (99 : Int32))), uC.2.2.2.2.2.2.2.2.2.2.2.2) uH l63_1 l63_3 (l63_4 + 1))
def p_X0_print_L20 : Nat → tX0 → tX1 → Int32 → Int32 → Int32 → Option (Int32 × tX0)
  | 0, _, _, _, _, _ => none
  | n + 1, uC, uH, l20_1, l20_3, l20_4 =>
    if uH.2.2.1 ≤ l20_4 then
      some (l20_3, uC)
    else
      gd l20_4 8 (
      if (uC.2.2.2.2.2.2.2.2.2.2.2.2 l20_4.toNatClampNeg) = 0 then
        (p_X0_print_L20 n) uC uH l20_1 l20_3 (l20_4 + 1)
      else
        if (uH.2.2.2.2.2.2 l20_4.toNatClampNeg) = l20_1 then
          p_X0_print_J63 (p_X0_print_L20 n) uC uH l20_1 l20_3 l20_4 l20_3
        else
          p_X0_print_J63 (p_X0_print_L20 n) uC uH l20_1 l20_3 l20_4 (l20_3 / (3 : Int32)))
def p_X0_print (uC : tX0) (uH : tX1) (a1 : Int32) (a2 : Int32) : Option (Int32 × tX0) :=
  p_X0_print_L20 200 (uC.1, uC.2.1, uC.2.2.1, uC.2.2.2.1, uC.2.2.2.2.1, (0 : Int32), a2, uC.2.2.2.2.2.2.2) uH a1 (a2 + uC.2.2.2.2.2.1) (0 : Int32)
set_option maxHeartbeats 4000000 in
set_option maxRecDepth 100000 in
theorem c_X0_print (l : Launch) (dC : Nat → ClassId) (dI : Nat → Nat → Nat) (cI cZ : ClassId) (c0 c8 c9 c10 c11 c12 c13 h0 h3 h4 h5 h6 : Nat) (sz : Nat) (uC : tX0) (uH : tX1) (a1 : Int32) (a2 : Int32) {z : (Int32 × tX0)} (hok : p_X0_print uC uH a1 a2 = some z) : Met l yX0_print (Cond.code yX0_print cX0_print 6 (some .int) :: lw_all) { frames := 1, cells := 0, slots := 0, locals := 21 } (prW (dC, dI) vwCl (TYS cI cZ) ((wX0 cI cZ c0 c8 c9 c10 c11 c12 c13 h0 uC) ++ (wX1 cI cZ h0 h3 h4 h5 h6 uH)) sz [.ref c0, .int a1, .int a2]) (va_Qi (fun (r : Int32) (_ : Unit) => r = z.1) (fun _ t => va_P (dC, dI) vwCl ((wX0 cI cZ c0 c8 c9 c10 c11 c12 c13 h0 z.2) ++ (wX1 cI cZ h0 h3 h4 h5 h6 uH)) t.heap) (va_A ((wX0 cI cZ c0 c8 c9 c10 c11 c12 c13 h0 uC) ++ (wX1 cI cZ h0 h3 h4 h5 h6 uH)) sz)) 0 0 (va_A ((wX0 cI cZ c0 c8 c9 c10 c11 c12 c13 h0 uC) ++ (wX1 cI cZ h0 h3 h4 h5 h6 uH)) sz) := by
  refine oM (by decide) (Nat.le_of_ble_eq_true rfl) ?_
  intro p e s m args below meth c S hr hlk hnm hB ls hl
  have hx := S.1
  have hb := S.2.1
  have hml := S.2.2.1
  have hown : s.vm.findClass RX0 = some m.cls := S.2.2.2.1
  have hts := S.2.2.2.2
  have S : CallFix p m c cX0_print 6 s args lw_all RX0 := S
  have hl : lv_has ls 6 [(0, .ref c0), (1, .int a1), (2, .int a2)] := hl
  obtain ⟨hsz, hP, hK, hD0⟩ := hB
  subst hsz
  have hD := hD0.self (sz := s.heap.size)
  generalize hAe : va_A ((wX0 cI cZ c0 c8 c9 c10 c11 c12 c13 h0 uC) ++ (wX1 cI cZ h0 h3 h4 h5 h6 uH)) s.heap.size = A at hD ⊢
  have hA : ∀ q : Nat, s.heap.size ≤ q → A q := fun q h => by rw [← hAe]; exact Or.inr h
  have hS : va_S A s.heap s.heap [] := va_S.rf
  have hP : va_P (dC, dI) vwCl ((wX0 cI cZ c0 c8 c9 c10 c11 c12 c13 h0 uC) ++ (wX1 cI cZ h0 h3 h4 h5 h6 uH)) s.heap := hP
  have L20 : ∀ n20 : Nat, ∀ (uC : tX0) (l20_1 : Int32) (l20_3 : Int32) (l20_4 : Int32) (H : Heap) (locs : List Loc) (hP : va_P (dC, dI) vwCl ((wX0 cI cZ c0 c8 c9 c10 c11 c12 c13 h0 uC) ++ (wX1 cI cZ h0 h3 h4 h5 h6 uH)) H) (hD : va_D A ((wX0 cI cZ c0 c8 c9 c10 c11 c12 c13 h0 uC) ++ (wX1 cI cZ h0 h3 h4 h5 h6 uH))) (hS : va_S A s.heap H locs) (ls : Array Slot) (hl : lv_has ls 6 [(0, .ref c0), (1, .int l20_1), (3, .int l20_3), (4, .int l20_4)]) (hok : p_X0_print_L20 n20 uC uH l20_1 l20_3 l20_4 = some z), W p l e { frames := 1, cells := 0, slots := 0, locals := 21 } s m args below meth c H locs 0 0 (MQ below (va_Qi (fun (r : Int32) (_ : Unit) => r = z.1) (fun _ t => va_P (dC, dI) vwCl ((wX0 cI cZ c0 c8 c9 c10 c11 c12 c13 h0 z.2) ++ (wX1 cI cZ h0 h3 h4 h5 h6 uH)) t.heap) A) args s 0 0 A) (F0 m 20 ls []) := by
    intro n20
    induction n20 with
    | zero =>
      intro uC l20_1 l20_3 l20_4 H locs hP hD hS ls hl hok
      rw [p_X0_print_L20] at hok
      cases hok
    | succ n20 ih20 =>
      have J63 : ∀ (uC : tX0) (l63_1 : Int32) (l63_3 : Int32) (l63_4 : Int32) (s63_0 : Int32) (H : Heap) (locs : List Loc) (hP : va_P (dC, dI) vwCl ((wX0 cI cZ c0 c8 c9 c10 c11 c12 c13 h0 uC) ++ (wX1 cI cZ h0 h3 h4 h5 h6 uH)) H) (hD : va_D A ((wX0 cI cZ c0 c8 c9 c10 c11 c12 c13 h0 uC) ++ (wX1 cI cZ h0 h3 h4 h5 h6 uH))) (hS : va_S A s.heap H locs) (ls : Array Slot) (hl : lv_has ls 6 [(0, .ref c0), (1, .int l63_1), (3, .int l63_3), (4, .int l63_4)]) (hok : p_X0_print_J63 (p_X0_print_L20 n20) uC uH l63_1 l63_3 l63_4 s63_0 = some z), W p l e { frames := 1, cells := 0, slots := 0, locals := 21 } s m args below meth c H locs 0 0 (MQ below (va_Qi (fun (r : Int32) (_ : Unit) => r = z.1) (fun _ t => va_P (dC, dI) vwCl ((wX0 cI cZ c0 c8 c9 c10 c11 c12 c13 h0 z.2) ++ (wX1 cI cZ h0 h3 h4 h5 h6 uH)) t.heap) A) args s 0 0 A) (F0 m 63 ls [.int s63_0]) := by
        intro uC l63_1 l63_3 l63_4 s63_0 H locs hP hD hS ls hl hok
        unfold p_X0_print_J63 at hok
        refine lv_istore (lv' := [(5, .int s63_0), (0, .ref c0), (1, .int l63_1), (3, .int l63_3), (4, .int l63_4)]) hx hb dX0_print_63 hl (by decide) rfl (fun ls hl => ?_)
        refine lv_aload_n hx hb dX0_print_65 rfl (lv_at hl 1 rfl) ?_
        refine va_get (D := (dC, dI)) (ci := 0) (v := .ref c12) (C := RX0) (T := TX0) (N := 14) hx hb hts inX0 hown hK hP 0 rfl rfl 12 (by decide) (hts _ qf_X0_47) (fun _ h9 => h9) rfl dX0_print_66 ?_
        refine lv_iload hx hb dX0_print_69 (lv_at hl 4 rfl) ?_
        refine lv_bipush (v := (99 : Int32)) hx hb dX0_print_71 (by decide) ?_
        refine lv_aload_n hx hb dX0_print_73 rfl (lv_at hl 1 rfl) ?_
        refine va_get (D := (dC, dI)) (ci := 0) (v := .ref c12) (C := RX0) (T := TX0) (N := 14) hx hb hts inX0 hown hK hP 0 rfl rfl 12 (by decide) (hts _ qf_X0_47) (fun _ h9 => h9) rfl dX0_print_74 ?_
        refine lv_iload hx hb dX0_print_77 (lv_at hl 4 rfl) ?_
        obtain ⟨hi2, hok⟩ := gd_some hok
        refine va_iald hx hb hK hP 5 0 rfl rfl hi2 dX0_print_79 ?_
        refine lv_iload hx hb dX0_print_80 (lv_at hl 0 rfl) ?_
        refine lv_iadd hx hb dX0_print_82 ?_
        refine va_mmin hx hb (hml.trans hl.1.symm) hown (hts _ qm_X0_114) (hts _ qt_Math_min) (hts _ qn_Math) (hts _ qc_Math_min) (Nat.le_of_ble_eq_true rfl) (Nat.le_of_ble_eq_true rfl) (Nat.le_of_ble_eq_true rfl) (Nat.le_of_ble_eq_true rfl) dX0_print_83 ?_
        refine va_iast hx hb hK hP hD hS 5 0 rfl rfl hi2 dX0_print_86 (fun H locs hP _ hS => ?_)
        have hP : va_P (dC, dI) vwCl ((wX0 cI cZ c0 c8 c9 c10 c11 c12 c13 h0 (uC.1, uC.2.1, uC.2.2.1, uC.2.2.2.1, uC.2.2.2.2.1, uC.2.2.2.2.2.1, uC.2.2.2.2.2.2.1, uC.2.2.2.2.2.2.2.1, uC.2.2.2.2.2.2.2.2.1, uC.2.2.2.2.2.2.2.2.2.1, uC.2.2.2.2.2.2.2.2.2.2.1, (upd uC.2.2.2.2.2.2.2.2.2.2.2.1 l63_4.toNatClampNeg (if ((uC.2.2.2.2.2.2.2.2.2.2.2.1 l63_4.toNatClampNeg) + s63_0) < (99 : Int32) then ((uC.2.2.2.2.2.2.2.2.2.2.2.1 l63_4.toNatClampNeg) + s63_0) else (99 : Int32))), uC.2.2.2.2.2.2.2.2.2.2.2.2)) ++ (wX1 cI cZ h0 h3 h4 h5 h6 uH)) H := hP
        have hD : va_D A ((wX0 cI cZ c0 c8 c9 c10 c11 c12 c13 h0 (uC.1, uC.2.1, uC.2.2.1, uC.2.2.2.1, uC.2.2.2.2.1, uC.2.2.2.2.2.1, uC.2.2.2.2.2.2.1, uC.2.2.2.2.2.2.2.1, uC.2.2.2.2.2.2.2.2.1, uC.2.2.2.2.2.2.2.2.2.1, uC.2.2.2.2.2.2.2.2.2.2.1, (upd uC.2.2.2.2.2.2.2.2.2.2.2.1 l63_4.toNatClampNeg (if ((uC.2.2.2.2.2.2.2.2.2.2.2.1 l63_4.toNatClampNeg) + s63_0) < (99 : Int32) then ((uC.2.2.2.2.2.2.2.2.2.2.2.1 l63_4.toNatClampNeg) + s63_0) else (99 : Int32))), uC.2.2.2.2.2.2.2.2.2.2.2.2)) ++ (wX1 cI cZ h0 h3 h4 h5 h6 uH)) := D_CH hD
        refine lv_iinc (v := (l63_4 + 1)) (lv' := [(4, .int (l63_4 + 1)), (5, .int s63_0), (0, .ref c0), (1, .int l63_1), (3, .int l63_3)]) hx hb dX0_print_87 hl (k := 4) rfl rfl (by decide) rfl (fun ls hl => ?_)
        refine lv_goto (tgt := 20) hx hb dX0_print_90 (by decide) ?_
        exact ih20 (uC.1, uC.2.1, uC.2.2.1, uC.2.2.2.1, uC.2.2.2.2.1, uC.2.2.2.2.2.1, uC.2.2.2.2.2.2.1, uC.2.2.2.2.2.2.2.1, uC.2.2.2.2.2.2.2.2.1, uC.2.2.2.2.2.2.2.2.2.1, uC.2.2.2.2.2.2.2.2.2.2.1, (upd uC.2.2.2.2.2.2.2.2.2.2.2.1 l63_4.toNatClampNeg (if ((uC.2.2.2.2.2.2.2.2.2.2.2.1 l63_4.toNatClampNeg) + s63_0) < (99 : Int32) then ((uC.2.2.2.2.2.2.2.2.2.2.2.1 l63_4.toNatClampNeg) + s63_0) else (99 : Int32))), uC.2.2.2.2.2.2.2.2.2.2.2.2) l63_1 l63_3 (l63_4 + 1) _ _ hP hD hS _ (lv_sub hl [2, 3, 4, 0] rfl) hok
      intro uC l20_1 l20_3 l20_4 H locs hP hD hS ls hl hok
      rw [p_X0_print_L20] at hok
      refine lv_iload hx hb dX0_print_20 (lv_at hl 3 rfl) ?_
      refine lv_aload_n hx hb dX0_print_22 rfl (lv_at hl 0 rfl) ?_
      refine va_get (D := (dC, dI)) (ci := 0) (v := .ref h0) (C := RX0) (T := TX0) (N := 14) hx hb hts inX0 hown hK hP 0 rfl rfl 0 (by decide) (hts _ qf_X0_53) (fun _ h9 => h9) rfl dX0_print_23 ?_
      refine va_get (D := (dC, dI)) (ci := 1) (v := .int uH.2.2.1) (C := RX1) (T := TX1) (N := 7) hx hb hts inX1 hown hK hP 7 rfl rfl 2 (by decide) (hts _ qf_X0_108) (fun _ h9 => h9) rfl dX0_print_26 ?_
      refine lv_icmp_ge (tgt := 93) hx hb dX0_print_29 (by decide) (fun hc => ?_) (fun hc => ?_)
      · have hok := ip hok hc
        refine lv_iload_n hx hb dX0_print_93 rfl (lv_at hl 2 rfl) ?_
        have hok := Option.some.inj hok
        subst hok
        exact eWi S hr hlk rfl hP hS (Nat.le_of_ble_eq_true rfl) (Nat.le_of_ble_eq_true rfl) dX0_print_94
      · have hok := iq hok hc
        refine lv_aload_n hx hb dX0_print_32 rfl (lv_at hl 0 rfl) ?_
        refine va_get (D := (dC, dI)) (ci := 0) (v := .ref c13) (C := RX0) (T := TX0) (N := 14) hx hb hts inX0 hown hK hP 0 rfl rfl 13 (by decide) (hts _ qf_X0_50) (fun _ h9 => h9) rfl dX0_print_33 ?_
        refine lv_iload hx hb dX0_print_36 (lv_at hl 3 rfl) ?_
        obtain ⟨hi1, hok⟩ := gd_some hok
        refine va_zald hx hb hK hP 6 1 rfl rfl hi1 dX0_print_38 ?_
        refine lv_if_eq (tgt := 87) hx hb dX0_print_39 (by decide) (fun hc => ?_) (fun hc => ?_)
        · have hok := ip hok hc
          refine lv_iinc (v := (l20_4 + 1)) (lv' := [(4, .int (l20_4 + 1)), (0, .ref c0), (1, .int l20_1), (3, .int l20_3)]) hx hb dX0_print_87 hl (k := 3) rfl rfl (by decide) rfl (fun ls hl => ?_)
          refine lv_goto (tgt := 20) hx hb dX0_print_90 (by decide) ?_
          exact ih20 uC l20_1 l20_3 (l20_4 + 1) _ _ hP hD hS _ (lv_sub hl [1, 2, 3, 0] rfl) hok
        · have hok := iq hok hc
          refine lv_aload_n hx hb dX0_print_42 rfl (lv_at hl 0 rfl) ?_
          refine va_get (D := (dC, dI)) (ci := 0) (v := .ref h0) (C := RX0) (T := TX0) (N := 14) hx hb hts inX0 hown hK hP 0 rfl rfl 0 (by decide) (hts _ qf_X0_53) (fun _ h9 => h9) rfl dX0_print_43 ?_
          refine va_get (D := (dC, dI)) (ci := 1) (v := .ref h6) (C := RX1) (T := TX1) (N := 7) hx hb hts inX1 hown hK hP 7 rfl rfl 6 (by decide) (hts _ qf_X0_111) (fun _ h9 => h9) rfl dX0_print_46 ?_
          refine lv_iload hx hb dX0_print_49 (lv_at hl 3 rfl) ?_
          refine va_iald hx hb hK hP 11 0 rfl rfl hi1 dX0_print_51 ?_
          refine lv_iload_n hx hb dX0_print_52 rfl (lv_at hl 1 rfl) ?_
          refine lv_icmp_ne (tgt := 60) hx hb dX0_print_53 (by decide) (fun hc => ?_) (fun hc => ?_)
          · have hok := iq hok hc
            refine lv_iload_n hx hb dX0_print_60 rfl (lv_at hl 2 rfl) ?_
            refine lv_iconst (v := (3 : Int32)) hx hb dX0_print_61 (by decide) ?_
            refine lv_idiv hx hb dX0_print_62 (by decide) ?_
            exact J63 uC l20_1 l20_3 l20_4 (l20_3 / (3 : Int32)) _ _ hP hD hS _ hl hok
          · have hok := ip hok hc
            refine lv_iload_n hx hb dX0_print_56 rfl (lv_at hl 2 rfl) ?_
            refine lv_goto (tgt := 63) hx hb dX0_print_57 (by decide) ?_
            exact J63 uC l20_1 l20_3 l20_4 l20_3 _ _ hP hD hS _ hl hok
  unfold p_X0_print at hok
  refine lv_iload_n hx hb dX0_print_0 rfl (lv_at hl 2 rfl) ?_
  refine lv_aload_n hx hb dX0_print_1 rfl (lv_at hl 0 rfl) ?_
  refine va_get (D := (dC, dI)) (ci := 0) (v := .int uC.2.2.2.2.2.1) (C := RX0) (T := TX0) (N := 14) hx hb hts inX0 hown hK hP 0 rfl rfl 6 (by decide) (hts _ qf_X0_27) (fun _ h9 => h9) rfl dX0_print_2 ?_
  refine lv_iadd hx hb dX0_print_5 ?_
  refine lv_istore_n (lv' := [(3, .int (a2 + uC.2.2.2.2.2.1)), (0, .ref c0), (1, .int a1), (2, .int a2)]) hx hb dX0_print_6 rfl hl (by decide) rfl (fun ls hl => ?_)
  refine lv_aload_n hx hb dX0_print_7 rfl (lv_at hl 1 rfl) ?_
  refine lv_iconst (v := (0 : Int32)) hx hb dX0_print_8 (by decide) ?_
  refine va_put (D := (dC, dI)) (ci := 0) (v := .int (0 : Int32)) (ty := .int) (C := RX0) (T := TX0) (N := 14) hx hb hts inX0 tyX0 tyX0_ok nmX0 hown hK hP hD hS 0 rfl rfl 6 (by decide) (hts _ qf_X0_27) (fun _ h9 => h9) rfl (tyX0_ok 6 (by decide)) rfl rfl (Nat.le_of_ble_eq_true rfl) dX0_print_9 (fun H locs hP _ hS => ?_)
  have hP : va_P (dC, dI) vwCl ((wX0 cI cZ c0 c8 c9 c10 c11 c12 c13 h0 (uC.1, uC.2.1, uC.2.2.1, uC.2.2.2.1, uC.2.2.2.2.1, (0 : Int32), uC.2.2.2.2.2.2)) ++ (wX1 cI cZ h0 h3 h4 h5 h6 uH)) H := hP
  have hD : va_D A ((wX0 cI cZ c0 c8 c9 c10 c11 c12 c13 h0 (uC.1, uC.2.1, uC.2.2.1, uC.2.2.2.1, uC.2.2.2.2.1, (0 : Int32), uC.2.2.2.2.2.2)) ++ (wX1 cI cZ h0 h3 h4 h5 h6 uH)) := D_CH hD
  refine lv_aload_n hx hb dX0_print_12 rfl (lv_at hl 1 rfl) ?_
  refine lv_iload_n hx hb dX0_print_13 rfl (lv_at hl 3 rfl) ?_
  refine va_put (D := (dC, dI)) (ci := 0) (v := .int a2) (ty := .int) (C := RX0) (T := TX0) (N := 14) hx hb hts inX0 tyX0 tyX0_ok nmX0 hown hK hP hD hS 0 rfl rfl 7 (by decide) (hts _ qf_X0_30) (fun _ h9 => h9) rfl (tyX0_ok 7 (by decide)) rfl rfl (Nat.le_of_ble_eq_true rfl) dX0_print_14 (fun H locs hP _ hS => ?_)
  have hP : va_P (dC, dI) vwCl ((wX0 cI cZ c0 c8 c9 c10 c11 c12 c13 h0 (uC.1, uC.2.1, uC.2.2.1, uC.2.2.2.1, uC.2.2.2.2.1, (0 : Int32), a2, uC.2.2.2.2.2.2.2)) ++ (wX1 cI cZ h0 h3 h4 h5 h6 uH)) H := hP
  have hD : va_D A ((wX0 cI cZ c0 c8 c9 c10 c11 c12 c13 h0 (uC.1, uC.2.1, uC.2.2.1, uC.2.2.2.1, uC.2.2.2.2.1, (0 : Int32), a2, uC.2.2.2.2.2.2.2)) ++ (wX1 cI cZ h0 h3 h4 h5 h6 uH)) := D_CH hD
  refine lv_iconst (v := (0 : Int32)) hx hb dX0_print_17 (by decide) ?_
  refine lv_istore (lv' := [(4, .int (0 : Int32)), (3, .int (a2 + uC.2.2.2.2.2.1)), (0, .ref c0), (1, .int a1), (2, .int a2)]) hx hb dX0_print_18 hl (by decide) rfl (fun ls hl => ?_)
  exact L20 200 (uC.1, uC.2.1, uC.2.2.1, uC.2.2.2.1, uC.2.2.2.2.1, (0 : Int32), a2, uC.2.2.2.2.2.2.2) a1 (a2 + uC.2.2.2.2.2.1) (0 : Int32) _ _ hP hD hS _ (lv_sub hl [2, 3, 1, 0] rfl) hok
theorem hd_X0_stopIfCalled : yX0_stopIfCalled.cls = RX0 ∧ yX0_stopIfCalled.cls ≠ "java/lang/invoke/MethodHandle" ∧ yX0_stopIfCalled.cls ≠ "java/lang/invoke/VarHandle" ∧ (parseMethodDescriptor yX0_stopIfCalled.desc).map (fun d => d.parameters.length) = some 0 := by decide +kernel
def p_X0_stopIfCalled (uC : tX0) (uH : tX1) : Option (Int32 × tX0) :=
  bd (p_X0_hasCall uC uH uC.2.1) (fun v1 =>
  if v1 = 0 then
    some ((-1 : Int32), uC)
  else
    gd uC.2.1 12 (
    if (uC.2.2.2.2.2.2.2.2.1 uC.2.1.toNatClampNeg) < (uH.2.2.2.1 uC.2.1.toNatClampNeg) then
      bd (p_X1_topicAt uH uC.2.1 (uC.2.2.2.2.2.2.2.2.1 uC.2.1.toNatClampNeg)) (fun v3 =>
      gd v3 8 (
      if (uC.2.2.2.2.2.2.2.2.2.2.1 v3.toNatClampNeg) = 0 then
        bd (p_X1_thrillAt uH uC.2.1 (uC.2.2.2.2.2.2.2.2.1 uC.2.1.toNatClampNeg)) (fun v5 =>
        bd (p_X0_print (uC.1, uC.2.1, uC.2.2.1, uC.2.2.2.1, uC.2.2.2.2.1, uC.2.2.2.2.2.1, uC.2.2.2.2.2.2.1, (upd uC.2.2.2.2.2.2.2.1 uC.2.1.toNatClampNeg (vp_nar .boolean (0 : Int32))), (upd uC.2.2.2.2.2.2.2.2.1 uC.2.1.toNatClampNeg ((uC.2.2.2.2.2.2.2.2.1 uC.2.1.toNatClampNeg) + (1 : Int32))), uC.2.2.2.2.2.2.2.2.2) uH v3 v5) (fun v6 =>
        some (v6.1, v6.2)))
      else
        some ((-1 : Int32), (uC.1, uC.2.1, uC.2.2.1, uC.2.2.2.1, uC.2.2.2.2.1, uC.2.2.2.2.2.1, uC.2.2.2.2.2.2.1, (upd uC.2.2.2.2.2.2.2.1 uC.2.1.toNatClampNeg (vp_nar .boolean (0 : Int32))), (upd uC.2.2.2.2.2.2.2.2.1 uC.2.1.toNatClampNeg ((uC.2.2.2.2.2.2.2.2.1 uC.2.1.toNatClampNeg) + (1 : Int32))), (upd uC.2.2.2.2.2.2.2.2.2.1 uC.2.1.toNatClampNeg ((uC.2.2.2.2.2.2.2.2.2.1 uC.2.1.toNatClampNeg) + (1 : Int32))), uC.2.2.2.2.2.2.2.2.2.2))))
    else
      some ((-1 : Int32), (uC.1, uC.2.1, uC.2.2.1, uC.2.2.2.1, uC.2.2.2.2.1, uC.2.2.2.2.2.1, uC.2.2.2.2.2.2.1, (upd uC.2.2.2.2.2.2.2.1 uC.2.1.toNatClampNeg (vp_nar .boolean (0 : Int32))), uC.2.2.2.2.2.2.2.2))))
set_option maxHeartbeats 4000000 in
set_option maxRecDepth 100000 in
theorem c_X0_stopIfCalled (l : Launch) (dC : Nat → ClassId) (dI : Nat → Nat → Nat) (cI cZ : ClassId) (c0 c8 c9 c10 c11 c12 c13 h0 h3 h4 h5 h6 : Nat) (sz : Nat) (uC : tX0) (uH : tX1) {z : (Int32 × tX0)} (hok : p_X0_stopIfCalled uC uH = some z) : Met l yX0_stopIfCalled (Cond.code yX0_stopIfCalled cX0_stopIfCalled 3 (some .int) :: lw_all) { frames := 2, cells := 0, slots := 0, locals := 46 } (prW (dC, dI) vwCl (TYS cI cZ) ((wX0 cI cZ c0 c8 c9 c10 c11 c12 c13 h0 uC) ++ (wX1 cI cZ h0 h3 h4 h5 h6 uH)) sz [.ref c0]) (va_Qi (fun (r : Int32) (_ : Unit) => r = z.1) (fun _ t => va_P (dC, dI) vwCl ((wX0 cI cZ c0 c8 c9 c10 c11 c12 c13 h0 z.2) ++ (wX1 cI cZ h0 h3 h4 h5 h6 uH)) t.heap) (va_A ((wX0 cI cZ c0 c8 c9 c10 c11 c12 c13 h0 uC) ++ (wX1 cI cZ h0 h3 h4 h5 h6 uH)) sz)) 0 0 (va_A ((wX0 cI cZ c0 c8 c9 c10 c11 c12 c13 h0 uC) ++ (wX1 cI cZ h0 h3 h4 h5 h6 uH)) sz) := by
  refine oM (by decide) (Nat.le_of_ble_eq_true rfl) ?_
  intro p e s m args below meth c S hr hlk hnm hB ls hl
  have hx := S.1
  have hb := S.2.1
  have hml := S.2.2.1
  have hown : s.vm.findClass RX0 = some m.cls := S.2.2.2.1
  have hts := S.2.2.2.2
  have S : CallFix p m c cX0_stopIfCalled 3 s args lw_all RX0 := S
  have hl : lv_has ls 3 [(0, .ref c0)] := hl
  obtain ⟨hsz, hP, hK, hD0⟩ := hB
  subst hsz
  have hD := hD0.self (sz := s.heap.size)
  generalize hAe : va_A ((wX0 cI cZ c0 c8 c9 c10 c11 c12 c13 h0 uC) ++ (wX1 cI cZ h0 h3 h4 h5 h6 uH)) s.heap.size = A at hD ⊢
  have hA : ∀ q : Nat, s.heap.size ≤ q → A q := fun q h => by rw [← hAe]; exact Or.inr h
  have hS : va_S A s.heap s.heap [] := va_S.rf
  have hP : va_P (dC, dI) vwCl ((wX0 cI cZ c0 c8 c9 c10 c11 c12 c13 h0 uC) ++ (wX1 cI cZ h0 h3 h4 h5 h6 uH)) s.heap := hP
  unfold p_X0_stopIfCalled at hok
  refine lv_aload_n hx hb dX0_stopIfCalled_0 rfl (lv_at hl 0 rfl) ?_
  refine lv_aload_n hx hb dX0_stopIfCalled_1 rfl (lv_at hl 0 rfl) ?_
  refine va_get (D := (dC, dI)) (ci := 0) (v := .int uC.2.1) (C := RX0) (T := TX0) (N := 14) hx hb hts inX0 hown hK hP 0 rfl rfl 2 (by decide) (hts _ qf_X0_15) (fun _ h9 => h9) rfl dX0_stopIfCalled_2 ?_
  obtain ⟨v1, hc1, hok⟩ := bd_some hok
  refine cRVi (ci := 0) (q0 := 0) [.int uC.2.1] S hK hP (c_X0_hasCall l dC dI cI cZ c0 c8 c9 c10 c11 c12 c13 h0 h3 h4 h5 h6 uC uH uC.2.1 hc1) (lw_V qm_X0_79 qi_X0_hasCall qs_X0_hasCall qn_X0 qc_X0_hasCall) hd_X0_hasCall ⟨rfl, rfl⟩ ⟨Nat.le_of_ble_eq_true rfl, Nat.le_of_ble_eq_true rfl⟩ ⟨Nat.le_of_ble_eq_true rfl, Nat.le_of_ble_eq_true rfl⟩ rfl rfl rfl hl.1 (Nat.le_of_ble_eq_true rfl) rfl dX0_stopIfCalled_5 ?_
  refine lv_if_ne (tgt := 13) hx hb dX0_stopIfCalled_8 (by decide) (fun hc => ?_) (fun hc => ?_)
  · have hok := iq hok hc
    refine lv_aload_n hx hb dX0_stopIfCalled_13 rfl (lv_at hl 0 rfl) ?_
    refine va_get (D := (dC, dI)) (ci := 0) (v := .ref c8) (C := RX0) (T := TX0) (N := 14) hx hb hts inX0 hown hK hP 0 rfl rfl 8 (by decide) (hts _ qf_X0_33) (fun _ h9 => h9) rfl dX0_stopIfCalled_14 ?_
    refine lv_aload_n hx hb dX0_stopIfCalled_17 rfl (lv_at hl 0 rfl) ?_
    refine va_get (D := (dC, dI)) (ci := 0) (v := .int uC.2.1) (C := RX0) (T := TX0) (N := 14) hx hb hts inX0 hown hK hP 0 rfl rfl 2 (by decide) (hts _ qf_X0_15) (fun _ h9 => h9) rfl dX0_stopIfCalled_18 ?_
    refine lv_iconst (v := (0 : Int32)) hx hb dX0_stopIfCalled_21 (by decide) ?_
    obtain ⟨hi2, hok⟩ := gd_some hok
    refine va_zast hx hb hK hP hD hS 1 1 rfl rfl hi2 dX0_stopIfCalled_22 (fun H locs hP _ hS => ?_)
    have hP : va_P (dC, dI) vwCl ((wX0 cI cZ c0 c8 c9 c10 c11 c12 c13 h0 (uC.1, uC.2.1, uC.2.2.1, uC.2.2.2.1, uC.2.2.2.2.1, uC.2.2.2.2.2.1, uC.2.2.2.2.2.2.1, (upd uC.2.2.2.2.2.2.2.1 uC.2.1.toNatClampNeg (vp_nar .boolean (0 : Int32))), uC.2.2.2.2.2.2.2.2)) ++ (wX1 cI cZ h0 h3 h4 h5 h6 uH)) H := hP
    have hD : va_D A ((wX0 cI cZ c0 c8 c9 c10 c11 c12 c13 h0 (uC.1, uC.2.1, uC.2.2.1, uC.2.2.2.1, uC.2.2.2.2.1, uC.2.2.2.2.2.1, uC.2.2.2.2.2.2.1, (upd uC.2.2.2.2.2.2.2.1 uC.2.1.toNatClampNeg (vp_nar .boolean (0 : Int32))), uC.2.2.2.2.2.2.2.2)) ++ (wX1 cI cZ h0 h3 h4 h5 h6 uH)) := D_CH hD
    refine lv_aload_n hx hb dX0_stopIfCalled_23 rfl (lv_at hl 0 rfl) ?_
    refine va_get (D := (dC, dI)) (ci := 0) (v := .ref c9) (C := RX0) (T := TX0) (N := 14) hx hb hts inX0 hown hK hP 0 rfl rfl 9 (by decide) (hts _ qf_X0_37) (fun _ h9 => h9) rfl dX0_stopIfCalled_24 ?_
    refine lv_aload_n hx hb dX0_stopIfCalled_27 rfl (lv_at hl 0 rfl) ?_
    refine va_get (D := (dC, dI)) (ci := 0) (v := .int uC.2.1) (C := RX0) (T := TX0) (N := 14) hx hb hts inX0 hown hK hP 0 rfl rfl 2 (by decide) (hts _ qf_X0_15) (fun _ h9 => h9) rfl dX0_stopIfCalled_28 ?_
    refine va_iald hx hb hK hP 2 0 rfl rfl hi2 dX0_stopIfCalled_31 ?_
    refine lv_istore_n (lv' := [(1, .int (uC.2.2.2.2.2.2.2.2.1 uC.2.1.toNatClampNeg)), (0, .ref c0)]) hx hb dX0_stopIfCalled_32 rfl hl (by decide) rfl (fun ls hl => ?_)
    refine lv_iload_n hx hb dX0_stopIfCalled_33 rfl (lv_at hl 0 rfl) ?_
    refine lv_aload_n hx hb dX0_stopIfCalled_34 rfl (lv_at hl 1 rfl) ?_
    refine va_get (D := (dC, dI)) (ci := 0) (v := .ref h0) (C := RX0) (T := TX0) (N := 14) hx hb hts inX0 hown hK hP 0 rfl rfl 0 (by decide) (hts _ qf_X0_53) (fun _ h9 => h9) rfl dX0_stopIfCalled_35 ?_
    refine va_get (D := (dC, dI)) (ci := 1) (v := .ref h3) (C := RX1) (T := TX1) (N := 7) hx hb hts inX1 hown hK hP 7 rfl rfl 3 (by decide) (hts _ qf_X0_93) (fun _ h9 => h9) rfl dX0_stopIfCalled_38 ?_
    refine lv_aload_n hx hb dX0_stopIfCalled_41 rfl (lv_at hl 1 rfl) ?_
    refine va_get (D := (dC, dI)) (ci := 0) (v := .int uC.2.1) (C := RX0) (T := TX0) (N := 14) hx hb hts inX0 hown hK hP 0 rfl rfl 2 (by decide) (hts _ qf_X0_15) (fun _ h9 => h9) rfl dX0_stopIfCalled_42 ?_
    refine va_iald hx hb hK hP 8 0 rfl rfl hi2 dX0_stopIfCalled_45 ?_
    refine lv_icmp_lt (tgt := 51) hx hb dX0_stopIfCalled_46 (by decide) (fun hc => ?_) (fun hc => ?_)
    · have hok := ip hok hc
      refine lv_aload_n hx hb dX0_stopIfCalled_51 rfl (lv_at hl 1 rfl) ?_
      refine va_get (D := (dC, dI)) (ci := 0) (v := .ref c9) (C := RX0) (T := TX0) (N := 14) hx hb hts inX0 hown hK hP 0 rfl rfl 9 (by decide) (hts _ qf_X0_37) (fun _ h9 => h9) rfl dX0_stopIfCalled_52 ?_
      refine lv_aload_n hx hb dX0_stopIfCalled_55 rfl (lv_at hl 1 rfl) ?_
      refine va_get (D := (dC, dI)) (ci := 0) (v := .int uC.2.1) (C := RX0) (T := TX0) (N := 14) hx hb hts inX0 hown hK hP 0 rfl rfl 2 (by decide) (hts _ qf_X0_15) (fun _ h9 => h9) rfl dX0_stopIfCalled_56 ?_
      refine lv_iload_n hx hb dX0_stopIfCalled_59 rfl (lv_at hl 0 rfl) ?_
      refine lv_iconst (v := (1 : Int32)) hx hb dX0_stopIfCalled_60 (by decide) ?_
      refine lv_iadd hx hb dX0_stopIfCalled_61 ?_
      refine va_iast hx hb hK hP hD hS 2 0 rfl rfl hi2 dX0_stopIfCalled_62 (fun H locs hP _ hS => ?_)
      have hP : va_P (dC, dI) vwCl ((wX0 cI cZ c0 c8 c9 c10 c11 c12 c13 h0 (uC.1, uC.2.1, uC.2.2.1, uC.2.2.2.1, uC.2.2.2.2.1, uC.2.2.2.2.2.1, uC.2.2.2.2.2.2.1, (upd uC.2.2.2.2.2.2.2.1 uC.2.1.toNatClampNeg (vp_nar .boolean (0 : Int32))), (upd uC.2.2.2.2.2.2.2.2.1 uC.2.1.toNatClampNeg ((uC.2.2.2.2.2.2.2.2.1 uC.2.1.toNatClampNeg) + (1 : Int32))), uC.2.2.2.2.2.2.2.2.2)) ++ (wX1 cI cZ h0 h3 h4 h5 h6 uH)) H := hP
      have hD : va_D A ((wX0 cI cZ c0 c8 c9 c10 c11 c12 c13 h0 (uC.1, uC.2.1, uC.2.2.1, uC.2.2.2.1, uC.2.2.2.2.1, uC.2.2.2.2.2.1, uC.2.2.2.2.2.2.1, (upd uC.2.2.2.2.2.2.2.1 uC.2.1.toNatClampNeg (vp_nar .boolean (0 : Int32))), (upd uC.2.2.2.2.2.2.2.2.1 uC.2.1.toNatClampNeg ((uC.2.2.2.2.2.2.2.2.1 uC.2.1.toNatClampNeg) + (1 : Int32))), uC.2.2.2.2.2.2.2.2.2)) ++ (wX1 cI cZ h0 h3 h4 h5 h6 uH)) := D_CH hD
      refine lv_aload_n hx hb dX0_stopIfCalled_63 rfl (lv_at hl 1 rfl) ?_
      refine va_get (D := (dC, dI)) (ci := 0) (v := .ref h0) (C := RX0) (T := TX0) (N := 14) hx hb hts inX0 hown hK hP 0 rfl rfl 0 (by decide) (hts _ qf_X0_53) (fun _ h9 => h9) rfl dX0_stopIfCalled_64 ?_
      refine lv_aload_n hx hb dX0_stopIfCalled_67 rfl (lv_at hl 1 rfl) ?_
      refine va_get (D := (dC, dI)) (ci := 0) (v := .int uC.2.1) (C := RX0) (T := TX0) (N := 14) hx hb hts inX0 hown hK hP 0 rfl rfl 2 (by decide) (hts _ qf_X0_15) (fun _ h9 => h9) rfl dX0_stopIfCalled_68 ?_
      refine lv_iload_n hx hb dX0_stopIfCalled_71 rfl (lv_at hl 0 rfl) ?_
      obtain ⟨v3, hc3, hok⟩ := bd_some hok
      refine cRVi (ci := 1) (q0 := 0) [.int uC.2.1, .int (uC.2.2.2.2.2.2.2.2.1 uC.2.1.toNatClampNeg)] S hK (va_Pcut (isC := [7, 8, 9, 10, 11]) hP rfl) (c_X1_topicAt l dC dI cI cZ h0 h3 h4 h5 h6 uH uC.2.1 (uC.2.2.2.2.2.2.2.2.1 uC.2.1.toNatClampNeg) hc3) (lw_V qm_X0_98 qi_X1_topicAt qs_X1_topicAt qn_X1 qc_X1_topicAt) hd_X1_topicAt ⟨rfl, rfl⟩ ⟨Nat.le_of_ble_eq_true rfl, Nat.le_of_ble_eq_true rfl⟩ ⟨Nat.le_of_ble_eq_true rfl, Nat.le_of_ble_eq_true rfl⟩ rfl rfl rfl hl.1 (Nat.le_of_ble_eq_true rfl) rfl dX0_stopIfCalled_72 ?_
      refine lv_istore_n (lv' := [(2, .int v3), (1, .int (uC.2.2.2.2.2.2.2.2.1 uC.2.1.toNatClampNeg)), (0, .ref c0)]) hx hb dX0_stopIfCalled_75 rfl hl (by decide) rfl (fun ls hl => ?_)
      refine lv_aload_n hx hb dX0_stopIfCalled_76 rfl (lv_at hl 2 rfl) ?_
      refine va_get (D := (dC, dI)) (ci := 0) (v := .ref c11) (C := RX0) (T := TX0) (N := 14) hx hb hts inX0 hown hK hP 0 rfl rfl 11 (by decide) (hts _ qf_X0_44) (fun _ h9 => h9) rfl dX0_stopIfCalled_77 ?_
      refine lv_iload_n hx hb dX0_stopIfCalled_80 rfl (lv_at hl 0 rfl) ?_
      obtain ⟨hi4, hok⟩ := gd_some hok
      refine va_zald hx hb hK hP 4 1 rfl rfl hi4 dX0_stopIfCalled_81 ?_
      refine lv_if_eq (tgt := 100) hx hb dX0_stopIfCalled_82 (by decide) (fun hc => ?_) (fun hc => ?_)
      · have hok := ip hok hc
        refine lv_aload_n hx hb dX0_stopIfCalled_100 rfl (lv_at hl 2 rfl) ?_
        refine lv_iload_n hx hb dX0_stopIfCalled_101 rfl (lv_at hl 0 rfl) ?_
        refine lv_aload_n hx hb dX0_stopIfCalled_102 rfl (lv_at hl 2 rfl) ?_
        refine va_get (D := (dC, dI)) (ci := 0) (v := .ref h0) (C := RX0) (T := TX0) (N := 14) hx hb hts inX0 hown hK hP 0 rfl rfl 0 (by decide) (hts _ qf_X0_53) (fun _ h9 => h9) rfl dX0_stopIfCalled_103 ?_
        refine lv_aload_n hx hb dX0_stopIfCalled_106 rfl (lv_at hl 2 rfl) ?_
        refine va_get (D := (dC, dI)) (ci := 0) (v := .int uC.2.1) (C := RX0) (T := TX0) (N := 14) hx hb hts inX0 hown hK hP 0 rfl rfl 2 (by decide) (hts _ qf_X0_15) (fun _ h9 => h9) rfl dX0_stopIfCalled_107 ?_
        refine lv_iload_n hx hb dX0_stopIfCalled_110 rfl (lv_at hl 1 rfl) ?_
        obtain ⟨v5, hc5, hok⟩ := bd_some hok
        refine cRVi (ci := 1) (q0 := 0) [.int uC.2.1, .int (uC.2.2.2.2.2.2.2.2.1 uC.2.1.toNatClampNeg)] S hK (va_Pcut (isC := [7, 8, 9, 10, 11]) hP rfl) (c_X1_thrillAt l dC dI cI cZ h0 h3 h4 h5 h6 uH uC.2.1 (uC.2.2.2.2.2.2.2.2.1 uC.2.1.toNatClampNeg) hc5) (lw_V qm_X0_102 qi_X1_thrillAt qs_X1_thrillAt qn_X1 qc_X1_thrillAt) hd_X1_thrillAt ⟨rfl, rfl⟩ ⟨Nat.le_of_ble_eq_true rfl, Nat.le_of_ble_eq_true rfl⟩ ⟨Nat.le_of_ble_eq_true rfl, Nat.le_of_ble_eq_true rfl⟩ rfl rfl rfl hl.1 (Nat.le_of_ble_eq_true rfl) rfl dX0_stopIfCalled_111 ?_
        obtain ⟨v6, hc6, hok⟩ := bd_some hok
        refine cWVi (ci := 0) (q0 := 0) [.int v3, .int v5] S hK hP hD hS hA (c_X0_print l dC dI cI cZ c0 c8 c9 c10 c11 c12 c13 h0 h3 h4 h5 h6 _ (uC.1, uC.2.1, uC.2.2.1, uC.2.2.2.1, uC.2.2.2.2.1, uC.2.2.2.2.2.1, uC.2.2.2.2.2.2.1, (upd uC.2.2.2.2.2.2.2.1 uC.2.1.toNatClampNeg (vp_nar .boolean (0 : Int32))), (upd uC.2.2.2.2.2.2.2.2.1 uC.2.1.toNatClampNeg ((uC.2.2.2.2.2.2.2.2.1 uC.2.1.toNatClampNeg) + (1 : Int32))), uC.2.2.2.2.2.2.2.2.2) uH v3 v5 hc6) (lw_V qm_X0_105 qi_X0_print qs_X0_print qn_X0 qc_X0_print) hd_X0_print ⟨rfl, rfl⟩ ⟨Nat.le_of_ble_eq_true rfl, Nat.le_of_ble_eq_true rfl⟩ ⟨Nat.le_of_ble_eq_true rfl, Nat.le_of_ble_eq_true rfl⟩ rfl rfl rfl hl.1 (Nat.le_of_ble_eq_true rfl) rfl dX0_stopIfCalled_114 (D_CH hD) (fun H locs hP hD hS => ?_)
        have hok := Option.some.inj hok
        subst hok
        exact eWi S hr hlk rfl hP hS (Nat.le_of_ble_eq_true rfl) (Nat.le_of_ble_eq_true rfl) dX0_stopIfCalled_117
      · have hok := iq hok hc
        refine lv_aload_n hx hb dX0_stopIfCalled_85 rfl (lv_at hl 2 rfl) ?_
        refine va_get (D := (dC, dI)) (ci := 0) (v := .ref c10) (C := RX0) (T := TX0) (N := 14) hx hb hts inX0 hown hK hP 0 rfl rfl 10 (by decide) (hts _ qf_X0_41) (fun _ h9 => h9) rfl dX0_stopIfCalled_86 ?_
        refine lv_aload_n hx hb dX0_stopIfCalled_89 rfl (lv_at hl 2 rfl) ?_
        refine va_get (D := (dC, dI)) (ci := 0) (v := .int uC.2.1) (C := RX0) (T := TX0) (N := 14) hx hb hts inX0 hown hK hP 0 rfl rfl 2 (by decide) (hts _ qf_X0_15) (fun _ h9 => h9) rfl dX0_stopIfCalled_90 ?_
        refine lv_dup2_11 hx hb dX0_stopIfCalled_93 rfl rfl ?_
        refine va_iald hx hb hK hP 3 0 rfl rfl hi2 dX0_stopIfCalled_94 ?_
        refine lv_iconst (v := (1 : Int32)) hx hb dX0_stopIfCalled_95 (by decide) ?_
        refine lv_iadd hx hb dX0_stopIfCalled_96 ?_
        refine va_iast hx hb hK hP hD hS 3 0 rfl rfl hi2 dX0_stopIfCalled_97 (fun H locs hP _ hS => ?_)
        have hP : va_P (dC, dI) vwCl ((wX0 cI cZ c0 c8 c9 c10 c11 c12 c13 h0 (uC.1, uC.2.1, uC.2.2.1, uC.2.2.2.1, uC.2.2.2.2.1, uC.2.2.2.2.2.1, uC.2.2.2.2.2.2.1, (upd uC.2.2.2.2.2.2.2.1 uC.2.1.toNatClampNeg (vp_nar .boolean (0 : Int32))), (upd uC.2.2.2.2.2.2.2.2.1 uC.2.1.toNatClampNeg ((uC.2.2.2.2.2.2.2.2.1 uC.2.1.toNatClampNeg) + (1 : Int32))), (upd uC.2.2.2.2.2.2.2.2.2.1 uC.2.1.toNatClampNeg ((uC.2.2.2.2.2.2.2.2.2.1 uC.2.1.toNatClampNeg) + (1 : Int32))), uC.2.2.2.2.2.2.2.2.2.2)) ++ (wX1 cI cZ h0 h3 h4 h5 h6 uH)) H := hP
        have hD : va_D A ((wX0 cI cZ c0 c8 c9 c10 c11 c12 c13 h0 (uC.1, uC.2.1, uC.2.2.1, uC.2.2.2.1, uC.2.2.2.2.1, uC.2.2.2.2.2.1, uC.2.2.2.2.2.2.1, (upd uC.2.2.2.2.2.2.2.1 uC.2.1.toNatClampNeg (vp_nar .boolean (0 : Int32))), (upd uC.2.2.2.2.2.2.2.2.1 uC.2.1.toNatClampNeg ((uC.2.2.2.2.2.2.2.2.1 uC.2.1.toNatClampNeg) + (1 : Int32))), (upd uC.2.2.2.2.2.2.2.2.2.1 uC.2.1.toNatClampNeg ((uC.2.2.2.2.2.2.2.2.2.1 uC.2.1.toNatClampNeg) + (1 : Int32))), uC.2.2.2.2.2.2.2.2.2.2)) ++ (wX1 cI cZ h0 h3 h4 h5 h6 uH)) := D_CH hD
        refine lv_iconst (v := (-1 : Int32)) hx hb dX0_stopIfCalled_98 (by decide) ?_
        have hok := Option.some.inj hok
        subst hok
        exact eWi S hr hlk rfl hP hS (Nat.le_of_ble_eq_true rfl) (Nat.le_of_ble_eq_true rfl) dX0_stopIfCalled_99
    · have hok := iq hok hc
      refine lv_iconst (v := (-1 : Int32)) hx hb dX0_stopIfCalled_49 (by decide) ?_
      have hok := Option.some.inj hok
      subst hok
      exact eWi S hr hlk rfl hP hS (Nat.le_of_ble_eq_true rfl) (Nat.le_of_ble_eq_true rfl) dX0_stopIfCalled_50
  · have hok := ip hok hc
    refine lv_iconst (v := (-1 : Int32)) hx hb dX0_stopIfCalled_11 (by decide) ?_
    have hok := Option.some.inj hok
    subst hok
    exact eWi S hr hlk rfl hP hS (Nat.le_of_ble_eq_true rfl) (Nat.le_of_ble_eq_true rfl) dX0_stopIfCalled_12
theorem hd_X0_coolReaders : yX0_coolReaders.cls = RX0 ∧ yX0_coolReaders.cls ≠ "java/lang/invoke/MethodHandle" ∧ yX0_coolReaders.cls ≠ "java/lang/invoke/VarHandle" ∧ (parseMethodDescriptor yX0_coolReaders.desc).map (fun d => d.parameters.length) = some 0 := by decide +kernel
def p_X0_coolReaders_L2 : Nat → tX0 → tX1 → Int32 → Option tX0
  | 0, _, _, _ => none
  | n + 1, uC, uH, l2_1 =>
    if uH.2.2.1 ≤ l2_1 then
      some uC
    else
      gd l2_1 8 (
      if (uC.2.2.2.2.2.2.2.2.2.2.2.1 l2_1.toNatClampNeg) ≤ 0 then
        (p_X0_coolReaders_L2 n) (uC.1, uC.2.1, uC.2.2.1, uC.2.2.2.1, uC.2.2.2.2.1, uC.2.2.2.2.2.1, uC.2.2.2.2.2.2.1, uC.2.2.2.2.2.2.2.1, uC.2.2.2.2.2.2.2.2.1, uC.2.2.2.2.2.2.2.2.2.1, uC.2.2.2.2.2.2.2.2.2.2.1, uC.2.2.2.2.2.2.2.2.2.2.2.1, (upd uC.2.2.2.2.2.2.2.2.2.2.2.2 l2_1.toNatClampNeg (vp_nar .boolean (0 : Int32)))) uH (l2_1 + 1)
      else
        (p_X0_coolReaders_L2 n) (uC.1, uC.2.1, uC.2.2.1, uC.2.2.2.1, uC.2.2.2.2.1, uC.2.2.2.2.2.1, uC.2.2.2.2.2.2.1, uC.2.2.2.2.2.2.2.1, uC.2.2.2.2.2.2.2.2.1, uC.2.2.2.2.2.2.2.2.2.1, uC.2.2.2.2.2.2.2.2.2.2.1, (upd uC.2.2.2.2.2.2.2.2.2.2.2.1 l2_1.toNatClampNeg ((uC.2.2.2.2.2.2.2.2.2.2.2.1 l2_1.toNatClampNeg) - (1 : Int32))), uC.2.2.2.2.2.2.2.2.2.2.2.2) uH (l2_1 + 1))
def p_X0_coolReaders (uC : tX0) (uH : tX1) : Option tX0 :=
  p_X0_coolReaders_L2 200 uC uH (0 : Int32)
set_option maxHeartbeats 4000000 in
set_option maxRecDepth 100000 in
theorem c_X0_coolReaders (l : Launch) (dC : Nat → ClassId) (dI : Nat → Nat → Nat) (cI cZ : ClassId) (c0 c8 c9 c10 c11 c12 c13 h0 h3 h4 h5 h6 : Nat) (sz : Nat) (uC : tX0) (uH : tX1) {z : tX0} (hok : p_X0_coolReaders uC uH = some z) : Met l yX0_coolReaders (Cond.code yX0_coolReaders cX0_coolReaders 2 none :: lw_all) { frames := 0, cells := 0, slots := 0, locals := 0 } (prW (dC, dI) vwCl (TYS cI cZ) ((wX0 cI cZ c0 c8 c9 c10 c11 c12 c13 h0 uC) ++ (wX1 cI cZ h0 h3 h4 h5 h6 uH)) sz [.ref c0]) (va_Qv (fun _ : Unit => True) (fun _ t => va_P (dC, dI) vwCl ((wX0 cI cZ c0 c8 c9 c10 c11 c12 c13 h0 z) ++ (wX1 cI cZ h0 h3 h4 h5 h6 uH)) t.heap) (va_A ((wX0 cI cZ c0 c8 c9 c10 c11 c12 c13 h0 uC) ++ (wX1 cI cZ h0 h3 h4 h5 h6 uH)) sz)) 0 0 (va_A ((wX0 cI cZ c0 c8 c9 c10 c11 c12 c13 h0 uC) ++ (wX1 cI cZ h0 h3 h4 h5 h6 uH)) sz) := by
  refine oM (by decide) (Nat.le_of_ble_eq_true rfl) ?_
  intro p e s m args below meth c S hr hlk hnm hB ls hl
  have hx := S.1
  have hb := S.2.1
  have hml := S.2.2.1
  have hown : s.vm.findClass RX0 = some m.cls := S.2.2.2.1
  have hts := S.2.2.2.2
  have S : CallFix p m c cX0_coolReaders 2 s args lw_all RX0 := S
  have hl : lv_has ls 2 [(0, .ref c0)] := hl
  obtain ⟨hsz, hP, hK, hD0⟩ := hB
  subst hsz
  have hD := hD0.self (sz := s.heap.size)
  generalize hAe : va_A ((wX0 cI cZ c0 c8 c9 c10 c11 c12 c13 h0 uC) ++ (wX1 cI cZ h0 h3 h4 h5 h6 uH)) s.heap.size = A at hD ⊢
  have hA : ∀ q : Nat, s.heap.size ≤ q → A q := fun q h => by rw [← hAe]; exact Or.inr h
  have hS : va_S A s.heap s.heap [] := va_S.rf
  have hP : va_P (dC, dI) vwCl ((wX0 cI cZ c0 c8 c9 c10 c11 c12 c13 h0 uC) ++ (wX1 cI cZ h0 h3 h4 h5 h6 uH)) s.heap := hP
  have L2 : ∀ n2 : Nat, ∀ (uC : tX0) (l2_1 : Int32) (H : Heap) (locs : List Loc) (hP : va_P (dC, dI) vwCl ((wX0 cI cZ c0 c8 c9 c10 c11 c12 c13 h0 uC) ++ (wX1 cI cZ h0 h3 h4 h5 h6 uH)) H) (hD : va_D A ((wX0 cI cZ c0 c8 c9 c10 c11 c12 c13 h0 uC) ++ (wX1 cI cZ h0 h3 h4 h5 h6 uH))) (hS : va_S A s.heap H locs) (ls : Array Slot) (hl : lv_has ls 2 [(0, .ref c0), (1, .int l2_1)]) (hok : p_X0_coolReaders_L2 n2 uC uH l2_1 = some z), W p l e { frames := 0, cells := 0, slots := 0, locals := 0 } s m args below meth c H locs 0 0 (MQ below (va_Qv (fun _ : Unit => True) (fun _ t => va_P (dC, dI) vwCl ((wX0 cI cZ c0 c8 c9 c10 c11 c12 c13 h0 z) ++ (wX1 cI cZ h0 h3 h4 h5 h6 uH)) t.heap) A) args s 0 0 A) (F0 m 2 ls []) := by
    intro n2
    induction n2 with
    | zero =>
      intro uC l2_1 H locs hP hD hS ls hl hok
      rw [p_X0_coolReaders_L2] at hok
      cases hok
    | succ n2 ih2 =>
      intro uC l2_1 H locs hP hD hS ls hl hok
      rw [p_X0_coolReaders_L2] at hok
      refine lv_iload_n hx hb dX0_coolReaders_2 rfl (lv_at hl 1 rfl) ?_
      refine lv_aload_n hx hb dX0_coolReaders_3 rfl (lv_at hl 0 rfl) ?_
      refine va_get (D := (dC, dI)) (ci := 0) (v := .ref h0) (C := RX0) (T := TX0) (N := 14) hx hb hts inX0 hown hK hP 0 rfl rfl 0 (by decide) (hts _ qf_X0_53) (fun _ h9 => h9) rfl dX0_coolReaders_4 ?_
      refine va_get (D := (dC, dI)) (ci := 1) (v := .int uH.2.2.1) (C := RX1) (T := TX1) (N := 7) hx hb hts inX1 hown hK hP 7 rfl rfl 2 (by decide) (hts _ qf_X0_108) (fun _ h9 => h9) rfl dX0_coolReaders_7 ?_
      refine lv_icmp_ge (tgt := 48) hx hb dX0_coolReaders_10 (by decide) (fun hc => ?_) (fun hc => ?_)
      · have hok := ip hok hc
        have hok := Option.some.inj hok
        subst hok
        exact eWv S hr hlk hP hS (Nat.le_of_ble_eq_true rfl) (Nat.le_of_ble_eq_true rfl) dX0_coolReaders_48
      · have hok := iq hok hc
        refine lv_aload_n hx hb dX0_coolReaders_13 rfl (lv_at hl 0 rfl) ?_
        refine va_get (D := (dC, dI)) (ci := 0) (v := .ref c12) (C := RX0) (T := TX0) (N := 14) hx hb hts inX0 hown hK hP 0 rfl rfl 12 (by decide) (hts _ qf_X0_47) (fun _ h9 => h9) rfl dX0_coolReaders_14 ?_
        refine lv_iload_n hx hb dX0_coolReaders_17 rfl (lv_at hl 1 rfl) ?_
        obtain ⟨hi1, hok⟩ := gd_some hok
        refine va_iald hx hb hK hP 5 0 rfl rfl hi1 dX0_coolReaders_18 ?_
        refine lv_if_le (tgt := 35) hx hb dX0_coolReaders_19 (by decide) (fun hc => ?_) (fun hc => ?_)
        · have hok := ip hok hc
          refine lv_aload_n hx hb dX0_coolReaders_35 rfl (lv_at hl 0 rfl) ?_
          refine va_get (D := (dC, dI)) (ci := 0) (v := .ref c13) (C := RX0) (T := TX0) (N := 14) hx hb hts inX0 hown hK hP 0 rfl rfl 13 (by decide) (hts _ qf_X0_50) (fun _ h9 => h9) rfl dX0_coolReaders_36 ?_
          refine lv_iload_n hx hb dX0_coolReaders_39 rfl (lv_at hl 1 rfl) ?_
          refine lv_iconst (v := (0 : Int32)) hx hb dX0_coolReaders_40 (by decide) ?_
          refine va_zast hx hb hK hP hD hS 6 1 rfl rfl hi1 dX0_coolReaders_41 (fun H locs hP _ hS => ?_)
          have hP : va_P (dC, dI) vwCl ((wX0 cI cZ c0 c8 c9 c10 c11 c12 c13 h0 (uC.1, uC.2.1, uC.2.2.1, uC.2.2.2.1, uC.2.2.2.2.1, uC.2.2.2.2.2.1, uC.2.2.2.2.2.2.1, uC.2.2.2.2.2.2.2.1, uC.2.2.2.2.2.2.2.2.1, uC.2.2.2.2.2.2.2.2.2.1, uC.2.2.2.2.2.2.2.2.2.2.1, uC.2.2.2.2.2.2.2.2.2.2.2.1, (upd uC.2.2.2.2.2.2.2.2.2.2.2.2 l2_1.toNatClampNeg (vp_nar .boolean (0 : Int32))))) ++ (wX1 cI cZ h0 h3 h4 h5 h6 uH)) H := hP
          have hD : va_D A ((wX0 cI cZ c0 c8 c9 c10 c11 c12 c13 h0 (uC.1, uC.2.1, uC.2.2.1, uC.2.2.2.1, uC.2.2.2.2.1, uC.2.2.2.2.2.1, uC.2.2.2.2.2.2.1, uC.2.2.2.2.2.2.2.1, uC.2.2.2.2.2.2.2.2.1, uC.2.2.2.2.2.2.2.2.2.1, uC.2.2.2.2.2.2.2.2.2.2.1, uC.2.2.2.2.2.2.2.2.2.2.2.1, (upd uC.2.2.2.2.2.2.2.2.2.2.2.2 l2_1.toNatClampNeg (vp_nar .boolean (0 : Int32))))) ++ (wX1 cI cZ h0 h3 h4 h5 h6 uH)) := D_CH hD
          refine lv_iinc (v := (l2_1 + 1)) (lv' := [(1, .int (l2_1 + 1)), (0, .ref c0)]) hx hb dX0_coolReaders_42 hl (k := 1) rfl rfl (by decide) rfl (fun ls hl => ?_)
          refine lv_goto (tgt := 2) hx hb dX0_coolReaders_45 (by decide) ?_
          exact ih2 (uC.1, uC.2.1, uC.2.2.1, uC.2.2.2.1, uC.2.2.2.2.1, uC.2.2.2.2.2.1, uC.2.2.2.2.2.2.1, uC.2.2.2.2.2.2.2.1, uC.2.2.2.2.2.2.2.2.1, uC.2.2.2.2.2.2.2.2.2.1, uC.2.2.2.2.2.2.2.2.2.2.1, uC.2.2.2.2.2.2.2.2.2.2.2.1, (upd uC.2.2.2.2.2.2.2.2.2.2.2.2 l2_1.toNatClampNeg (vp_nar .boolean (0 : Int32)))) (l2_1 + 1) _ _ hP hD hS _ (lv_sub hl [1, 0] rfl) hok
        · have hok := iq hok hc
          refine lv_aload_n hx hb dX0_coolReaders_22 rfl (lv_at hl 0 rfl) ?_
          refine va_get (D := (dC, dI)) (ci := 0) (v := .ref c12) (C := RX0) (T := TX0) (N := 14) hx hb hts inX0 hown hK hP 0 rfl rfl 12 (by decide) (hts _ qf_X0_47) (fun _ h9 => h9) rfl dX0_coolReaders_23 ?_
          refine lv_iload_n hx hb dX0_coolReaders_26 rfl (lv_at hl 1 rfl) ?_
          refine lv_dup2_11 hx hb dX0_coolReaders_27 rfl rfl ?_
          refine va_iald hx hb hK hP 5 0 rfl rfl hi1 dX0_coolReaders_28 ?_
          refine lv_iconst (v := (1 : Int32)) hx hb dX0_coolReaders_29 (by decide) ?_
          refine lv_isub hx hb dX0_coolReaders_30 ?_
          refine va_iast hx hb hK hP hD hS 5 0 rfl rfl hi1 dX0_coolReaders_31 (fun H locs hP _ hS => ?_)
          have hP : va_P (dC, dI) vwCl ((wX0 cI cZ c0 c8 c9 c10 c11 c12 c13 h0 (uC.1, uC.2.1, uC.2.2.1, uC.2.2.2.1, uC.2.2.2.2.1, uC.2.2.2.2.2.1, uC.2.2.2.2.2.2.1, uC.2.2.2.2.2.2.2.1, uC.2.2.2.2.2.2.2.2.1, uC.2.2.2.2.2.2.2.2.2.1, uC.2.2.2.2.2.2.2.2.2.2.1, (upd uC.2.2.2.2.2.2.2.2.2.2.2.1 l2_1.toNatClampNeg ((uC.2.2.2.2.2.2.2.2.2.2.2.1 l2_1.toNatClampNeg) - (1 : Int32))), uC.2.2.2.2.2.2.2.2.2.2.2.2)) ++ (wX1 cI cZ h0 h3 h4 h5 h6 uH)) H := hP
          have hD : va_D A ((wX0 cI cZ c0 c8 c9 c10 c11 c12 c13 h0 (uC.1, uC.2.1, uC.2.2.1, uC.2.2.2.1, uC.2.2.2.2.1, uC.2.2.2.2.2.1, uC.2.2.2.2.2.2.1, uC.2.2.2.2.2.2.2.1, uC.2.2.2.2.2.2.2.2.1, uC.2.2.2.2.2.2.2.2.2.1, uC.2.2.2.2.2.2.2.2.2.2.1, (upd uC.2.2.2.2.2.2.2.2.2.2.2.1 l2_1.toNatClampNeg ((uC.2.2.2.2.2.2.2.2.2.2.2.1 l2_1.toNatClampNeg) - (1 : Int32))), uC.2.2.2.2.2.2.2.2.2.2.2.2)) ++ (wX1 cI cZ h0 h3 h4 h5 h6 uH)) := D_CH hD
          refine lv_goto (tgt := 42) hx hb dX0_coolReaders_32 (by decide) ?_
          refine lv_iinc (v := (l2_1 + 1)) (lv' := [(1, .int (l2_1 + 1)), (0, .ref c0)]) hx hb dX0_coolReaders_42 hl (k := 1) rfl rfl (by decide) rfl (fun ls hl => ?_)
          refine lv_goto (tgt := 2) hx hb dX0_coolReaders_45 (by decide) ?_
          exact ih2 (uC.1, uC.2.1, uC.2.2.1, uC.2.2.2.1, uC.2.2.2.2.1, uC.2.2.2.2.2.1, uC.2.2.2.2.2.2.1, uC.2.2.2.2.2.2.2.1, uC.2.2.2.2.2.2.2.2.1, uC.2.2.2.2.2.2.2.2.2.1, uC.2.2.2.2.2.2.2.2.2.2.1, (upd uC.2.2.2.2.2.2.2.2.2.2.2.1 l2_1.toNatClampNeg ((uC.2.2.2.2.2.2.2.2.2.2.2.1 l2_1.toNatClampNeg) - (1 : Int32))), uC.2.2.2.2.2.2.2.2.2.2.2.2) (l2_1 + 1) _ _ hP hD hS _ (lv_sub hl [1, 0] rfl) hok
  unfold p_X0_coolReaders at hok
  refine lv_iconst (v := (0 : Int32)) hx hb dX0_coolReaders_0 (by decide) ?_
  refine lv_istore_n (lv' := [(1, .int (0 : Int32)), (0, .ref c0)]) hx hb dX0_coolReaders_1 rfl hl (by decide) rfl (fun ls hl => ?_)
  exact L2 200 uC (0 : Int32) _ _ hP hD hS _ (lv_sub hl [1, 0] rfl) hok
theorem hd_X0_getStuckIfWorn : yX0_getStuckIfWorn.cls = RX0 ∧ yX0_getStuckIfWorn.cls ≠ "java/lang/invoke/MethodHandle" ∧ yX0_getStuckIfWorn.cls ≠ "java/lang/invoke/VarHandle" ∧ (parseMethodDescriptor yX0_getStuckIfWorn.desc).map (fun d => d.parameters.length) = some 0 := by decide +kernel
def p_X0_getStuckIfWorn (uC : tX0) (uH : tX1) : Option tX0 :=
  if uC.2.2.2.1 = 0 then
    if uC.2.2.2.2.1 < uH.2.1 then
      some uC
    else
      some (uC.1, uC.2.1, uC.2.2.1, ((uH.2.1 / (4 : Int32)) + (1 : Int32)), (0 : Int32), uC.2.2.2.2.2)
  else
    some uC
set_option maxHeartbeats 4000000 in
set_option maxRecDepth 100000 in
theorem c_X0_getStuckIfWorn (l : Launch) (dC : Nat → ClassId) (dI : Nat → Nat → Nat) (cI cZ : ClassId) (c0 c8 c9 c10 c11 c12 c13 h0 h3 h4 h5 h6 : Nat) (sz : Nat) (uC : tX0) (uH : tX1) {z : tX0} (hok : p_X0_getStuckIfWorn uC uH = some z) : Met l yX0_getStuckIfWorn (Cond.code yX0_getStuckIfWorn cX0_getStuckIfWorn 1 none :: lw_all) { frames := 0, cells := 0, slots := 0, locals := 0 } (prW (dC, dI) vwCl (TYS cI cZ) ((wX0 cI cZ c0 c8 c9 c10 c11 c12 c13 h0 uC) ++ (wX1 cI cZ h0 h3 h4 h5 h6 uH)) sz [.ref c0]) (va_Qv (fun _ : Unit => True) (fun _ t => va_P (dC, dI) vwCl ((wX0 cI cZ c0 c8 c9 c10 c11 c12 c13 h0 z) ++ (wX1 cI cZ h0 h3 h4 h5 h6 uH)) t.heap) (va_A ((wX0 cI cZ c0 c8 c9 c10 c11 c12 c13 h0 uC) ++ (wX1 cI cZ h0 h3 h4 h5 h6 uH)) sz)) 0 0 (va_A ((wX0 cI cZ c0 c8 c9 c10 c11 c12 c13 h0 uC) ++ (wX1 cI cZ h0 h3 h4 h5 h6 uH)) sz) := by
  refine oM (by decide) (Nat.le_of_ble_eq_true rfl) ?_
  intro p e s m args below meth c S hr hlk hnm hB ls hl
  have hx := S.1
  have hb := S.2.1
  have hml := S.2.2.1
  have hown : s.vm.findClass RX0 = some m.cls := S.2.2.2.1
  have hts := S.2.2.2.2
  have S : CallFix p m c cX0_getStuckIfWorn 1 s args lw_all RX0 := S
  have hl : lv_has ls 1 [(0, .ref c0)] := hl
  obtain ⟨hsz, hP, hK, hD0⟩ := hB
  subst hsz
  have hD := hD0.self (sz := s.heap.size)
  generalize hAe : va_A ((wX0 cI cZ c0 c8 c9 c10 c11 c12 c13 h0 uC) ++ (wX1 cI cZ h0 h3 h4 h5 h6 uH)) s.heap.size = A at hD ⊢
  have hA : ∀ q : Nat, s.heap.size ≤ q → A q := fun q h => by rw [← hAe]; exact Or.inr h
  have hS : va_S A s.heap s.heap [] := va_S.rf
  have hP : va_P (dC, dI) vwCl ((wX0 cI cZ c0 c8 c9 c10 c11 c12 c13 h0 uC) ++ (wX1 cI cZ h0 h3 h4 h5 h6 uH)) s.heap := hP
  unfold p_X0_getStuckIfWorn at hok
  refine lv_aload_n hx hb dX0_getStuckIfWorn_0 rfl (lv_at hl 0 rfl) ?_
  refine va_get (D := (dC, dI)) (ci := 0) (v := .int uC.2.2.2.1) (C := RX0) (T := TX0) (N := 14) hx hb hts inX0 hown hK hP 0 rfl rfl 4 (by decide) (hts _ qf_X0_21) (fun _ h9 => h9) rfl dX0_getStuckIfWorn_1 ?_
  refine lv_if_ne (tgt := 41) hx hb dX0_getStuckIfWorn_4 (by decide) (fun hc => ?_) (fun hc => ?_)
  · have hok := iq hok hc
    have hok := Option.some.inj hok
    subst hok
    exact eWv S hr hlk hP hS (Nat.le_of_ble_eq_true rfl) (Nat.le_of_ble_eq_true rfl) dX0_getStuckIfWorn_41
  · have hok := ip hok hc
    refine lv_aload_n hx hb dX0_getStuckIfWorn_7 rfl (lv_at hl 0 rfl) ?_
    refine va_get (D := (dC, dI)) (ci := 0) (v := .int uC.2.2.2.2.1) (C := RX0) (T := TX0) (N := 14) hx hb hts inX0 hown hK hP 0 rfl rfl 5 (by decide) (hts _ qf_X0_24) (fun _ h9 => h9) rfl dX0_getStuckIfWorn_8 ?_
    refine lv_aload_n hx hb dX0_getStuckIfWorn_11 rfl (lv_at hl 0 rfl) ?_
    refine va_get (D := (dC, dI)) (ci := 0) (v := .ref h0) (C := RX0) (T := TX0) (N := 14) hx hb hts inX0 hown hK hP 0 rfl rfl 0 (by decide) (hts _ qf_X0_53) (fun _ h9 => h9) rfl dX0_getStuckIfWorn_12 ?_
    refine va_get (D := (dC, dI)) (ci := 1) (v := .int uH.2.1) (C := RX1) (T := TX1) (N := 7) hx hb hts inX1 hown hK hP 7 rfl rfl 1 (by decide) (hts _ qf_X0_119) (fun _ h9 => h9) rfl dX0_getStuckIfWorn_15 ?_
    refine lv_icmp_lt (tgt := 41) hx hb dX0_getStuckIfWorn_18 (by decide) (fun hc => ?_) (fun hc => ?_)
    · have hok := ip hok hc
      have hok := Option.some.inj hok
      subst hok
      exact eWv S hr hlk hP hS (Nat.le_of_ble_eq_true rfl) (Nat.le_of_ble_eq_true rfl) dX0_getStuckIfWorn_41
    · have hok := iq hok hc
      refine lv_aload_n hx hb dX0_getStuckIfWorn_21 rfl (lv_at hl 0 rfl) ?_
      refine lv_aload_n hx hb dX0_getStuckIfWorn_22 rfl (lv_at hl 0 rfl) ?_
      refine va_get (D := (dC, dI)) (ci := 0) (v := .ref h0) (C := RX0) (T := TX0) (N := 14) hx hb hts inX0 hown hK hP 0 rfl rfl 0 (by decide) (hts _ qf_X0_53) (fun _ h9 => h9) rfl dX0_getStuckIfWorn_23 ?_
      refine va_get (D := (dC, dI)) (ci := 1) (v := .int uH.2.1) (C := RX1) (T := TX1) (N := 7) hx hb hts inX1 hown hK hP 7 rfl rfl 1 (by decide) (hts _ qf_X0_119) (fun _ h9 => h9) rfl dX0_getStuckIfWorn_26 ?_
      refine lv_iconst (v := (4 : Int32)) hx hb dX0_getStuckIfWorn_29 (by decide) ?_
      refine lv_idiv hx hb dX0_getStuckIfWorn_30 (by decide) ?_
      refine lv_iconst (v := (1 : Int32)) hx hb dX0_getStuckIfWorn_31 (by decide) ?_
      refine lv_iadd hx hb dX0_getStuckIfWorn_32 ?_
      refine va_put (D := (dC, dI)) (ci := 0) (v := .int ((uH.2.1 / (4 : Int32)) + (1 : Int32))) (ty := .int) (C := RX0) (T := TX0) (N := 14) hx hb hts inX0 tyX0 tyX0_ok nmX0 hown hK hP hD hS 0 rfl rfl 4 (by decide) (hts _ qf_X0_21) (fun _ h9 => h9) rfl (tyX0_ok 4 (by decide)) rfl rfl (Nat.le_of_ble_eq_true rfl) dX0_getStuckIfWorn_33 (fun H locs hP _ hS => ?_)
      have hP : va_P (dC, dI) vwCl ((wX0 cI cZ c0 c8 c9 c10 c11 c12 c13 h0 (uC.1, uC.2.1, uC.2.2.1, ((uH.2.1 / (4 : Int32)) + (1 : Int32)), uC.2.2.2.2)) ++ (wX1 cI cZ h0 h3 h4 h5 h6 uH)) H := hP
      have hD : va_D A ((wX0 cI cZ c0 c8 c9 c10 c11 c12 c13 h0 (uC.1, uC.2.1, uC.2.2.1, ((uH.2.1 / (4 : Int32)) + (1 : Int32)), uC.2.2.2.2)) ++ (wX1 cI cZ h0 h3 h4 h5 h6 uH)) := D_CH hD
      refine lv_aload_n hx hb dX0_getStuckIfWorn_36 rfl (lv_at hl 0 rfl) ?_
      refine lv_iconst (v := (0 : Int32)) hx hb dX0_getStuckIfWorn_37 (by decide) ?_
      refine va_put (D := (dC, dI)) (ci := 0) (v := .int (0 : Int32)) (ty := .int) (C := RX0) (T := TX0) (N := 14) hx hb hts inX0 tyX0 tyX0_ok nmX0 hown hK hP hD hS 0 rfl rfl 5 (by decide) (hts _ qf_X0_24) (fun _ h9 => h9) rfl (tyX0_ok 5 (by decide)) rfl rfl (Nat.le_of_ble_eq_true rfl) dX0_getStuckIfWorn_38 (fun H locs hP _ hS => ?_)
      have hP : va_P (dC, dI) vwCl ((wX0 cI cZ c0 c8 c9 c10 c11 c12 c13 h0 (uC.1, uC.2.1, uC.2.2.1, ((uH.2.1 / (4 : Int32)) + (1 : Int32)), (0 : Int32), uC.2.2.2.2.2)) ++ (wX1 cI cZ h0 h3 h4 h5 h6 uH)) H := hP
      have hD : va_D A ((wX0 cI cZ c0 c8 c9 c10 c11 c12 c13 h0 (uC.1, uC.2.1, uC.2.2.1, ((uH.2.1 / (4 : Int32)) + (1 : Int32)), (0 : Int32), uC.2.2.2.2.2)) ++ (wX1 cI cZ h0 h3 h4 h5 h6 uH)) := D_CH hD
      have hok := Option.some.inj hok
      subst hok
      exact eWv S hr hlk hP hS (Nat.le_of_ble_eq_true rfl) (Nat.le_of_ble_eq_true rfl) dX0_getStuckIfWorn_41
theorem hd_X0_passHour : yX0_passHour.cls = RX0 ∧ yX0_passHour.cls ≠ "java/lang/invoke/MethodHandle" ∧ yX0_passHour.cls ≠ "java/lang/invoke/VarHandle" ∧ (parseMethodDescriptor yX0_passHour.desc).map (fun d => d.parameters.length) = some 0 := by decide +kernel
def p_X0_passHour_J53 (uC : tX0) (uH : tX1) (l53_1 : Int32) : Option (Int32 × tX0) :=
  bd (p_X0_getStuckIfWorn uC uH) (fun v7 =>
  some (l53_1, ((v7.1 + (1 : Int32)), v7.2)))
def p_X0_passHour_J41 (uC : tX0) (uH : tX1) (l41_1 : Int32) : Option (Int32 × tX0) :=
  bd (p_X0_countCalled uC uH) (fun v6 =>
  if v6 = 0 then
    p_X0_passHour_J53 (uC.1, uC.2.1, (0 : Int32), uC.2.2.2) uH l41_1
  else
    p_X0_passHour_J53 uC uH l41_1)
def p_X0_passHour_J32 (uC : tX0) (uH : tX1) (l32_1 : Int32) : Option (Int32 × tX0) :=
  if l32_1 = (-1 : Int32) then
    bd (p_X0_coolReaders uC uH) (fun v5 =>
    p_X0_passHour_J41 v5 uH l32_1)
  else
    p_X0_passHour_J41 uC uH l32_1
def p_X0_passHour (uC : tX0) (uH : tX1) : Option (Int32 × tX0) :=
  if uC.2.2.2.1 ≤ 0 then
    bd (p_X0_countCalled uC uH) (fun v1 =>
    if v1 ≤ 0 then
      p_X0_passHour_J32 uC uH (-1 : Int32)
    else
      bd (p_X0_ride uC uH) (fun v2 =>
      bd (p_X0_stopIfCalled v2 uH) (fun v3 =>
      p_X0_passHour_J32 v3.2 uH v3.1)))
  else
    bd (p_X0_waitStuck uC uH) (fun v4 =>
    p_X0_passHour_J32 v4 uH (-1 : Int32))
set_option maxHeartbeats 4000000 in
set_option maxRecDepth 100000 in
theorem c_X0_passHour (l : Launch) (dC : Nat → ClassId) (dI : Nat → Nat → Nat) (cI cZ : ClassId) (c0 c8 c9 c10 c11 c12 c13 h0 h3 h4 h5 h6 : Nat) (sz : Nat) (uC : tX0) (uH : tX1) {z : (Int32 × tX0)} (hok : p_X0_passHour uC uH = some z) : Met l yX0_passHour (Cond.code yX0_passHour cX0_passHour 2 (some .int) :: lw_all) { frames := 3, cells := 0, slots := 0, locals := 68 } (prW (dC, dI) vwCl (TYS cI cZ) ((wX0 cI cZ c0 c8 c9 c10 c11 c12 c13 h0 uC) ++ (wX1 cI cZ h0 h3 h4 h5 h6 uH)) sz [.ref c0]) (va_Qi (fun (r : Int32) (_ : Unit) => r = z.1) (fun _ t => va_P (dC, dI) vwCl ((wX0 cI cZ c0 c8 c9 c10 c11 c12 c13 h0 z.2) ++ (wX1 cI cZ h0 h3 h4 h5 h6 uH)) t.heap) (va_A ((wX0 cI cZ c0 c8 c9 c10 c11 c12 c13 h0 uC) ++ (wX1 cI cZ h0 h3 h4 h5 h6 uH)) sz)) 0 0 (va_A ((wX0 cI cZ c0 c8 c9 c10 c11 c12 c13 h0 uC) ++ (wX1 cI cZ h0 h3 h4 h5 h6 uH)) sz) := by
  refine oM (by decide) (Nat.le_of_ble_eq_true rfl) ?_
  intro p e s m args below meth c S hr hlk hnm hB ls hl
  have hx := S.1
  have hb := S.2.1
  have hml := S.2.2.1
  have hown : s.vm.findClass RX0 = some m.cls := S.2.2.2.1
  have hts := S.2.2.2.2
  have S : CallFix p m c cX0_passHour 2 s args lw_all RX0 := S
  have hl : lv_has ls 2 [(0, .ref c0)] := hl
  obtain ⟨hsz, hP, hK, hD0⟩ := hB
  subst hsz
  have hD := hD0.self (sz := s.heap.size)
  generalize hAe : va_A ((wX0 cI cZ c0 c8 c9 c10 c11 c12 c13 h0 uC) ++ (wX1 cI cZ h0 h3 h4 h5 h6 uH)) s.heap.size = A at hD ⊢
  have hA : ∀ q : Nat, s.heap.size ≤ q → A q := fun q h => by rw [← hAe]; exact Or.inr h
  have hS : va_S A s.heap s.heap [] := va_S.rf
  have hP : va_P (dC, dI) vwCl ((wX0 cI cZ c0 c8 c9 c10 c11 c12 c13 h0 uC) ++ (wX1 cI cZ h0 h3 h4 h5 h6 uH)) s.heap := hP
  have J53 : ∀ (uC : tX0) (l53_1 : Int32) (H : Heap) (locs : List Loc) (hP : va_P (dC, dI) vwCl ((wX0 cI cZ c0 c8 c9 c10 c11 c12 c13 h0 uC) ++ (wX1 cI cZ h0 h3 h4 h5 h6 uH)) H) (hD : va_D A ((wX0 cI cZ c0 c8 c9 c10 c11 c12 c13 h0 uC) ++ (wX1 cI cZ h0 h3 h4 h5 h6 uH))) (hS : va_S A s.heap H locs) (ls : Array Slot) (hl : lv_has ls 2 [(0, .ref c0), (1, .int l53_1)]) (hok : p_X0_passHour_J53 uC uH l53_1 = some z), W p l e { frames := 3, cells := 0, slots := 0, locals := 68 } s m args below meth c H locs 0 0 (MQ below (va_Qi (fun (r : Int32) (_ : Unit) => r = z.1) (fun _ t => va_P (dC, dI) vwCl ((wX0 cI cZ c0 c8 c9 c10 c11 c12 c13 h0 z.2) ++ (wX1 cI cZ h0 h3 h4 h5 h6 uH)) t.heap) A) args s 0 0 A) (F0 m 53 ls []) := by
    intro uC l53_1 H locs hP hD hS ls hl hok
    unfold p_X0_passHour_J53 at hok
    refine lv_aload_n hx hb dX0_passHour_53 rfl (lv_at hl 0 rfl) ?_
    obtain ⟨v7, hc7, hok⟩ := bd_some hok
    refine cWVv (ci := 0) (q0 := 0) [] S hK hP hD hS hA (c_X0_getStuckIfWorn l dC dI cI cZ c0 c8 c9 c10 c11 c12 c13 h0 h3 h4 h5 h6 _ uC uH hc7) (lw_V qm_X0_73 qi_X0_getStuckIfWorn qs_X0_getStuckIfWorn qn_X0 qc_X0_getStuckIfWorn) hd_X0_getStuckIfWorn ⟨rfl, rfl⟩ ⟨Nat.le_of_ble_eq_true rfl, Nat.le_of_ble_eq_true rfl⟩ ⟨Nat.le_of_ble_eq_true rfl, Nat.le_of_ble_eq_true rfl⟩ rfl rfl rfl hl.1 (Nat.le_of_ble_eq_true rfl) rfl dX0_passHour_54 (D_CH hD) (fun H locs hP hD hS => ?_)
    refine lv_aload_n hx hb dX0_passHour_57 rfl (lv_at hl 0 rfl) ?_
    refine lv_dup hx hb dX0_passHour_58 rfl ?_
    refine va_get (D := (dC, dI)) (ci := 0) (v := .int v7.1) (C := RX0) (T := TX0) (N := 14) hx hb hts inX0 hown hK hP 0 rfl rfl 1 (by decide) (hts _ qf_X0_9) (fun _ h9 => h9) rfl dX0_passHour_59 ?_
    refine lv_iconst (v := (1 : Int32)) hx hb dX0_passHour_62 (by decide) ?_
    refine lv_iadd hx hb dX0_passHour_63 ?_
    refine va_put (D := (dC, dI)) (ci := 0) (v := .int (v7.1 + (1 : Int32))) (ty := .int) (C := RX0) (T := TX0) (N := 14) hx hb hts inX0 tyX0 tyX0_ok nmX0 hown hK hP hD hS 0 rfl rfl 1 (by decide) (hts _ qf_X0_9) (fun _ h9 => h9) rfl (tyX0_ok 1 (by decide)) rfl rfl (Nat.le_of_ble_eq_true rfl) dX0_passHour_64 (fun H locs hP _ hS => ?_)
    have hP : va_P (dC, dI) vwCl ((wX0 cI cZ c0 c8 c9 c10 c11 c12 c13 h0 ((v7.1 + (1 : Int32)), v7.2)) ++ (wX1 cI cZ h0 h3 h4 h5 h6 uH)) H := hP
    have hD : va_D A ((wX0 cI cZ c0 c8 c9 c10 c11 c12 c13 h0 ((v7.1 + (1 : Int32)), v7.2)) ++ (wX1 cI cZ h0 h3 h4 h5 h6 uH)) := D_CH hD
    refine lv_iload_n hx hb dX0_passHour_67 rfl (lv_at hl 1 rfl) ?_
    have hok := Option.some.inj hok
    subst hok
    exact eWi S hr hlk rfl hP hS (Nat.le_of_ble_eq_true rfl) (Nat.le_of_ble_eq_true rfl) dX0_passHour_68
  have J41 : ∀ (uC : tX0) (l41_1 : Int32) (H : Heap) (locs : List Loc) (hP : va_P (dC, dI) vwCl ((wX0 cI cZ c0 c8 c9 c10 c11 c12 c13 h0 uC) ++ (wX1 cI cZ h0 h3 h4 h5 h6 uH)) H) (hD : va_D A ((wX0 cI cZ c0 c8 c9 c10 c11 c12 c13 h0 uC) ++ (wX1 cI cZ h0 h3 h4 h5 h6 uH))) (hS : va_S A s.heap H locs) (ls : Array Slot) (hl : lv_has ls 2 [(0, .ref c0), (1, .int l41_1)]) (hok : p_X0_passHour_J41 uC uH l41_1 = some z), W p l e { frames := 3, cells := 0, slots := 0, locals := 68 } s m args below meth c H locs 0 0 (MQ below (va_Qi (fun (r : Int32) (_ : Unit) => r = z.1) (fun _ t => va_P (dC, dI) vwCl ((wX0 cI cZ c0 c8 c9 c10 c11 c12 c13 h0 z.2) ++ (wX1 cI cZ h0 h3 h4 h5 h6 uH)) t.heap) A) args s 0 0 A) (F0 m 41 ls []) := by
    intro uC l41_1 H locs hP hD hS ls hl hok
    unfold p_X0_passHour_J41 at hok
    refine lv_aload_n hx hb dX0_passHour_41 rfl (lv_at hl 0 rfl) ?_
    obtain ⟨v6, hc6, hok⟩ := bd_some hok
    refine cRVi (ci := 0) (q0 := 0) [] S hK hP (c_X0_countCalled l dC dI cI cZ c0 c8 c9 c10 c11 c12 c13 h0 h3 h4 h5 h6 uC uH hc6) (lw_V qm_X0_60 qi_X0_countCalled qs_X0_countCalled qn_X0 qc_X0_countCalled) hd_X0_countCalled ⟨rfl, rfl⟩ ⟨Nat.le_of_ble_eq_true rfl, Nat.le_of_ble_eq_true rfl⟩ ⟨Nat.le_of_ble_eq_true rfl, Nat.le_of_ble_eq_true rfl⟩ rfl rfl rfl hl.1 (Nat.le_of_ble_eq_true rfl) rfl dX0_passHour_42 ?_
    refine lv_if_ne (tgt := 53) hx hb dX0_passHour_45 (by decide) (fun hc => ?_) (fun hc => ?_)
    · have hok := iq hok hc
      exact J53 uC l41_1 _ _ hP hD hS _ hl hok
    · have hok := ip hok hc
      refine lv_aload_n hx hb dX0_passHour_48 rfl (lv_at hl 0 rfl) ?_
      refine lv_iconst (v := (0 : Int32)) hx hb dX0_passHour_49 (by decide) ?_
      refine va_put (D := (dC, dI)) (ci := 0) (v := .int (0 : Int32)) (ty := .int) (C := RX0) (T := TX0) (N := 14) hx hb hts inX0 tyX0 tyX0_ok nmX0 hown hK hP hD hS 0 rfl rfl 3 (by decide) (hts _ qf_X0_18) (fun _ h9 => h9) rfl (tyX0_ok 3 (by decide)) rfl rfl (Nat.le_of_ble_eq_true rfl) dX0_passHour_50 (fun H locs hP _ hS => ?_)
      have hP : va_P (dC, dI) vwCl ((wX0 cI cZ c0 c8 c9 c10 c11 c12 c13 h0 (uC.1, uC.2.1, (0 : Int32), uC.2.2.2)) ++ (wX1 cI cZ h0 h3 h4 h5 h6 uH)) H := hP
      have hD : va_D A ((wX0 cI cZ c0 c8 c9 c10 c11 c12 c13 h0 (uC.1, uC.2.1, (0 : Int32), uC.2.2.2)) ++ (wX1 cI cZ h0 h3 h4 h5 h6 uH)) := D_CH hD
      exact J53 (uC.1, uC.2.1, (0 : Int32), uC.2.2.2) l41_1 _ _ hP hD hS _ hl hok
  have J32 : ∀ (uC : tX0) (l32_1 : Int32) (H : Heap) (locs : List Loc) (hP : va_P (dC, dI) vwCl ((wX0 cI cZ c0 c8 c9 c10 c11 c12 c13 h0 uC) ++ (wX1 cI cZ h0 h3 h4 h5 h6 uH)) H) (hD : va_D A ((wX0 cI cZ c0 c8 c9 c10 c11 c12 c13 h0 uC) ++ (wX1 cI cZ h0 h3 h4 h5 h6 uH))) (hS : va_S A s.heap H locs) (ls : Array Slot) (hl : lv_has ls 2 [(0, .ref c0), (1, .int l32_1)]) (hok : p_X0_passHour_J32 uC uH l32_1 = some z), W p l e { frames := 3, cells := 0, slots := 0, locals := 68 } s m args below meth c H locs 0 0 (MQ below (va_Qi (fun (r : Int32) (_ : Unit) => r = z.1) (fun _ t => va_P (dC, dI) vwCl ((wX0 cI cZ c0 c8 c9 c10 c11 c12 c13 h0 z.2) ++ (wX1 cI cZ h0 h3 h4 h5 h6 uH)) t.heap) A) args s 0 0 A) (F0 m 32 ls []) := by
    intro uC l32_1 H locs hP hD hS ls hl hok
    unfold p_X0_passHour_J32 at hok
    refine lv_iload_n hx hb dX0_passHour_32 rfl (lv_at hl 1 rfl) ?_
    refine lv_iconst (v := (-1 : Int32)) hx hb dX0_passHour_33 (by decide) ?_
    refine lv_icmp_ne (tgt := 41) hx hb dX0_passHour_34 (by decide) (fun hc => ?_) (fun hc => ?_)
    · have hok := iq hok hc
      exact J41 uC l32_1 _ _ hP hD hS _ hl hok
    · have hok := ip hok hc
      refine lv_aload_n hx hb dX0_passHour_37 rfl (lv_at hl 0 rfl) ?_
      obtain ⟨v5, hc5, hok⟩ := bd_some hok
      refine cWVv (ci := 0) (q0 := 0) [] S hK hP hD hS hA (c_X0_coolReaders l dC dI cI cZ c0 c8 c9 c10 c11 c12 c13 h0 h3 h4 h5 h6 _ uC uH hc5) (lw_V qm_X0_70 qi_X0_coolReaders qs_X0_coolReaders qn_X0 qc_X0_coolReaders) hd_X0_coolReaders ⟨rfl, rfl⟩ ⟨Nat.le_of_ble_eq_true rfl, Nat.le_of_ble_eq_true rfl⟩ ⟨Nat.le_of_ble_eq_true rfl, Nat.le_of_ble_eq_true rfl⟩ rfl rfl rfl hl.1 (Nat.le_of_ble_eq_true rfl) rfl dX0_passHour_38 (D_CH hD) (fun H locs hP hD hS => ?_)
      exact J41 v5 l32_1 _ _ hP hD hS _ hl hok
  unfold p_X0_passHour at hok
  refine lv_iconst (v := (-1 : Int32)) hx hb dX0_passHour_0 (by decide) ?_
  refine lv_istore_n (lv' := [(1, .int (-1 : Int32)), (0, .ref c0)]) hx hb dX0_passHour_1 rfl hl (by decide) rfl (fun ls hl => ?_)
  refine lv_aload_n hx hb dX0_passHour_2 rfl (lv_at hl 1 rfl) ?_
  refine va_get (D := (dC, dI)) (ci := 0) (v := .int uC.2.2.2.1) (C := RX0) (T := TX0) (N := 14) hx hb hts inX0 hown hK hP 0 rfl rfl 4 (by decide) (hts _ qf_X0_21) (fun _ h9 => h9) rfl dX0_passHour_3 ?_
  refine lv_if_le (tgt := 16) hx hb dX0_passHour_6 (by decide) (fun hc => ?_) (fun hc => ?_)
  · have hok := ip hok hc
    refine lv_aload_n hx hb dX0_passHour_16 rfl (lv_at hl 1 rfl) ?_
    obtain ⟨v1, hc1, hok⟩ := bd_some hok
    refine cRVi (ci := 0) (q0 := 0) [] S hK hP (c_X0_countCalled l dC dI cI cZ c0 c8 c9 c10 c11 c12 c13 h0 h3 h4 h5 h6 uC uH hc1) (lw_V qm_X0_60 qi_X0_countCalled qs_X0_countCalled qn_X0 qc_X0_countCalled) hd_X0_countCalled ⟨rfl, rfl⟩ ⟨Nat.le_of_ble_eq_true rfl, Nat.le_of_ble_eq_true rfl⟩ ⟨Nat.le_of_ble_eq_true rfl, Nat.le_of_ble_eq_true rfl⟩ rfl rfl rfl hl.1 (Nat.le_of_ble_eq_true rfl) rfl dX0_passHour_17 ?_
    refine lv_if_le (tgt := 32) hx hb dX0_passHour_20 (by decide) (fun hc => ?_) (fun hc => ?_)
    · have hok := ip hok hc
      exact J32 uC (-1 : Int32) _ _ hP hD hS _ (lv_sub hl [1, 0] rfl) hok
    · have hok := iq hok hc
      refine lv_aload_n hx hb dX0_passHour_23 rfl (lv_at hl 1 rfl) ?_
      obtain ⟨v2, hc2, hok⟩ := bd_some hok
      refine cWVv (ci := 0) (q0 := 0) [] S hK hP hD hS hA (c_X0_ride l dC dI cI cZ c0 c8 c9 c10 c11 c12 c13 h0 h3 h4 h5 h6 _ uC uH hc2) (lw_V qm_X0_64 qi_X0_ride qs_X0_ride qn_X0 qc_X0_ride) hd_X0_ride ⟨rfl, rfl⟩ ⟨Nat.le_of_ble_eq_true rfl, Nat.le_of_ble_eq_true rfl⟩ ⟨Nat.le_of_ble_eq_true rfl, Nat.le_of_ble_eq_true rfl⟩ rfl rfl rfl hl.1 (Nat.le_of_ble_eq_true rfl) rfl dX0_passHour_24 (D_CH hD) (fun H locs hP hD hS => ?_)
      refine lv_aload_n hx hb dX0_passHour_27 rfl (lv_at hl 1 rfl) ?_
      obtain ⟨v3, hc3, hok⟩ := bd_some hok
      refine cWVi (ci := 0) (q0 := 0) [] S hK hP hD hS hA (c_X0_stopIfCalled l dC dI cI cZ c0 c8 c9 c10 c11 c12 c13 h0 h3 h4 h5 h6 _ v2 uH hc3) (lw_V qm_X0_67 qi_X0_stopIfCalled qs_X0_stopIfCalled qn_X0 qc_X0_stopIfCalled) hd_X0_stopIfCalled ⟨rfl, rfl⟩ ⟨Nat.le_of_ble_eq_true rfl, Nat.le_of_ble_eq_true rfl⟩ ⟨Nat.le_of_ble_eq_true rfl, Nat.le_of_ble_eq_true rfl⟩ rfl rfl rfl hl.1 (Nat.le_of_ble_eq_true rfl) rfl dX0_passHour_28 (D_CH hD) (fun H locs hP hD hS => ?_)
      refine lv_istore_n (lv' := [(1, .int v3.1), (0, .ref c0)]) hx hb dX0_passHour_31 rfl hl (by decide) rfl (fun ls hl => ?_)
      exact J32 v3.2 v3.1 _ _ hP hD hS _ (lv_sub hl [1, 0] rfl) hok
  · have hok := iq hok hc
    refine lv_aload_n hx hb dX0_passHour_9 rfl (lv_at hl 1 rfl) ?_
    obtain ⟨v4, hc4, hok⟩ := bd_some hok
    refine cWVv (ci := 0) (q0 := 0) [] S hK hP hD hS hA (c_X0_waitStuck l dC dI cI cZ c0 c8 c9 c10 c11 c12 c13 h0 h3 h4 h5 h6 _ uC uH hc4) (lw_V qm_X0_57 qi_X0_waitStuck qs_X0_waitStuck qn_X0 qc_X0_waitStuck) hd_X0_waitStuck ⟨rfl, rfl⟩ ⟨Nat.le_of_ble_eq_true rfl, Nat.le_of_ble_eq_true rfl⟩ ⟨Nat.le_of_ble_eq_true rfl, Nat.le_of_ble_eq_true rfl⟩ rfl rfl rfl hl.1 (Nat.le_of_ble_eq_true rfl) rfl dX0_passHour_10 (D_CH hD) (fun H locs hP hD hS => ?_)
    refine lv_goto (tgt := 32) hx hb dX0_passHour_13 (by decide) ?_
    exact J32 v4 (-1 : Int32) _ _ hP hD hS _ (lv_sub hl [1, 0] rfl) hok
theorem hd_X0_countCut : yX0_countCut.cls = RX0 ∧ yX0_countCut.cls ≠ "java/lang/invoke/MethodHandle" ∧ yX0_countCut.cls ≠ "java/lang/invoke/VarHandle" ∧ (parseMethodDescriptor yX0_countCut.desc).map (fun d => d.parameters.length) = some 0 := by decide +kernel
def p_X0_countCut_L4 : Nat → tX0 → tX1 → Int32 → Int32 → Option Int32
  | 0, _, _, _, _ => none
  | n + 1, uC, uH, l4_1, l4_2 =>
    if (12 : Int32) ≤ l4_2 then
      some l4_1
    else
      gd l4_2 12 (
      (p_X0_countCut_L4 n) uC uH (l4_1 + (uC.2.2.2.2.2.2.2.2.2.1 l4_2.toNatClampNeg)) (l4_2 + 1))
def p_X0_countCut (uC : tX0) (uH : tX1) : Option Int32 :=
  p_X0_countCut_L4 200 uC uH (0 : Int32) (0 : Int32)
set_option maxHeartbeats 4000000 in
set_option maxRecDepth 100000 in
theorem c_X0_countCut (l : Launch) (dC : Nat → ClassId) (dI : Nat → Nat → Nat) (cI cZ : ClassId) (c0 c8 c9 c10 c11 c12 c13 h0 h3 h4 h5 h6 : Nat) (uC : tX0) (uH : tX1) {z : Int32} (hok : p_X0_countCut uC uH = some z) : Met l yX0_countCut (Cond.code yX0_countCut cX0_countCut 3 (some .int) :: lw_all) { frames := 0, cells := 0, slots := 0, locals := 0 } (prR (dC, dI) vwCl (TYS cI cZ) ((wX0 cI cZ c0 c8 c9 c10 c11 c12 c13 h0 uC) ++ (wX1 cI cZ h0 h3 h4 h5 h6 uH)) [.ref c0]) (vp_Si (fun r => r = z)) 0 0 (fun _ => False) := by
  refine oM (by decide) (Nat.le_of_ble_eq_true rfl) ?_
  intro p e s m args below meth c S hr hlk hnm hB ls hl
  have hx := S.1
  have hb := S.2.1
  have hml := S.2.2.1
  have hown : s.vm.findClass RX0 = some m.cls := S.2.2.2.1
  have hts := S.2.2.2.2
  have S : CallFix p m c cX0_countCut 3 s args lw_all RX0 := S
  have hl : lv_has ls 3 [(0, .ref c0)] := hl
  obtain ⟨hP, hK⟩ := hB
  have hP : va_P (dC, dI) vwCl ((wX0 cI cZ c0 c8 c9 c10 c11 c12 c13 h0 uC) ++ (wX1 cI cZ h0 h3 h4 h5 h6 uH)) s.heap := hP
  have L4 : ∀ n4 : Nat, ∀ (l4_1 : Int32) (l4_2 : Int32) (ls : Array Slot) (hl : lv_has ls 3 [(0, .ref c0), (1, .int l4_1), (2, .int l4_2)]) (hok : p_X0_countCut_L4 n4 uC uH l4_1 l4_2 = some z), W p l e { frames := 0, cells := 0, slots := 0, locals := 0 } s m args below meth c s.heap [] 0 0 (MQ below (vp_Si (fun r => r = z)) args s 0 0 (fun _ => False)) (F0 m 4 ls []) := by
    intro n4
    induction n4 with
    | zero =>
      intro l4_1 l4_2 ls hl hok
      rw [p_X0_countCut_L4] at hok
      cases hok
    | succ n4 ih4 =>
      intro l4_1 l4_2 ls hl hok
      rw [p_X0_countCut_L4] at hok
      refine lv_iload_n hx hb dX0_countCut_4 rfl (lv_at hl 2 rfl) ?_
      refine lv_bipush (v := (12 : Int32)) hx hb dX0_countCut_5 (by decide) ?_
      refine lv_icmp_ge (tgt := 25) hx hb dX0_countCut_7 (by decide) (fun hc => ?_) (fun hc => ?_)
      · have hok := ip hok hc
        refine lv_iload_n hx hb dX0_countCut_25 rfl (lv_at hl 1 rfl) ?_
        exact eRi S hr hlk (Option.some.inj hok) dX0_countCut_26
      · have hok := iq hok hc
        refine lv_iload_n hx hb dX0_countCut_10 rfl (lv_at hl 1 rfl) ?_
        refine lv_aload_n hx hb dX0_countCut_11 rfl (lv_at hl 0 rfl) ?_
        refine va_get (D := (dC, dI)) (ci := 0) (v := .ref c10) (C := RX0) (T := TX0) (N := 14) hx hb hts inX0 hown hK hP 0 rfl rfl 10 (by decide) (hts _ qf_X0_41) (fun _ h9 => h9) rfl dX0_countCut_12 ?_
        refine lv_iload_n hx hb dX0_countCut_15 rfl (lv_at hl 2 rfl) ?_
        obtain ⟨hi1, hok⟩ := gd_some hok
        refine va_iald hx hb hK hP 3 0 rfl rfl hi1 dX0_countCut_16 ?_
        refine lv_iadd hx hb dX0_countCut_17 ?_
        refine lv_istore_n (lv' := [(1, .int (l4_1 + (uC.2.2.2.2.2.2.2.2.2.1 l4_2.toNatClampNeg))), (0, .ref c0), (2, .int l4_2)]) hx hb dX0_countCut_18 rfl hl (by decide) rfl (fun ls hl => ?_)
        refine lv_iinc (v := (l4_2 + 1)) (lv' := [(2, .int (l4_2 + 1)), (1, .int (l4_1 + (uC.2.2.2.2.2.2.2.2.2.1 l4_2.toNatClampNeg))), (0, .ref c0)]) hx hb dX0_countCut_19 hl (k := 2) rfl rfl (by decide) rfl (fun ls hl => ?_)
        refine lv_goto (tgt := 4) hx hb dX0_countCut_22 (by decide) ?_
        exact ih4 (l4_1 + (uC.2.2.2.2.2.2.2.2.2.1 l4_2.toNatClampNeg)) (l4_2 + 1) _ (lv_sub hl [2, 1, 0] rfl) hok
  unfold p_X0_countCut at hok
  refine lv_iconst (v := (0 : Int32)) hx hb dX0_countCut_0 (by decide) ?_
  refine lv_istore_n (lv' := [(1, .int (0 : Int32)), (0, .ref c0)]) hx hb dX0_countCut_1 rfl hl (by decide) rfl (fun ls hl => ?_)
  refine lv_iconst (v := (0 : Int32)) hx hb dX0_countCut_2 (by decide) ?_
  refine lv_istore_n (lv' := [(2, .int (0 : Int32)), (1, .int (0 : Int32)), (0, .ref c0)]) hx hb dX0_countCut_3 rfl hl (by decide) rfl (fun ls hl => ?_)
  exact L4 200 (0 : Int32) (0 : Int32) _ (lv_sub hl [2, 1, 0] rfl) hok
theorem hd_X0_countToCome : yX0_countToCome.cls = RX0 ∧ yX0_countToCome.cls ≠ "java/lang/invoke/MethodHandle" ∧ yX0_countToCome.cls ≠ "java/lang/invoke/VarHandle" ∧ (parseMethodDescriptor yX0_countToCome.desc).map (fun d => d.parameters.length) = some 1 := by decide +kernel
def p_X0_countToCome_L23 (rec4 : tX0 → tX1 → Int32 → Int32 → Int32 → Option Int32) : Nat → tX0 → tX1 → Int32 → Int32 → Int32 → Int32 → Option Int32
  | 0, _, _, _, _, _, _ => none
  | n + 1, uC, uH, l23_1, l23_2, l23_3, l23_4 =>
    gd l23_3 12 (
    if (uH.2.2.2.1 l23_3.toNatClampNeg) ≤ l23_4 then
      rec4 uC uH l23_1 l23_2 (l23_3 + 1)
    else
      bd (p_X1_topicAt uH l23_3 l23_4) (fun v3 =>
      if v3 = l23_1 then
        (p_X0_countToCome_L23 rec4 n) uC uH l23_1 (l23_2 + 1) l23_3 (l23_4 + 1)
      else
        (p_X0_countToCome_L23 rec4 n) uC uH l23_1 l23_2 l23_3 (l23_4 + 1)))
def p_X0_countToCome_L4 : Nat → tX0 → tX1 → Int32 → Int32 → Int32 → Option Int32
  | 0, _, _, _, _, _ => none
  | n + 1, uC, uH, l4_1, l4_2, l4_3 =>
    if uH.1 ≤ l4_3 then
      some l4_2
    else
      gd l4_3 12 (
      p_X0_countToCome_L23 (p_X0_countToCome_L4 n) 200 uC uH l4_1 l4_2 l4_3 (uC.2.2.2.2.2.2.2.2.1 l4_3.toNatClampNeg))
def p_X0_countToCome (uC : tX0) (uH : tX1) (a1 : Int32) : Option Int32 :=
  p_X0_countToCome_L4 200 uC uH a1 (0 : Int32) (0 : Int32)
set_option maxHeartbeats 4000000 in
set_option maxRecDepth 100000 in
theorem c_X0_countToCome (l : Launch) (dC : Nat → ClassId) (dI : Nat → Nat → Nat) (cI cZ : ClassId) (c0 c8 c9 c10 c11 c12 c13 h0 h3 h4 h5 h6 : Nat) (uC : tX0) (uH : tX1) (a1 : Int32) {z : Int32} (hok : p_X0_countToCome uC uH a1 = some z) : Met l yX0_countToCome (Cond.code yX0_countToCome cX0_countToCome 5 (some .int) :: lw_all) { frames := 1, cells := 0, slots := 0, locals := 22 } (prR (dC, dI) vwCl (TYS cI cZ) ((wX0 cI cZ c0 c8 c9 c10 c11 c12 c13 h0 uC) ++ (wX1 cI cZ h0 h3 h4 h5 h6 uH)) [.ref c0, .int a1]) (vp_Si (fun r => r = z)) 0 0 (fun _ => False) := by
  refine oM (by decide) (Nat.le_of_ble_eq_true rfl) ?_
  intro p e s m args below meth c S hr hlk hnm hB ls hl
  have hx := S.1
  have hb := S.2.1
  have hml := S.2.2.1
  have hown : s.vm.findClass RX0 = some m.cls := S.2.2.2.1
  have hts := S.2.2.2.2
  have S : CallFix p m c cX0_countToCome 5 s args lw_all RX0 := S
  have hl : lv_has ls 5 [(0, .ref c0), (1, .int a1)] := hl
  obtain ⟨hP, hK⟩ := hB
  have hP : va_P (dC, dI) vwCl ((wX0 cI cZ c0 c8 c9 c10 c11 c12 c13 h0 uC) ++ (wX1 cI cZ h0 h3 h4 h5 h6 uH)) s.heap := hP
  have L4 : ∀ n4 : Nat, ∀ (l4_1 : Int32) (l4_2 : Int32) (l4_3 : Int32) (ls : Array Slot) (hl : lv_has ls 5 [(0, .ref c0), (1, .int l4_1), (2, .int l4_2), (3, .int l4_3)]) (hok : p_X0_countToCome_L4 n4 uC uH l4_1 l4_2 l4_3 = some z), W p l e { frames := 1, cells := 0, slots := 0, locals := 22 } s m args below meth c s.heap [] 0 0 (MQ below (vp_Si (fun r => r = z)) args s 0 0 (fun _ => False)) (F0 m 4 ls []) := by
    intro n4
    induction n4 with
    | zero =>
      intro l4_1 l4_2 l4_3 ls hl hok
      rw [p_X0_countToCome_L4] at hok
      cases hok
    | succ n4 ih4 =>
      have L23 : ∀ n23 : Nat, ∀ (l23_1 : Int32) (l23_2 : Int32) (l23_3 : Int32) (l23_4 : Int32) (ls : Array Slot) (hl : lv_has ls 5 [(0, .ref c0), (1, .int l23_1), (2, .int l23_2), (3, .int l23_3), (4, .int l23_4)]) (hok : p_X0_countToCome_L23 (p_X0_countToCome_L4 n4) n23 uC uH l23_1 l23_2 l23_3 l23_4 = some z), W p l e { frames := 1, cells := 0, slots := 0, locals := 22 } s m args below meth c s.heap [] 0 0 (MQ below (vp_Si (fun r => r = z)) args s 0 0 (fun _ => False)) (F0 m 23 ls []) := by
        intro n23
        induction n23 with
        | zero =>
          intro l23_1 l23_2 l23_3 l23_4 ls hl hok
          rw [p_X0_countToCome_L23] at hok
          cases hok
        | succ n23 ih23 =>
          intro l23_1 l23_2 l23_3 l23_4 ls hl hok
          rw [p_X0_countToCome_L23] at hok
          refine lv_iload hx hb dX0_countToCome_23 (lv_at hl 4 rfl) ?_
          refine lv_aload_n hx hb dX0_countToCome_25 rfl (lv_at hl 0 rfl) ?_
          refine va_get (D := (dC, dI)) (ci := 0) (v := .ref h0) (C := RX0) (T := TX0) (N := 14) hx hb hts inX0 hown hK hP 0 rfl rfl 0 (by decide) (hts _ qf_X0_53) (fun _ h9 => h9) rfl dX0_countToCome_26 ?_
          refine va_get (D := (dC, dI)) (ci := 1) (v := .ref h3) (C := RX1) (T := TX1) (N := 7) hx hb hts inX1 hown hK hP 7 rfl rfl 3 (by decide) (hts _ qf_X0_93) (fun _ h9 => h9) rfl dX0_countToCome_29 ?_
          refine lv_iload_n hx hb dX0_countToCome_32 rfl (lv_at hl 3 rfl) ?_
          obtain ⟨hi2, hok⟩ := gd_some hok
          refine va_iald hx hb hK hP 8 0 rfl rfl hi2 dX0_countToCome_33 ?_
          refine lv_icmp_ge (tgt := 60) hx hb dX0_countToCome_34 (by decide) (fun hc => ?_) (fun hc => ?_)
          · have hok := ip hok hc
            refine lv_iinc (v := (l23_3 + 1)) (lv' := [(3, .int (l23_3 + 1)), (0, .ref c0), (1, .int l23_1), (2, .int l23_2), (4, .int l23_4)]) hx hb dX0_countToCome_60 hl (k := 3) rfl rfl (by decide) rfl (fun ls hl => ?_)
            refine lv_goto (tgt := 4) hx hb dX0_countToCome_63 (by decide) ?_
            exact ih4 l23_1 l23_2 (l23_3 + 1) _ (lv_sub hl [1, 2, 3, 0] rfl) hok
          · have hok := iq hok hc
            refine lv_aload_n hx hb dX0_countToCome_37 rfl (lv_at hl 0 rfl) ?_
            refine va_get (D := (dC, dI)) (ci := 0) (v := .ref h0) (C := RX0) (T := TX0) (N := 14) hx hb hts inX0 hown hK hP 0 rfl rfl 0 (by decide) (hts _ qf_X0_53) (fun _ h9 => h9) rfl dX0_countToCome_38 ?_
            refine lv_iload_n hx hb dX0_countToCome_41 rfl (lv_at hl 3 rfl) ?_
            refine lv_iload hx hb dX0_countToCome_42 (lv_at hl 4 rfl) ?_
            obtain ⟨v3, hc3, hok⟩ := bd_some hok
            refine cRVi (ci := 1) (q0 := 0) [.int l23_3, .int l23_4] S hK (va_Pcut (isC := [7, 8, 9, 10, 11]) hP rfl) (c_X1_topicAt l dC dI cI cZ h0 h3 h4 h5 h6 uH l23_3 l23_4 hc3) (lw_V qm_X0_98 qi_X1_topicAt qs_X1_topicAt qn_X1 qc_X1_topicAt) hd_X1_topicAt ⟨rfl, rfl⟩ ⟨Nat.le_of_ble_eq_true rfl, Nat.le_of_ble_eq_true rfl⟩ ⟨Nat.le_of_ble_eq_true rfl, Nat.le_of_ble_eq_true rfl⟩ rfl rfl rfl hl.1 (Nat.le_of_ble_eq_true rfl) rfl dX0_countToCome_44 ?_
            refine lv_iload_n hx hb dX0_countToCome_47 rfl (lv_at hl 1 rfl) ?_
            refine lv_icmp_ne (tgt := 54) hx hb dX0_countToCome_48 (by decide) (fun hc => ?_) (fun hc => ?_)
            · have hok := iq hok hc
              refine lv_iinc (v := (l23_4 + 1)) (lv' := [(4, .int (l23_4 + 1)), (0, .ref c0), (1, .int l23_1), (2, .int l23_2), (3, .int l23_3)]) hx hb dX0_countToCome_54 hl (k := 4) rfl rfl (by decide) rfl (fun ls hl => ?_)
              refine lv_goto (tgt := 23) hx hb dX0_countToCome_57 (by decide) ?_
              exact ih23 l23_1 l23_2 l23_3 (l23_4 + 1) _ (lv_sub hl [1, 2, 3, 4, 0] rfl) hok
            · have hok := ip hok hc
              refine lv_iinc (v := (l23_2 + 1)) (lv' := [(2, .int (l23_2 + 1)), (0, .ref c0), (1, .int l23_1), (3, .int l23_3), (4, .int l23_4)]) hx hb dX0_countToCome_51 hl (k := 2) rfl rfl (by decide) rfl (fun ls hl => ?_)
              refine lv_iinc (v := (l23_4 + 1)) (lv' := [(4, .int (l23_4 + 1)), (2, .int (l23_2 + 1)), (0, .ref c0), (1, .int l23_1), (3, .int l23_3)]) hx hb dX0_countToCome_54 hl (k := 4) rfl rfl (by decide) rfl (fun ls hl => ?_)
              refine lv_goto (tgt := 23) hx hb dX0_countToCome_57 (by decide) ?_
              exact ih23 l23_1 (l23_2 + 1) l23_3 (l23_4 + 1) _ (lv_sub hl [2, 3, 1, 4, 0] rfl) hok
      intro l4_1 l4_2 l4_3 ls hl hok
      rw [p_X0_countToCome_L4] at hok
      refine lv_iload_n hx hb dX0_countToCome_4 rfl (lv_at hl 3 rfl) ?_
      refine lv_aload_n hx hb dX0_countToCome_5 rfl (lv_at hl 0 rfl) ?_
      refine va_get (D := (dC, dI)) (ci := 0) (v := .ref h0) (C := RX0) (T := TX0) (N := 14) hx hb hts inX0 hown hK hP 0 rfl rfl 0 (by decide) (hts _ qf_X0_53) (fun _ h9 => h9) rfl dX0_countToCome_6 ?_
      refine va_get (D := (dC, dI)) (ci := 1) (v := .int uH.1) (C := RX1) (T := TX1) (N := 7) hx hb hts inX1 hown hK hP 7 rfl rfl 0 (by decide) (hts _ qf_X0_122) (fun _ h9 => h9) rfl dX0_countToCome_9 ?_
      refine lv_icmp_ge (tgt := 66) hx hb dX0_countToCome_12 (by decide) (fun hc => ?_) (fun hc => ?_)
      · have hok := ip hok hc
        refine lv_iload_n hx hb dX0_countToCome_66 rfl (lv_at hl 2 rfl) ?_
        exact eRi S hr hlk (Option.some.inj hok) dX0_countToCome_67
      · have hok := iq hok hc
        refine lv_aload_n hx hb dX0_countToCome_15 rfl (lv_at hl 0 rfl) ?_
        refine va_get (D := (dC, dI)) (ci := 0) (v := .ref c9) (C := RX0) (T := TX0) (N := 14) hx hb hts inX0 hown hK hP 0 rfl rfl 9 (by decide) (hts _ qf_X0_37) (fun _ h9 => h9) rfl dX0_countToCome_16 ?_
        refine lv_iload_n hx hb dX0_countToCome_19 rfl (lv_at hl 3 rfl) ?_
        obtain ⟨hi1, hok⟩ := gd_some hok
        refine va_iald hx hb hK hP 2 0 rfl rfl hi1 dX0_countToCome_20 ?_
        refine lv_istore (lv' := [(4, .int (uC.2.2.2.2.2.2.2.2.1 l4_3.toNatClampNeg)), (0, .ref c0), (1, .int l4_1), (2, .int l4_2), (3, .int l4_3)]) hx hb dX0_countToCome_21 hl (by decide) rfl (fun ls hl => ?_)
        exact L23 200 l4_1 l4_2 l4_3 (uC.2.2.2.2.2.2.2.2.1 l4_3.toNatClampNeg) _ (lv_sub hl [1, 2, 3, 4, 0] rfl) hok
  unfold p_X0_countToCome at hok
  refine lv_iconst (v := (0 : Int32)) hx hb dX0_countToCome_0 (by decide) ?_
  refine lv_istore_n (lv' := [(2, .int (0 : Int32)), (0, .ref c0), (1, .int a1)]) hx hb dX0_countToCome_1 rfl hl (by decide) rfl (fun ls hl => ?_)
  refine lv_iconst (v := (0 : Int32)) hx hb dX0_countToCome_2 (by decide) ?_
  refine lv_istore_n (lv' := [(3, .int (0 : Int32)), (2, .int (0 : Int32)), (0, .ref c0), (1, .int a1)]) hx hb dX0_countToCome_3 rfl hl (by decide) rfl (fun ls hl => ?_)
  exact L4 200 a1 (0 : Int32) (0 : Int32) _ (lv_sub hl [2, 3, 1, 0] rfl) hok
theorem hd_X0_findWarmest : yX0_findWarmest.cls = RX0 ∧ yX0_findWarmest.cls ≠ "java/lang/invoke/MethodHandle" ∧ yX0_findWarmest.cls ≠ "java/lang/invoke/VarHandle" ∧ (parseMethodDescriptor yX0_findWarmest.desc).map (fun d => d.parameters.length) = some 0 := by decide +kernel
def p_X0_findWarmest_J44 (rec4 : tX0 → tX1 → Int32 → Int32 → Option Int32) (uC : tX0) (uH : tX1) (l44_2 : Int32) : Option Int32 :=
  rec4 uC uH l44_2 (l44_2 + 1)
def p_X0_findWarmest_L4 : Nat → tX0 → tX1 → Int32 → Int32 → Option Int32
  | 0, _, _, _, _ => none
  | n + 1, uC, uH, l4_1, l4_2 =>
    if uH.2.2.1 ≤ l4_2 then
      some l4_1
    else
      gd l4_2 8 (
      if (uC.2.2.2.2.2.2.2.2.2.2.2.2 l4_2.toNatClampNeg) = 0 then
        (p_X0_findWarmest_L4 n) uC uH l4_1 (l4_2 + 1)
      else
        if l4_1 = (-1 : Int32) then
          p_X0_findWarmest_J44 (p_X0_findWarmest_L4 n) uC uH l4_2
        else
          gd l4_1 8 (
          if (uC.2.2.2.2.2.2.2.2.2.2.2.1 l4_2.toNatClampNeg) ≤ (uC.2.2.2.2.2.2.2.2.2.2.2.1 l4_1.toNatClampNeg) then
            (p_X0_findWarmest_L4 n) uC uH l4_1 (l4_2 + 1)
          else
            p_X0_findWarmest_J44 (p_X0_findWarmest_L4 n) uC uH l4_2))
def p_X0_findWarmest (uC : tX0) (uH : tX1) : Option Int32 :=
  p_X0_findWarmest_L4 200 uC uH (-1 : Int32) (0 : Int32)
set_option maxHeartbeats 4000000 in
set_option maxRecDepth 100000 in
theorem c_X0_findWarmest (l : Launch) (dC : Nat → ClassId) (dI : Nat → Nat → Nat) (cI cZ : ClassId) (c0 c8 c9 c10 c11 c12 c13 h0 h3 h4 h5 h6 : Nat) (uC : tX0) (uH : tX1) {z : Int32} (hok : p_X0_findWarmest uC uH = some z) : Met l yX0_findWarmest (Cond.code yX0_findWarmest cX0_findWarmest 3 (some .int) :: lw_all) { frames := 0, cells := 0, slots := 0, locals := 0 } (prR (dC, dI) vwCl (TYS cI cZ) ((wX0 cI cZ c0 c8 c9 c10 c11 c12 c13 h0 uC) ++ (wX1 cI cZ h0 h3 h4 h5 h6 uH)) [.ref c0]) (vp_Si (fun r => r = z)) 0 0 (fun _ => False) := by
  refine oM (by decide) (Nat.le_of_ble_eq_true rfl) ?_
  intro p e s m args below meth c S hr hlk hnm hB ls hl
  have hx := S.1
  have hb := S.2.1
  have hml := S.2.2.1
  have hown : s.vm.findClass RX0 = some m.cls := S.2.2.2.1
  have hts := S.2.2.2.2
  have S : CallFix p m c cX0_findWarmest 3 s args lw_all RX0 := S
  have hl : lv_has ls 3 [(0, .ref c0)] := hl
  obtain ⟨hP, hK⟩ := hB
  have hP : va_P (dC, dI) vwCl ((wX0 cI cZ c0 c8 c9 c10 c11 c12 c13 h0 uC) ++ (wX1 cI cZ h0 h3 h4 h5 h6 uH)) s.heap := hP
  have L4 : ∀ n4 : Nat, ∀ (l4_1 : Int32) (l4_2 : Int32) (ls : Array Slot) (hl : lv_has ls 3 [(0, .ref c0), (1, .int l4_1), (2, .int l4_2)]) (hok : p_X0_findWarmest_L4 n4 uC uH l4_1 l4_2 = some z), W p l e { frames := 0, cells := 0, slots := 0, locals := 0 } s m args below meth c s.heap [] 0 0 (MQ below (vp_Si (fun r => r = z)) args s 0 0 (fun _ => False)) (F0 m 4 ls []) := by
    intro n4
    induction n4 with
    | zero =>
      intro l4_1 l4_2 ls hl hok
      rw [p_X0_findWarmest_L4] at hok
      cases hok
    | succ n4 ih4 =>
      have J44 : ∀ (l44_2 : Int32) (ls : Array Slot) (hl : lv_has ls 3 [(0, .ref c0), (2, .int l44_2)]) (hok : p_X0_findWarmest_J44 (p_X0_findWarmest_L4 n4) uC uH l44_2 = some z), W p l e { frames := 0, cells := 0, slots := 0, locals := 0 } s m args below meth c s.heap [] 0 0 (MQ below (vp_Si (fun r => r = z)) args s 0 0 (fun _ => False)) (F0 m 44 ls []) := by
        intro l44_2 ls hl hok
        unfold p_X0_findWarmest_J44 at hok
        refine lv_iload_n hx hb dX0_findWarmest_44 rfl (lv_at hl 1 rfl) ?_
        refine lv_istore_n (lv' := [(1, .int l44_2), (0, .ref c0), (2, .int l44_2)]) hx hb dX0_findWarmest_45 rfl hl (by decide) rfl (fun ls hl => ?_)
        refine lv_iinc (v := (l44_2 + 1)) (lv' := [(2, .int (l44_2 + 1)), (1, .int l44_2), (0, .ref c0)]) hx hb dX0_findWarmest_46 hl (k := 2) rfl rfl (by decide) rfl (fun ls hl => ?_)
        refine lv_goto (tgt := 4) hx hb dX0_findWarmest_49 (by decide) ?_
        exact ih4 l44_2 (l44_2 + 1) _ (lv_sub hl [2, 1, 0] rfl) hok
      intro l4_1 l4_2 ls hl hok
      rw [p_X0_findWarmest_L4] at hok
      refine lv_iload_n hx hb dX0_findWarmest_4 rfl (lv_at hl 2 rfl) ?_
      refine lv_aload_n hx hb dX0_findWarmest_5 rfl (lv_at hl 0 rfl) ?_
      refine va_get (D := (dC, dI)) (ci := 0) (v := .ref h0) (C := RX0) (T := TX0) (N := 14) hx hb hts inX0 hown hK hP 0 rfl rfl 0 (by decide) (hts _ qf_X0_53) (fun _ h9 => h9) rfl dX0_findWarmest_6 ?_
      refine va_get (D := (dC, dI)) (ci := 1) (v := .int uH.2.2.1) (C := RX1) (T := TX1) (N := 7) hx hb hts inX1 hown hK hP 7 rfl rfl 2 (by decide) (hts _ qf_X0_108) (fun _ h9 => h9) rfl dX0_findWarmest_9 ?_
      refine lv_icmp_ge (tgt := 52) hx hb dX0_findWarmest_12 (by decide) (fun hc => ?_) (fun hc => ?_)
      · have hok := ip hok hc
        refine lv_iload_n hx hb dX0_findWarmest_52 rfl (lv_at hl 1 rfl) ?_
        exact eRi S hr hlk (Option.some.inj hok) dX0_findWarmest_53
      · have hok := iq hok hc
        refine lv_aload_n hx hb dX0_findWarmest_15 rfl (lv_at hl 0 rfl) ?_
        refine va_get (D := (dC, dI)) (ci := 0) (v := .ref c13) (C := RX0) (T := TX0) (N := 14) hx hb hts inX0 hown hK hP 0 rfl rfl 13 (by decide) (hts _ qf_X0_50) (fun _ h9 => h9) rfl dX0_findWarmest_16 ?_
        refine lv_iload_n hx hb dX0_findWarmest_19 rfl (lv_at hl 2 rfl) ?_
        obtain ⟨hi1, hok⟩ := gd_some hok
        refine va_zald hx hb hK hP 6 1 rfl rfl hi1 dX0_findWarmest_20 ?_
        refine lv_if_eq (tgt := 46) hx hb dX0_findWarmest_21 (by decide) (fun hc => ?_) (fun hc => ?_)
        · have hok := ip hok hc
          refine lv_iinc (v := (l4_2 + 1)) (lv' := [(2, .int (l4_2 + 1)), (0, .ref c0), (1, .int l4_1)]) hx hb dX0_findWarmest_46 hl (k := 2) rfl rfl (by decide) rfl (fun ls hl => ?_)
          refine lv_goto (tgt := 4) hx hb dX0_findWarmest_49 (by decide) ?_
          exact ih4 l4_1 (l4_2 + 1) _ (lv_sub hl [1, 2, 0] rfl) hok
        · have hok := iq hok hc
          refine lv_iload_n hx hb dX0_findWarmest_24 rfl (lv_at hl 1 rfl) ?_
          refine lv_iconst (v := (-1 : Int32)) hx hb dX0_findWarmest_25 (by decide) ?_
          refine lv_icmp_eq (tgt := 44) hx hb dX0_findWarmest_26 (by decide) (fun hc => ?_) (fun hc => ?_)
          · have hok := ip hok hc
            exact J44 l4_2 _ (lv_sub hl [0, 2] rfl) hok
          · have hok := iq hok hc
            refine lv_aload_n hx hb dX0_findWarmest_29 rfl (lv_at hl 0 rfl) ?_
            refine va_get (D := (dC, dI)) (ci := 0) (v := .ref c12) (C := RX0) (T := TX0) (N := 14) hx hb hts inX0 hown hK hP 0 rfl rfl 12 (by decide) (hts _ qf_X0_47) (fun _ h9 => h9) rfl dX0_findWarmest_30 ?_
            refine lv_iload_n hx hb dX0_findWarmest_33 rfl (lv_at hl 2 rfl) ?_
            refine va_iald hx hb hK hP 5 0 rfl rfl hi1 dX0_findWarmest_34 ?_
            refine lv_aload_n hx hb dX0_findWarmest_35 rfl (lv_at hl 0 rfl) ?_
            refine va_get (D := (dC, dI)) (ci := 0) (v := .ref c12) (C := RX0) (T := TX0) (N := 14) hx hb hts inX0 hown hK hP 0 rfl rfl 12 (by decide) (hts _ qf_X0_47) (fun _ h9 => h9) rfl dX0_findWarmest_36 ?_
            refine lv_iload_n hx hb dX0_findWarmest_39 rfl (lv_at hl 1 rfl) ?_
            obtain ⟨hi2, hok⟩ := gd_some hok
            refine va_iald hx hb hK hP 5 0 rfl rfl hi2 dX0_findWarmest_40 ?_
            refine lv_icmp_le (tgt := 46) hx hb dX0_findWarmest_41 (by decide) (fun hc => ?_) (fun hc => ?_)
            · have hok := ip hok hc
              refine lv_iinc (v := (l4_2 + 1)) (lv' := [(2, .int (l4_2 + 1)), (0, .ref c0), (1, .int l4_1)]) hx hb dX0_findWarmest_46 hl (k := 2) rfl rfl (by decide) rfl (fun ls hl => ?_)
              refine lv_goto (tgt := 4) hx hb dX0_findWarmest_49 (by decide) ?_
              exact ih4 l4_1 (l4_2 + 1) _ (lv_sub hl [1, 2, 0] rfl) hok
            · have hok := iq hok hc
              exact J44 l4_2 _ (lv_sub hl [0, 2] rfl) hok
  unfold p_X0_findWarmest at hok
  refine lv_iconst (v := (-1 : Int32)) hx hb dX0_findWarmest_0 (by decide) ?_
  refine lv_istore_n (lv' := [(1, .int (-1 : Int32)), (0, .ref c0)]) hx hb dX0_findWarmest_1 rfl hl (by decide) rfl (fun ls hl => ?_)
  refine lv_iconst (v := (0 : Int32)) hx hb dX0_findWarmest_2 (by decide) ?_
  refine lv_istore_n (lv' := [(2, .int (0 : Int32)), (1, .int (-1 : Int32)), (0, .ref c0)]) hx hb dX0_findWarmest_3 rfl hl (by decide) rfl (fun ls hl => ?_)
  exact L4 200 (-1 : Int32) (0 : Int32) _ (lv_sub hl [2, 1, 0] rfl) hok
theorem hd_X0_sumOfWarmths : yX0_sumOfWarmths.cls = RX0 ∧ yX0_sumOfWarmths.cls ≠ "java/lang/invoke/MethodHandle" ∧ yX0_sumOfWarmths.cls ≠ "java/lang/invoke/VarHandle" ∧ (parseMethodDescriptor yX0_sumOfWarmths.desc).map (fun d => d.parameters.length) = some 0 := by decide +kernel
def p_X0_sumOfWarmths_L4 : Nat → tX0 → tX1 → Int32 → Int32 → Option Int32
  | 0, _, _, _, _ => none
  | n + 1, uC, uH, l4_1, l4_2 =>
    if uH.2.2.1 ≤ l4_2 then
      some l4_1
    else
      gd l4_2 8 (
      if (uC.2.2.2.2.2.2.2.2.2.2.2.2 l4_2.toNatClampNeg) = 0 then
        (p_X0_sumOfWarmths_L4 n) uC uH l4_1 (l4_2 + 1)
      else
        (p_X0_sumOfWarmths_L4 n) uC uH (l4_1 + (uC.2.2.2.2.2.2.2.2.2.2.2.1 l4_2.toNatClampNeg)) (l4_2 + 1))
def p_X0_sumOfWarmths (uC : tX0) (uH : tX1) : Option Int32 :=
  p_X0_sumOfWarmths_L4 200 uC uH (0 : Int32) (0 : Int32)
set_option maxHeartbeats 4000000 in
set_option maxRecDepth 100000 in
theorem c_X0_sumOfWarmths (l : Launch) (dC : Nat → ClassId) (dI : Nat → Nat → Nat) (cI cZ : ClassId) (c0 c8 c9 c10 c11 c12 c13 h0 h3 h4 h5 h6 : Nat) (uC : tX0) (uH : tX1) {z : Int32} (hok : p_X0_sumOfWarmths uC uH = some z) : Met l yX0_sumOfWarmths (Cond.code yX0_sumOfWarmths cX0_sumOfWarmths 3 (some .int) :: lw_all) { frames := 0, cells := 0, slots := 0, locals := 0 } (prR (dC, dI) vwCl (TYS cI cZ) ((wX0 cI cZ c0 c8 c9 c10 c11 c12 c13 h0 uC) ++ (wX1 cI cZ h0 h3 h4 h5 h6 uH)) [.ref c0]) (vp_Si (fun r => r = z)) 0 0 (fun _ => False) := by
  refine oM (by decide) (Nat.le_of_ble_eq_true rfl) ?_
  intro p e s m args below meth c S hr hlk hnm hB ls hl
  have hx := S.1
  have hb := S.2.1
  have hml := S.2.2.1
  have hown : s.vm.findClass RX0 = some m.cls := S.2.2.2.1
  have hts := S.2.2.2.2
  have S : CallFix p m c cX0_sumOfWarmths 3 s args lw_all RX0 := S
  have hl : lv_has ls 3 [(0, .ref c0)] := hl
  obtain ⟨hP, hK⟩ := hB
  have hP : va_P (dC, dI) vwCl ((wX0 cI cZ c0 c8 c9 c10 c11 c12 c13 h0 uC) ++ (wX1 cI cZ h0 h3 h4 h5 h6 uH)) s.heap := hP
  have L4 : ∀ n4 : Nat, ∀ (l4_1 : Int32) (l4_2 : Int32) (ls : Array Slot) (hl : lv_has ls 3 [(0, .ref c0), (1, .int l4_1), (2, .int l4_2)]) (hok : p_X0_sumOfWarmths_L4 n4 uC uH l4_1 l4_2 = some z), W p l e { frames := 0, cells := 0, slots := 0, locals := 0 } s m args below meth c s.heap [] 0 0 (MQ below (vp_Si (fun r => r = z)) args s 0 0 (fun _ => False)) (F0 m 4 ls []) := by
    intro n4
    induction n4 with
    | zero =>
      intro l4_1 l4_2 ls hl hok
      rw [p_X0_sumOfWarmths_L4] at hok
      cases hok
    | succ n4 ih4 =>
      intro l4_1 l4_2 ls hl hok
      rw [p_X0_sumOfWarmths_L4] at hok
      refine lv_iload_n hx hb dX0_sumOfWarmths_4 rfl (lv_at hl 2 rfl) ?_
      refine lv_aload_n hx hb dX0_sumOfWarmths_5 rfl (lv_at hl 0 rfl) ?_
      refine va_get (D := (dC, dI)) (ci := 0) (v := .ref h0) (C := RX0) (T := TX0) (N := 14) hx hb hts inX0 hown hK hP 0 rfl rfl 0 (by decide) (hts _ qf_X0_53) (fun _ h9 => h9) rfl dX0_sumOfWarmths_6 ?_
      refine va_get (D := (dC, dI)) (ci := 1) (v := .int uH.2.2.1) (C := RX1) (T := TX1) (N := 7) hx hb hts inX1 hown hK hP 7 rfl rfl 2 (by decide) (hts _ qf_X0_108) (fun _ h9 => h9) rfl dX0_sumOfWarmths_9 ?_
      refine lv_icmp_ge (tgt := 39) hx hb dX0_sumOfWarmths_12 (by decide) (fun hc => ?_) (fun hc => ?_)
      · have hok := ip hok hc
        refine lv_iload_n hx hb dX0_sumOfWarmths_39 rfl (lv_at hl 1 rfl) ?_
        exact eRi S hr hlk (Option.some.inj hok) dX0_sumOfWarmths_40
      · have hok := iq hok hc
        refine lv_aload_n hx hb dX0_sumOfWarmths_15 rfl (lv_at hl 0 rfl) ?_
        refine va_get (D := (dC, dI)) (ci := 0) (v := .ref c13) (C := RX0) (T := TX0) (N := 14) hx hb hts inX0 hown hK hP 0 rfl rfl 13 (by decide) (hts _ qf_X0_50) (fun _ h9 => h9) rfl dX0_sumOfWarmths_16 ?_
        refine lv_iload_n hx hb dX0_sumOfWarmths_19 rfl (lv_at hl 2 rfl) ?_
        obtain ⟨hi1, hok⟩ := gd_some hok
        refine va_zald hx hb hK hP 6 1 rfl rfl hi1 dX0_sumOfWarmths_20 ?_
        refine lv_if_eq (tgt := 33) hx hb dX0_sumOfWarmths_21 (by decide) (fun hc => ?_) (fun hc => ?_)
        · have hok := ip hok hc
          refine lv_iinc (v := (l4_2 + 1)) (lv' := [(2, .int (l4_2 + 1)), (0, .ref c0), (1, .int l4_1)]) hx hb dX0_sumOfWarmths_33 hl (k := 2) rfl rfl (by decide) rfl (fun ls hl => ?_)
          refine lv_goto (tgt := 4) hx hb dX0_sumOfWarmths_36 (by decide) ?_
          exact ih4 l4_1 (l4_2 + 1) _ (lv_sub hl [1, 2, 0] rfl) hok
        · have hok := iq hok hc
          refine lv_iload_n hx hb dX0_sumOfWarmths_24 rfl (lv_at hl 1 rfl) ?_
          refine lv_aload_n hx hb dX0_sumOfWarmths_25 rfl (lv_at hl 0 rfl) ?_
          refine va_get (D := (dC, dI)) (ci := 0) (v := .ref c12) (C := RX0) (T := TX0) (N := 14) hx hb hts inX0 hown hK hP 0 rfl rfl 12 (by decide) (hts _ qf_X0_47) (fun _ h9 => h9) rfl dX0_sumOfWarmths_26 ?_
          refine lv_iload_n hx hb dX0_sumOfWarmths_29 rfl (lv_at hl 2 rfl) ?_
          refine va_iald hx hb hK hP 5 0 rfl rfl hi1 dX0_sumOfWarmths_30 ?_
          refine lv_iadd hx hb dX0_sumOfWarmths_31 ?_
          refine lv_istore_n (lv' := [(1, .int (l4_1 + (uC.2.2.2.2.2.2.2.2.2.2.2.1 l4_2.toNatClampNeg))), (0, .ref c0), (2, .int l4_2)]) hx hb dX0_sumOfWarmths_32 rfl hl (by decide) rfl (fun ls hl => ?_)
          refine lv_iinc (v := (l4_2 + 1)) (lv' := [(2, .int (l4_2 + 1)), (1, .int (l4_1 + (uC.2.2.2.2.2.2.2.2.2.2.2.1 l4_2.toNatClampNeg))), (0, .ref c0)]) hx hb dX0_sumOfWarmths_33 hl (k := 2) rfl rfl (by decide) rfl (fun ls hl => ?_)
          refine lv_goto (tgt := 4) hx hb dX0_sumOfWarmths_36 (by decide) ?_
          exact ih4 (l4_1 + (uC.2.2.2.2.2.2.2.2.2.2.2.1 l4_2.toNatClampNeg)) (l4_2 + 1) _ (lv_sub hl [2, 1, 0] rfl) hok
  unfold p_X0_sumOfWarmths at hok
  refine lv_iconst (v := (0 : Int32)) hx hb dX0_sumOfWarmths_0 (by decide) ?_
  refine lv_istore_n (lv' := [(1, .int (0 : Int32)), (0, .ref c0)]) hx hb dX0_sumOfWarmths_1 rfl hl (by decide) rfl (fun ls hl => ?_)
  refine lv_iconst (v := (0 : Int32)) hx hb dX0_sumOfWarmths_2 (by decide) ?_
  refine lv_istore_n (lv' := [(2, .int (0 : Int32)), (1, .int (0 : Int32)), (0, .ref c0)]) hx hb dX0_sumOfWarmths_3 rfl hl (by decide) rfl (fun ls hl => ?_)
  exact L4 200 (0 : Int32) (0 : Int32) _ (lv_sub hl [2, 1, 0] rfl) hok
