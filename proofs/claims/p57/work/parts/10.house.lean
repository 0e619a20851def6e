theorem hd_X1_clear : yX1_clear.cls = RX1 ∧ yX1_clear.cls ≠ "java/lang/invoke/MethodHandle" ∧ yX1_clear.cls ≠ "java/lang/invoke/VarHandle" ∧ (parseMethodDescriptor yX1_clear.desc).map (fun d => d.parameters.length) = some 1 := by decide +kernel
def p_X1_clear_L7 : Nat → tX1 → Int32 → Option tX1
  | 0, _, _ => none
  | n + 1, uH, l7_2 =>
    if (12 : Int32) ≤ l7_2 then
      some uH
    else
      gd l7_2 12 (
      (p_X1_clear_L7 n) (uH.1, uH.2.1, uH.2.2.1, (upd uH.2.2.2.1 l7_2.toNatClampNeg (0 : Int32)), uH.2.2.2.2) (l7_2 + 1))
def p_X1_clear (uH : tX1) (a1 : Int32) : Option tX1 :=
  p_X1_clear_L7 200 (a1, uH.2) (0 : Int32)
set_option maxHeartbeats 4000000 in
set_option maxRecDepth 100000 in
theorem c_X1_clear (l : Launch) (dC : Nat → ClassId) (dI : Nat → Nat → Nat) (cI cZ : ClassId) (h0 h3 h4 h5 h6 : Nat) (sz : Nat) (uH : tX1) (a1 : Int32) {z : tX1} (hok : p_X1_clear uH a1 = some z) : Met l yX1_clear (Cond.code yX1_clear cX1_clear 3 none :: lw_all) { frames := 0, cells := 0, slots := 0, locals := 0 } (prW (dC, dI) vwCl (TYS cI cZ) ((wX1 cI cZ h0 h3 h4 h5 h6 uH)) sz [.ref h0, .int a1]) (va_Qv (fun _ : Unit => True) (fun _ t => va_P (dC, dI) vwCl ((wX1 cI cZ h0 h3 h4 h5 h6 z)) t.heap) (va_A ((wX1 cI cZ h0 h3 h4 h5 h6 uH)) sz)) 0 0 (va_A ((wX1 cI cZ h0 h3 h4 h5 h6 uH)) sz) := by
  refine oM (by decide) (Nat.le_of_ble_eq_true rfl) ?_
  intro p e s m args below meth c S hr hlk hnm hB ls hl
  have hx := S.1
  have hb := S.2.1
  have hml := S.2.2.1
  have hown : s.vm.findClass RX1 = some m.cls := S.2.2.2.1
  have hts := S.2.2.2.2
  have S : CallFix p m c cX1_clear 3 s args lw_all RX1 := S
  have hl : lv_has ls 3 [(0, .ref h0), (1, .int a1)] := hl
  obtain ⟨hsz, hP, hK, hD0⟩ := hB
  subst hsz
  have hD := hD0.self (sz := s.heap.size)
  generalize hAe : va_A ((wX1 cI cZ h0 h3 h4 h5 h6 uH)) s.heap.size = A at hD ⊢
  have hA : ∀ q : Nat, s.heap.size ≤ q → A q := fun q h => by rw [← hAe]; exact Or.inr h
  have hS : va_S A s.heap s.heap [] := va_S.rf
  have hP : va_P (dC, dI) vwCl ((wX1 cI cZ h0 h3 h4 h5 h6 uH)) s.heap := hP
  have L7 : ∀ n7 : Nat, ∀ (uH : tX1) (l7_2 : Int32) (H : Heap) (locs : List Loc) (hP : va_P (dC, dI) vwCl ((wX1 cI cZ h0 h3 h4 h5 h6 uH)) H) (hD : va_D A ((wX1 cI cZ h0 h3 h4 h5 h6 uH))) (hS : va_S A s.heap H locs) (ls : Array Slot) (hl : lv_has ls 3 [(0, .ref h0), (2, .int l7_2)]) (hok : p_X1_clear_L7 n7 uH l7_2 = some z), W p l e { frames := 0, cells := 0, slots := 0, locals := 0 } s m args below meth c H locs 0 0 (MQ below (va_Qv (fun _ : Unit => True) (fun _ t => va_P (dC, dI) vwCl ((wX1 cI cZ h0 h3 h4 h5 h6 z)) t.heap) A) args s 0 0 A) (F0 m 7 ls []) := by
    intro n7
    induction n7 with
    | zero =>
      intro uH l7_2 H locs hP hD hS ls hl hok
      rw [p_X1_clear_L7] at hok
      cases hok
    | succ n7 ih7 =>
      intro uH l7_2 H locs hP hD hS ls hl hok
      rw [p_X1_clear_L7] at hok
      refine lv_iload_n hx hb dX1_clear_7 rfl (lv_at hl 1 rfl) ?_
      refine lv_bipush (v := (12 : Int32)) hx hb dX1_clear_8 (by decide) ?_
      refine lv_icmp_ge (tgt := 26) hx hb dX1_clear_10 (by decide) (fun hc => ?_) (fun hc => ?_)
      · have hok := ip hok hc
        have hok := Option.some.inj hok
        subst hok
        exact eWv S hr hlk hP hS (Nat.le_of_ble_eq_true rfl) (Nat.le_of_ble_eq_true rfl) dX1_clear_26
      · have hok := iq hok hc
        refine lv_aload_n hx hb dX1_clear_13 rfl (lv_at hl 0 rfl) ?_
        refine va_get (D := (dC, dI)) (ci := 1) (v := .ref h3) (C := RX1) (T := TX1) (N := 7) hx hb hts inX1 hown hK hP 0 rfl rfl 3 (by decide) (hts _ qf_X1_21) (fun _ h9 => h9) rfl dX1_clear_14 ?_
        refine lv_iload_n hx hb dX1_clear_17 rfl (lv_at hl 1 rfl) ?_
        refine lv_iconst (v := (0 : Int32)) hx hb dX1_clear_18 (by decide) ?_
        obtain ⟨hi1, hok⟩ := gd_some hok
        refine va_iast hx hb hK hP hD hS 1 0 rfl rfl hi1 dX1_clear_19 (fun H locs hP _ hS => ?_)
        have hP : va_P (dC, dI) vwCl ((wX1 cI cZ h0 h3 h4 h5 h6 (uH.1, uH.2.1, uH.2.2.1, (upd uH.2.2.2.1 l7_2.toNatClampNeg (0 : Int32)), uH.2.2.2.2))) H := hP
        have hD : va_D A ((wX1 cI cZ h0 h3 h4 h5 h6 (uH.1, uH.2.1, uH.2.2.1, (upd uH.2.2.2.1 l7_2.toNatClampNeg (0 : Int32)), uH.2.2.2.2))) := D_H hD
        refine lv_iinc (v := (l7_2 + 1)) (lv' := [(2, .int (l7_2 + 1)), (0, .ref h0)]) hx hb dX1_clear_20 hl (k := 1) rfl rfl (by decide) rfl (fun ls hl => ?_)
        refine lv_goto (tgt := 7) hx hb dX1_clear_23 (by decide) ?_
        exact ih7 (uH.1, uH.2.1, uH.2.2.1, (upd uH.2.2.2.1 l7_2.toNatClampNeg (0 : Int32)), uH.2.2.2.2) (l7_2 + 1) _ _ hP hD hS _ (lv_sub hl [1, 0] rfl) hok
  unfold p_X1_clear at hok
  refine lv_aload_n hx hb dX1_clear_0 rfl (lv_at hl 0 rfl) ?_
  refine lv_iload_n hx hb dX1_clear_1 rfl (lv_at hl 1 rfl) ?_
  refine va_put (D := (dC, dI)) (ci := 1) (v := .int a1) (ty := .int) (C := RX1) (T := TX1) (N := 7) hx hb hts inX1 tyX1 tyX1_ok nmX1 hown hK hP hD hS 0 rfl rfl 0 (by decide) (hts _ qf_X1_9) (fun _ h9 => h9) rfl (tyX1_ok 0 (by decide)) rfl rfl (Nat.le_of_ble_eq_true rfl) dX1_clear_2 (fun H locs hP _ hS => ?_)
  have hP : va_P (dC, dI) vwCl ((wX1 cI cZ h0 h3 h4 h5 h6 (a1, uH.2))) H := hP
  have hD : va_D A ((wX1 cI cZ h0 h3 h4 h5 h6 (a1, uH.2))) := D_H hD
  refine lv_iconst (v := (0 : Int32)) hx hb dX1_clear_5 (by decide) ?_
  refine lv_istore_n (lv' := [(2, .int (0 : Int32)), (0, .ref h0), (1, .int a1)]) hx hb dX1_clear_6 rfl hl (by decide) rfl (fun ls hl => ?_)
  exact L7 200 (a1, uH.2) (0 : Int32) _ _ hP hD hS _ (lv_sub hl [1, 0] rfl) hok
theorem hd_X1_append : yX1_append.cls = RX1 ∧ yX1_append.cls ≠ "java/lang/invoke/MethodHandle" ∧ yX1_append.cls ≠ "java/lang/invoke/VarHandle" ∧ (parseMethodDescriptor yX1_append.desc).map (fun d => d.parameters.length) = some 3 := by decide +kernel
def p_X1_append (uH : tX1) (a1 : Int32) (a2 : Int32) (a3 : Int32) : Option (Int32 × tX1) :=
  gd a1 12 (
  gd ((a1 * (9 : Int32)) + (uH.2.2.2.1 a1.toNatClampNeg)) 108 (
  some ((uH.2.2.2.1 a1.toNatClampNeg), (uH.1, uH.2.1, uH.2.2.1, (upd uH.2.2.2.1 a1.toNatClampNeg ((uH.2.2.2.1 a1.toNatClampNeg) + (1 : Int32))), (upd uH.2.2.2.2.1 ((a1 * (9 : Int32)) + (uH.2.2.2.1 a1.toNatClampNeg)).toNatClampNeg a2), (upd uH.2.2.2.2.2.1 ((a1 * (9 : Int32)) + (uH.2.2.2.1 a1.toNatClampNeg)).toNatClampNeg a3), uH.2.2.2.2.2.2))))
set_option maxHeartbeats 4000000 in
set_option maxRecDepth 100000 in
theorem c_X1_append (l : Launch) (dC : Nat → ClassId) (dI : Nat → Nat → Nat) (cI cZ : ClassId) (h0 h3 h4 h5 h6 : Nat) (sz : Nat) (uH : tX1) (a1 : Int32) (a2 : Int32) (a3 : Int32) {z : (Int32 × tX1)} (hok : p_X1_append uH a1 a2 a3 = some z) : Met l yX1_append (Cond.code yX1_append cX1_append 5 (some .int) :: lw_all) { frames := 0, cells := 0, slots := 0, locals := 0 } (prW (dC, dI) vwCl (TYS cI cZ) ((wX1 cI cZ h0 h3 h4 h5 h6 uH)) sz [.ref h0, .int a1, .int a2, .int a3]) (va_Qi (fun (r : Int32) (_ : Unit) => r = z.1) (fun _ t => va_P (dC, dI) vwCl ((wX1 cI cZ h0 h3 h4 h5 h6 z.2)) t.heap) (va_A ((wX1 cI cZ h0 h3 h4 h5 h6 uH)) sz)) 0 0 (va_A ((wX1 cI cZ h0 h3 h4 h5 h6 uH)) sz) := by
  refine oM (by decide) (Nat.le_of_ble_eq_true rfl) ?_
  intro p e s m args below meth c S hr hlk hnm hB ls hl
  have hx := S.1
  have hb := S.2.1
  have hml := S.2.2.1
  have hown : s.vm.findClass RX1 = some m.cls := S.2.2.2.1
  have hts := S.2.2.2.2
  have S : CallFix p m c cX1_append 5 s args lw_all RX1 := S
  have hl : lv_has ls 5 [(0, .ref h0), (1, .int a1), (2, .int a2), (3, .int a3)] := hl
  obtain ⟨hsz, hP, hK, hD0⟩ := hB
  subst hsz
  have hD := hD0.self (sz := s.heap.size)
  generalize hAe : va_A ((wX1 cI cZ h0 h3 h4 h5 h6 uH)) s.heap.size = A at hD ⊢
  have hA : ∀ q : Nat, s.heap.size ≤ q → A q := fun q h => by rw [← hAe]; exact Or.inr h
  have hS : va_S A s.heap s.heap [] := va_S.rf
  have hP : va_P (dC, dI) vwCl ((wX1 cI cZ h0 h3 h4 h5 h6 uH)) s.heap := hP
  unfold p_X1_append at hok
  refine lv_aload_n hx hb dX1_append_0 rfl (lv_at hl 0 rfl) ?_
  refine va_get (D := (dC, dI)) (ci := 1) (v := .ref h3) (C := RX1) (T := TX1) (N := 7) hx hb hts inX1 hown hK hP 0 rfl rfl 3 (by decide) (hts _ qf_X1_21) (fun _ h9 => h9) rfl dX1_append_1 ?_
  refine lv_iload_n hx hb dX1_append_4 rfl (lv_at hl 1 rfl) ?_
  obtain ⟨hi1, hok⟩ := gd_some hok
  refine va_iald hx hb hK hP 1 0 rfl rfl hi1 dX1_append_5 ?_
  refine lv_istore (lv' := [(4, .int (uH.2.2.2.1 a1.toNatClampNeg)), (0, .ref h0), (1, .int a1), (2, .int a2), (3, .int a3)]) hx hb dX1_append_6 hl (by decide) rfl (fun ls hl => ?_)
  refine lv_aload_n hx hb dX1_append_8 rfl (lv_at hl 1 rfl) ?_
  refine va_get (D := (dC, dI)) (ci := 1) (v := .ref h4) (C := RX1) (T := TX1) (N := 7) hx hb hts inX1 hown hK hP 0 rfl rfl 4 (by decide) (hts _ qf_X1_25) (fun _ h9 => h9) rfl dX1_append_9 ?_
  refine lv_iload_n hx hb dX1_append_12 rfl (lv_at hl 2 rfl) ?_
  refine lv_bipush (v := (9 : Int32)) hx hb dX1_append_13 (by decide) ?_
  refine lv_imul hx hb dX1_append_15 ?_
  refine lv_iload hx hb dX1_append_16 (lv_at hl 0 rfl) ?_
  refine lv_iadd hx hb dX1_append_18 ?_
  refine lv_iload_n hx hb dX1_append_19 rfl (lv_at hl 3 rfl) ?_
  obtain ⟨hi2, hok⟩ := gd_some hok
  refine va_iast hx hb hK hP hD hS 2 0 rfl rfl hi2 dX1_append_20 (fun H locs hP _ hS => ?_)
  have hP : va_P (dC, dI) vwCl ((wX1 cI cZ h0 h3 h4 h5 h6 (uH.1, uH.2.1, uH.2.2.1, uH.2.2.2.1, (upd uH.2.2.2.2.1 ((a1 * (9 : Int32)) + (uH.2.2.2.1 a1.toNatClampNeg)).toNatClampNeg a2), uH.2.2.2.2.2))) H := hP
  have hD : va_D A ((wX1 cI cZ h0 h3 h4 h5 h6 (uH.1, uH.2.1, uH.2.2.1, uH.2.2.2.1, (upd uH.2.2.2.2.1 ((a1 * (9 : Int32)) + (uH.2.2.2.1 a1.toNatClampNeg)).toNatClampNeg a2), uH.2.2.2.2.2))) := D_H hD
  refine lv_aload_n hx hb dX1_append_21 rfl (lv_at hl 1 rfl) ?_
  refine va_get (D := (dC, dI)) (ci := 1) (v := .ref h5) (C := RX1) (T := TX1) (N := 7) hx hb hts inX1 hown hK hP 0 rfl rfl 5 (by decide) (hts _ qf_X1_28) (fun _ h9 => h9) rfl dX1_append_22 ?_
  refine lv_iload_n hx hb dX1_append_25 rfl (lv_at hl 2 rfl) ?_
  refine lv_bipush (v := (9 : Int32)) hx hb dX1_append_26 (by decide) ?_
  refine lv_imul hx hb dX1_append_28 ?_
  refine lv_iload hx hb dX1_append_29 (lv_at hl 0 rfl) ?_
  refine lv_iadd hx hb dX1_append_31 ?_
  refine lv_iload_n hx hb dX1_append_32 rfl (lv_at hl 4 rfl) ?_
  refine va_iast hx hb hK hP hD hS 3 0 rfl rfl hi2 dX1_append_33 (fun H locs hP _ hS => ?_)
  have hP : va_P (dC, dI) vwCl ((wX1 cI cZ h0 h3 h4 h5 h6 (uH.1, uH.2.1, uH.2.2.1, uH.2.2.2.1, (upd uH.2.2.2.2.1 ((a1 * (9 : Int32)) + (uH.2.2.2.1 a1.toNatClampNeg)).toNatClampNeg a2), (upd uH.2.2.2.2.2.1 ((a1 * (9 : Int32)) + (uH.2.2.2.1 a1.toNatClampNeg)).toNatClampNeg a3), uH.2.2.2.2.2.2))) H := hP
  have hD : va_D A ((wX1 cI cZ h0 h3 h4 h5 h6 (uH.1, uH.2.1, uH.2.2.1, uH.2.2.2.1, (upd uH.2.2.2.2.1 ((a1 * (9 : Int32)) + (uH.2.2.2.1 a1.toNatClampNeg)).toNatClampNeg a2), (upd uH.2.2.2.2.2.1 ((a1 * (9 : Int32)) + (uH.2.2.2.1 a1.toNatClampNeg)).toNatClampNeg a3), uH.2.2.2.2.2.2))) := D_H hD
  refine lv_aload_n hx hb dX1_append_34 rfl (lv_at hl 1 rfl) ?_
  refine va_get (D := (dC, dI)) (ci := 1) (v := .ref h3) (C := RX1) (T := TX1) (N := 7) hx hb hts inX1 hown hK hP 0 rfl rfl 3 (by decide) (hts _ qf_X1_21) (fun _ h9 => h9) rfl dX1_append_35 ?_
  refine lv_iload_n hx hb dX1_append_38 rfl (lv_at hl 2 rfl) ?_
  refine lv_iload hx hb dX1_append_39 (lv_at hl 0 rfl) ?_
  refine lv_iconst (v := (1 : Int32)) hx hb dX1_append_41 (by decide) ?_
  refine lv_iadd hx hb dX1_append_42 ?_
  refine va_iast hx hb hK hP hD hS 1 0 rfl rfl hi1 dX1_append_43 (fun H locs hP _ hS => ?_)
  have hP : va_P (dC, dI) vwCl ((wX1 cI cZ h0 h3 h4 h5 h6 (uH.1, uH.2.1, uH.2.2.1, (upd uH.2.2.2.1 a1.toNatClampNeg ((uH.2.2.2.1 a1.toNatClampNeg) + (1 : Int32))), (upd uH.2.2.2.2.1 ((a1 * (9 : Int32)) + (uH.2.2.2.1 a1.toNatClampNeg)).toNatClampNeg a2), (upd uH.2.2.2.2.2.1 ((a1 * (9 : Int32)) + (uH.2.2.2.1 a1.toNatClampNeg)).toNatClampNeg a3), uH.2.2.2.2.2.2))) H := hP
  have hD : va_D A ((wX1 cI cZ h0 h3 h4 h5 h6 (uH.1, uH.2.1, uH.2.2.1, (upd uH.2.2.2.1 a1.toNatClampNeg ((uH.2.2.2.1 a1.toNatClampNeg) + (1 : Int32))), (upd uH.2.2.2.2.1 ((a1 * (9 : Int32)) + (uH.2.2.2.1 a1.toNatClampNeg)).toNatClampNeg a2), (upd uH.2.2.2.2.2.1 ((a1 * (9 : Int32)) + (uH.2.2.2.1 a1.toNatClampNeg)).toNatClampNeg a3), uH.2.2.2.2.2.2))) := D_H hD
  refine lv_iload hx hb dX1_append_44 (lv_at hl 0 rfl) ?_
  have hok := Option.some.inj hok
  subst hok
  exact eWi S hr hlk rfl hP hS (Nat.le_of_ble_eq_true rfl) (Nat.le_of_ble_eq_true rfl) dX1_append_46
theorem hd_X3_append : yX3_append.cls = RX3 ∧ yX3_append.cls ≠ "java/lang/invoke/MethodHandle" ∧ yX3_append.cls ≠ "java/lang/invoke/VarHandle" ∧ (parseMethodDescriptor yX3_append.desc).map (fun d => d.parameters.length) = some 2 := by decide +kernel
def p_X3_append (uM : tX3) (a1 : Int32) (a2 : Int32) : Option (Int32 × tX3) :=
  gd uM.1 4 (
  some (uM.1, ((uM.1 + (1 : Int32)), (upd uM.2.1 uM.1.toNatClampNeg a1), (upd uM.2.2 uM.1.toNatClampNeg a2))))
set_option maxHeartbeats 4000000 in
set_option maxRecDepth 100000 in
theorem c_X3_append (l : Launch) (dC : Nat → ClassId) (dI : Nat → Nat → Nat) (cI cZ : ClassId) (m0 m1 m2 : Nat) (sz : Nat) (uM : tX3) (a1 : Int32) (a2 : Int32) {z : (Int32 × tX3)} (hok : p_X3_append uM a1 a2 = some z) : Met l yX3_append (Cond.code yX3_append cX3_append 4 (some .int) :: lw_all) { frames := 0, cells := 0, slots := 0, locals := 0 } (prW (dC, dI) vwCl (TYS cI cZ) ((wX3 cI cZ m0 m1 m2 uM)) sz [.ref m0, .int a1, .int a2]) (va_Qi (fun (r : Int32) (_ : Unit) => r = z.1) (fun _ t => va_P (dC, dI) vwCl ((wX3 cI cZ m0 m1 m2 z.2)) t.heap) (va_A ((wX3 cI cZ m0 m1 m2 uM)) sz)) 0 0 (va_A ((wX3 cI cZ m0 m1 m2 uM)) sz) := by
  refine oM (by decide) (Nat.le_of_ble_eq_true rfl) ?_
  intro p e s m args below meth c S hr hlk hnm hB ls hl
  have hx := S.1
  have hb := S.2.1
  have hml := S.2.2.1
  have hown : s.vm.findClass RX3 = some m.cls := S.2.2.2.1
  have hts := S.2.2.2.2
  have S : CallFix p m c cX3_append 4 s args lw_all RX3 := S
  have hl : lv_has ls 4 [(0, .ref m0), (1, .int a1), (2, .int a2)] := hl
  obtain ⟨hsz, hP, hK, hD0⟩ := hB
  subst hsz
  have hD := hD0.self (sz := s.heap.size)
  generalize hAe : va_A ((wX3 cI cZ m0 m1 m2 uM)) s.heap.size = A at hD ⊢
  have hA : ∀ q : Nat, s.heap.size ≤ q → A q := fun q h => by rw [← hAe]; exact Or.inr h
  have hS : va_S A s.heap s.heap [] := va_S.rf
  have hP : va_P (dC, dI) vwCl ((wX3 cI cZ m0 m1 m2 uM)) s.heap := hP
  unfold p_X3_append at hok
  refine lv_aload_n hx hb dX3_append_0 rfl (lv_at hl 0 rfl) ?_
  refine va_get (D := (dC, dI)) (ci := 3) (v := .int uM.1) (C := RX3) (T := TX3) (N := 3) hx hb hts inX3 hown hK hP 0 rfl rfl 0 (by decide) (hts _ qf_X3_9) (fun _ h9 => h9) rfl dX3_append_1 ?_
  refine lv_istore_n (lv' := [(3, .int uM.1), (0, .ref m0), (1, .int a1), (2, .int a2)]) hx hb dX3_append_4 rfl hl (by decide) rfl (fun ls hl => ?_)
  refine lv_aload_n hx hb dX3_append_5 rfl (lv_at hl 1 rfl) ?_
  refine va_get (D := (dC, dI)) (ci := 3) (v := .ref m1) (C := RX3) (T := TX3) (N := 3) hx hb hts inX3 hown hK hP 0 rfl rfl 1 (by decide) (hts _ qf_X3_15) (fun _ h9 => h9) rfl dX3_append_6 ?_
  refine lv_iload_n hx hb dX3_append_9 rfl (lv_at hl 0 rfl) ?_
  refine lv_iload_n hx hb dX3_append_10 rfl (lv_at hl 2 rfl) ?_
  obtain ⟨hi1, hok⟩ := gd_some hok
  refine va_iast hx hb hK hP hD hS 1 0 rfl rfl hi1 dX3_append_11 (fun H locs hP _ hS => ?_)
  have hP : va_P (dC, dI) vwCl ((wX3 cI cZ m0 m1 m2 (uM.1, (upd uM.2.1 uM.1.toNatClampNeg a1), uM.2.2))) H := hP
  have hD : va_D A ((wX3 cI cZ m0 m1 m2 (uM.1, (upd uM.2.1 uM.1.toNatClampNeg a1), uM.2.2))) := D_M hD
  refine lv_aload_n hx hb dX3_append_12 rfl (lv_at hl 1 rfl) ?_
  refine va_get (D := (dC, dI)) (ci := 3) (v := .ref m2) (C := RX3) (T := TX3) (N := 3) hx hb hts inX3 hown hK hP 0 rfl rfl 2 (by decide) (hts _ qf_X3_19) (fun _ h9 => h9) rfl dX3_append_13 ?_
  refine lv_iload_n hx hb dX3_append_16 rfl (lv_at hl 0 rfl) ?_
  refine lv_iload_n hx hb dX3_append_17 rfl (lv_at hl 3 rfl) ?_
  refine va_iast hx hb hK hP hD hS 2 0 rfl rfl hi1 dX3_append_18 (fun H locs hP _ hS => ?_)
  have hP : va_P (dC, dI) vwCl ((wX3 cI cZ m0 m1 m2 (uM.1, (upd uM.2.1 uM.1.toNatClampNeg a1), (upd uM.2.2 uM.1.toNatClampNeg a2)))) H := hP
  have hD : va_D A ((wX3 cI cZ m0 m1 m2 (uM.1, (upd uM.2.1 uM.1.toNatClampNeg a1), (upd uM.2.2 uM.1.toNatClampNeg a2)))) := D_M hD
  refine lv_aload_n hx hb dX3_append_19 rfl (lv_at hl 1 rfl) ?_
  refine lv_iload_n hx hb dX3_append_20 rfl (lv_at hl 0 rfl) ?_
  refine lv_iconst (v := (1 : Int32)) hx hb dX3_append_21 (by decide) ?_
  refine lv_iadd hx hb dX3_append_22 ?_
  refine va_put (D := (dC, dI)) (ci := 3) (v := .int (uM.1 + (1 : Int32))) (ty := .int) (C := RX3) (T := TX3) (N := 3) hx hb hts inX3 tyX3 tyX3_ok nmX3 hown hK hP hD hS 0 rfl rfl 0 (by decide) (hts _ qf_X3_9) (fun _ h9 => h9) rfl (tyX3_ok 0 (by decide)) rfl rfl (Nat.le_of_ble_eq_true rfl) dX3_append_23 (fun H locs hP _ hS => ?_)
  have hP : va_P (dC, dI) vwCl ((wX3 cI cZ m0 m1 m2 ((uM.1 + (1 : Int32)), (upd uM.2.1 uM.1.toNatClampNeg a1), (upd uM.2.2 uM.1.toNatClampNeg a2)))) H := hP
  have hD : va_D A ((wX3 cI cZ m0 m1 m2 ((uM.1 + (1 : Int32)), (upd uM.2.1 uM.1.toNatClampNeg a1), (upd uM.2.2 uM.1.toNatClampNeg a2)))) := D_M hD
  refine lv_iload_n hx hb dX3_append_26 rfl (lv_at hl 0 rfl) ?_
  have hok := Option.some.inj hok
  subst hok
  exact eWi S hr hlk rfl hP hS (Nat.le_of_ble_eq_true rfl) (Nat.le_of_ble_eq_true rfl) dX3_append_27
theorem hd_X1_topicAt : yX1_topicAt.cls = RX1 ∧ yX1_topicAt.cls ≠ "java/lang/invoke/MethodHandle" ∧ yX1_topicAt.cls ≠ "java/lang/invoke/VarHandle" ∧ (parseMethodDescriptor yX1_topicAt.desc).map (fun d => d.parameters.length) = some 2 := by decide +kernel
def p_X1_topicAt (uH : tX1) (a1 : Int32) (a2 : Int32) : Option Int32 :=
  gd ((a1 * (9 : Int32)) + a2) 108 (
  some (uH.2.2.2.2.1 ((a1 * (9 : Int32)) + a2).toNatClampNeg))
set_option maxHeartbeats 4000000 in
set_option maxRecDepth 100000 in
theorem c_X1_topicAt (l : Launch) (dC : Nat → ClassId) (dI : Nat → Nat → Nat) (cI cZ : ClassId) (h0 h3 h4 h5 h6 : Nat) (uH : tX1) (a1 : Int32) (a2 : Int32) {z : Int32} (hok : p_X1_topicAt uH a1 a2 = some z) : Met l yX1_topicAt (Cond.code yX1_topicAt cX1_topicAt 3 (some .int) :: lw_all) { frames := 0, cells := 0, slots := 0, locals := 0 } (prR (dC, dI) vwCl (TYS cI cZ) ((wX1 cI cZ h0 h3 h4 h5 h6 uH)) [.ref h0, .int a1, .int a2]) (vp_Si (fun r => r = z)) 0 0 (fun _ => False) := by
  refine oM (by decide) (Nat.le_of_ble_eq_true rfl) ?_
  intro p e s m args below meth c S hr hlk hnm hB ls hl
  have hx := S.1
  have hb := S.2.1
  have hml := S.2.2.1
  have hown : s.vm.findClass RX1 = some m.cls := S.2.2.2.1
  have hts := S.2.2.2.2
  have S : CallFix p m c cX1_topicAt 3 s args lw_all RX1 := S
  have hl : lv_has ls 3 [(0, .ref h0), (1, .int a1), (2, .int a2)] := hl
  obtain ⟨hP, hK⟩ := hB
  have hP : va_P (dC, dI) vwCl ((wX1 cI cZ h0 h3 h4 h5 h6 uH)) s.heap := hP
  unfold p_X1_topicAt at hok
  refine lv_aload_n hx hb dX1_topicAt_0 rfl (lv_at hl 0 rfl) ?_
  refine va_get (D := (dC, dI)) (ci := 1) (v := .ref h4) (C := RX1) (T := TX1) (N := 7) hx hb hts inX1 hown hK hP 0 rfl rfl 4 (by decide) (hts _ qf_X1_25) (fun _ h9 => h9) rfl dX1_topicAt_1 ?_
  refine lv_iload_n hx hb dX1_topicAt_4 rfl (lv_at hl 1 rfl) ?_
  refine lv_bipush (v := (9 : Int32)) hx hb dX1_topicAt_5 (by decide) ?_
  refine lv_imul hx hb dX1_topicAt_7 ?_
  refine lv_iload_n hx hb dX1_topicAt_8 rfl (lv_at hl 2 rfl) ?_
  refine lv_iadd hx hb dX1_topicAt_9 ?_
  obtain ⟨hi1, hok⟩ := gd_some hok
  refine va_iald hx hb hK hP 2 0 rfl rfl hi1 dX1_topicAt_10 ?_
  exact eRi S hr hlk (Option.some.inj hok) dX1_topicAt_11
theorem hd_X1_thrillAt : yX1_thrillAt.cls = RX1 ∧ yX1_thrillAt.cls ≠ "java/lang/invoke/MethodHandle" ∧ yX1_thrillAt.cls ≠ "java/lang/invoke/VarHandle" ∧ (parseMethodDescriptor yX1_thrillAt.desc).map (fun d => d.parameters.length) = some 2 := by decide +kernel
def p_X1_thrillAt (uH : tX1) (a1 : Int32) (a2 : Int32) : Option Int32 :=
  gd ((a1 * (9 : Int32)) + a2) 108 (
  some (uH.2.2.2.2.2.1 ((a1 * (9 : Int32)) + a2).toNatClampNeg))
set_option maxHeartbeats 4000000 in
set_option maxRecDepth 100000 in
theorem c_X1_thrillAt (l : Launch) (dC : Nat → ClassId) (dI : Nat → Nat → Nat) (cI cZ : ClassId) (h0 h3 h4 h5 h6 : Nat) (uH : tX1) (a1 : Int32) (a2 : Int32) {z : Int32} (hok : p_X1_thrillAt uH a1 a2 = some z) : Met l yX1_thrillAt (Cond.code yX1_thrillAt cX1_thrillAt 3 (some .int) :: lw_all) { frames := 0, cells := 0, slots := 0, locals := 0 } (prR (dC, dI) vwCl (TYS cI cZ) ((wX1 cI cZ h0 h3 h4 h5 h6 uH)) [.ref h0, .int a1, .int a2]) (vp_Si (fun r => r = z)) 0 0 (fun _ => False) := by
  refine oM (by decide) (Nat.le_of_ble_eq_true rfl) ?_
  intro p e s m args below meth c S hr hlk hnm hB ls hl
  have hx := S.1
  have hb := S.2.1
  have hml := S.2.2.1
  have hown : s.vm.findClass RX1 = some m.cls := S.2.2.2.1
  have hts := S.2.2.2.2
  have S : CallFix p m c cX1_thrillAt 3 s args lw_all RX1 := S
  have hl : lv_has ls 3 [(0, .ref h0), (1, .int a1), (2, .int a2)] := hl
  obtain ⟨hP, hK⟩ := hB
  have hP : va_P (dC, dI) vwCl ((wX1 cI cZ h0 h3 h4 h5 h6 uH)) s.heap := hP
  unfold p_X1_thrillAt at hok
  refine lv_aload_n hx hb dX1_thrillAt_0 rfl (lv_at hl 0 rfl) ?_
  refine va_get (D := (dC, dI)) (ci := 1) (v := .ref h5) (C := RX1) (T := TX1) (N := 7) hx hb hts inX1 hown hK hP 0 rfl rfl 5 (by decide) (hts _ qf_X1_28) (fun _ h9 => h9) rfl dX1_thrillAt_1 ?_
  refine lv_iload_n hx hb dX1_thrillAt_4 rfl (lv_at hl 1 rfl) ?_
  refine lv_bipush (v := (9 : Int32)) hx hb dX1_thrillAt_5 (by decide) ?_
  refine lv_imul hx hb dX1_thrillAt_7 ?_
  refine lv_iload_n hx hb dX1_thrillAt_8 rfl (lv_at hl 2 rfl) ?_
  refine lv_iadd hx hb dX1_thrillAt_9 ?_
  obtain ⟨hi1, hok⟩ := gd_some hok
  refine va_iald hx hb hK hP 3 0 rfl rfl hi1 dX1_thrillAt_10 ?_
  exact eRi S hr hlk (Option.some.inj hok) dX1_thrillAt_11
theorem hd_X2_append : yX2_append.cls = RX2 ∧ yX2_append.cls ≠ "java/lang/invoke/MethodHandle" ∧ yX2_append.cls ≠ "java/lang/invoke/VarHandle" ∧ (parseMethodDescriptor yX2_append.desc).map (fun d => d.parameters.length) = some 4 := by decide +kernel
def p_X2_append (uI : tX2) (a1 : Int32) (a2 : Int32) (a3 : Int32) (a4 : Int32) : Option tX2 :=
  if uI.1 < (108 : Int32) then
    gd uI.1 108 (
    some ((uI.1 + (1 : Int32)), (upd uI.2.1 uI.1.toNatClampNeg a1), (upd uI.2.2.1 uI.1.toNatClampNeg a2), (upd uI.2.2.2.1 uI.1.toNatClampNeg a3), (upd uI.2.2.2.2 uI.1.toNatClampNeg a4)))
  else
    some uI
set_option maxHeartbeats 4000000 in
set_option maxRecDepth 100000 in
theorem c_X2_append (l : Launch) (dC : Nat → ClassId) (dI : Nat → Nat → Nat) (cI cZ : ClassId) (i0 i1 i2 i3 i4 : Nat) (sz : Nat) (uI : tX2) (a1 : Int32) (a2 : Int32) (a3 : Int32) (a4 : Int32) {z : tX2} (hok : p_X2_append uI a1 a2 a3 a4 = some z) : Met l yX2_append (Cond.code yX2_append cX2_append 5 none :: lw_all) { frames := 0, cells := 0, slots := 0, locals := 0 } (prW (dC, dI) vwCl (TYS cI cZ) ((wX2 cI cZ i0 i1 i2 i3 i4 uI)) sz [.ref i0, .int a1, .int a2, .int a3, .int a4]) (va_Qv (fun _ : Unit => True) (fun _ t => va_P (dC, dI) vwCl ((wX2 cI cZ i0 i1 i2 i3 i4 z)) t.heap) (va_A ((wX2 cI cZ i0 i1 i2 i3 i4 uI)) sz)) 0 0 (va_A ((wX2 cI cZ i0 i1 i2 i3 i4 uI)) sz) := by
  refine oM (by decide) (Nat.le_of_ble_eq_true rfl) ?_
  intro p e s m args below meth c S hr hlk hnm hB ls hl
  have hx := S.1
  have hb := S.2.1
  have hml := S.2.2.1
  have hown : s.vm.findClass RX2 = some m.cls := S.2.2.2.1
  have hts := S.2.2.2.2
  have S : CallFix p m c cX2_append 5 s args lw_all RX2 := S
  have hl : lv_has ls 5 [(0, .ref i0), (1, .int a1), (2, .int a2), (3, .int a3), (4, .int a4)] := hl
  obtain ⟨hsz, hP, hK, hD0⟩ := hB
  subst hsz
  have hD := hD0.self (sz := s.heap.size)
  generalize hAe : va_A ((wX2 cI cZ i0 i1 i2 i3 i4 uI)) s.heap.size = A at hD ⊢
  have hA : ∀ q : Nat, s.heap.size ≤ q → A q := fun q h => by rw [← hAe]; exact Or.inr h
  have hS : va_S A s.heap s.heap [] := va_S.rf
  have hP : va_P (dC, dI) vwCl ((wX2 cI cZ i0 i1 i2 i3 i4 uI)) s.heap := hP
  unfold p_X2_append at hok
  refine lv_aload_n hx hb dX2_append_0 rfl (lv_at hl 0 rfl) ?_
  refine va_get (D := (dC, dI)) (ci := 2) (v := .int uI.1) (C := RX2) (T := TX2) (N := 5) hx hb hts inX2 hown hK hP 0 rfl rfl 0 (by decide) (hts _ qf_X2_9) (fun _ h9 => h9) rfl dX2_append_1 ?_
  refine lv_bipush (v := (108 : Int32)) hx hb dX2_append_4 (by decide) ?_
  refine lv_icmp_lt (tgt := 10) hx hb dX2_append_6 (by decide) (fun hc => ?_) (fun hc => ?_)
  · have hok := ip hok hc
    refine lv_aload_n hx hb dX2_append_10 rfl (lv_at hl 0 rfl) ?_
    refine va_get (D := (dC, dI)) (ci := 2) (v := .ref i1) (C := RX2) (T := TX2) (N := 5) hx hb hts inX2 hown hK hP 0 rfl rfl 1 (by decide) (hts _ qf_X2_15) (fun _ h9 => h9) rfl dX2_append_11 ?_
    refine lv_aload_n hx hb dX2_append_14 rfl (lv_at hl 0 rfl) ?_
    refine va_get (D := (dC, dI)) (ci := 2) (v := .int uI.1) (C := RX2) (T := TX2) (N := 5) hx hb hts inX2 hown hK hP 0 rfl rfl 0 (by decide) (hts _ qf_X2_9) (fun _ h9 => h9) rfl dX2_append_15 ?_
    refine lv_iload_n hx hb dX2_append_18 rfl (lv_at hl 1 rfl) ?_
    obtain ⟨hi1, hok⟩ := gd_some hok
    refine va_iast hx hb hK hP hD hS 1 0 rfl rfl hi1 dX2_append_19 (fun H locs hP _ hS => ?_)
    have hP : va_P (dC, dI) vwCl ((wX2 cI cZ i0 i1 i2 i3 i4 (uI.1, (upd uI.2.1 uI.1.toNatClampNeg a1), uI.2.2))) H := hP
    have hD : va_D A ((wX2 cI cZ i0 i1 i2 i3 i4 (uI.1, (upd uI.2.1 uI.1.toNatClampNeg a1), uI.2.2))) := D_I hD
    refine lv_aload_n hx hb dX2_append_20 rfl (lv_at hl 0 rfl) ?_
    refine va_get (D := (dC, dI)) (ci := 2) (v := .ref i2) (C := RX2) (T := TX2) (N := 5) hx hb hts inX2 hown hK hP 0 rfl rfl 2 (by decide) (hts _ qf_X2_19) (fun _ h9 => h9) rfl dX2_append_21 ?_
    refine lv_aload_n hx hb dX2_append_24 rfl (lv_at hl 0 rfl) ?_
    refine va_get (D := (dC, dI)) (ci := 2) (v := .int uI.1) (C := RX2) (T := TX2) (N := 5) hx hb hts inX2 hown hK hP 0 rfl rfl 0 (by decide) (hts _ qf_X2_9) (fun _ h9 => h9) rfl dX2_append_25 ?_
    refine lv_iload_n hx hb dX2_append_28 rfl (lv_at hl 2 rfl) ?_
    refine va_iast hx hb hK hP hD hS 2 0 rfl rfl hi1 dX2_append_29 (fun H locs hP _ hS => ?_)
    have hP : va_P (dC, dI) vwCl ((wX2 cI cZ i0 i1 i2 i3 i4 (uI.1, (upd uI.2.1 uI.1.toNatClampNeg a1), (upd uI.2.2.1 uI.1.toNatClampNeg a2), uI.2.2.2))) H := hP
    have hD : va_D A ((wX2 cI cZ i0 i1 i2 i3 i4 (uI.1, (upd uI.2.1 uI.1.toNatClampNeg a1), (upd uI.2.2.1 uI.1.toNatClampNeg a2), uI.2.2.2))) := D_I hD
    refine lv_aload_n hx hb dX2_append_30 rfl (lv_at hl 0 rfl) ?_
    refine va_get (D := (dC, dI)) (ci := 2) (v := .ref i3) (C := RX2) (T := TX2) (N := 5) hx hb hts inX2 hown hK hP 0 rfl rfl 3 (by decide) (hts _ qf_X2_22) (fun _ h9 => h9) rfl dX2_append_31 ?_
    refine lv_aload_n hx hb dX2_append_34 rfl (lv_at hl 0 rfl) ?_
    refine va_get (D := (dC, dI)) (ci := 2) (v := .int uI.1) (C := RX2) (T := TX2) (N := 5) hx hb hts inX2 hown hK hP 0 rfl rfl 0 (by decide) (hts _ qf_X2_9) (fun _ h9 => h9) rfl dX2_append_35 ?_
    refine lv_iload_n hx hb dX2_append_38 rfl (lv_at hl 3 rfl) ?_
    refine va_iast hx hb hK hP hD hS 3 0 rfl rfl hi1 dX2_append_39 (fun H locs hP _ hS => ?_)
    have hP : va_P (dC, dI) vwCl ((wX2 cI cZ i0 i1 i2 i3 i4 (uI.1, (upd uI.2.1 uI.1.toNatClampNeg a1), (upd uI.2.2.1 uI.1.toNatClampNeg a2), (upd uI.2.2.2.1 uI.1.toNatClampNeg a3), uI.2.2.2.2))) H := hP
    have hD : va_D A ((wX2 cI cZ i0 i1 i2 i3 i4 (uI.1, (upd uI.2.1 uI.1.toNatClampNeg a1), (upd uI.2.2.1 uI.1.toNatClampNeg a2), (upd uI.2.2.2.1 uI.1.toNatClampNeg a3), uI.2.2.2.2))) := D_I hD
    refine lv_aload_n hx hb dX2_append_40 rfl (lv_at hl 0 rfl) ?_
    refine va_get (D := (dC, dI)) (ci := 2) (v := .ref i4) (C := RX2) (T := TX2) (N := 5) hx hb hts inX2 hown hK hP 0 rfl rfl 4 (by decide) (hts _ qf_X2_25) (fun _ h9 => h9) rfl dX2_append_41 ?_
    refine lv_aload_n hx hb dX2_append_44 rfl (lv_at hl 0 rfl) ?_
    refine va_get (D := (dC, dI)) (ci := 2) (v := .int uI.1) (C := RX2) (T := TX2) (N := 5) hx hb hts inX2 hown hK hP 0 rfl rfl 0 (by decide) (hts _ qf_X2_9) (fun _ h9 => h9) rfl dX2_append_45 ?_
    refine lv_iload hx hb dX2_append_48 (lv_at hl 4 rfl) ?_
    refine va_iast hx hb hK hP hD hS 4 0 rfl rfl hi1 dX2_append_50 (fun H locs hP _ hS => ?_)
    have hP : va_P (dC, dI) vwCl ((wX2 cI cZ i0 i1 i2 i3 i4 (uI.1, (upd uI.2.1 uI.1.toNatClampNeg a1), (upd uI.2.2.1 uI.1.toNatClampNeg a2), (upd uI.2.2.2.1 uI.1.toNatClampNeg a3), (upd uI.2.2.2.2 uI.1.toNatClampNeg a4)))) H := hP
    have hD : va_D A ((wX2 cI cZ i0 i1 i2 i3 i4 (uI.1, (upd uI.2.1 uI.1.toNatClampNeg a1), (upd uI.2.2.1 uI.1.toNatClampNeg a2), (upd uI.2.2.2.1 uI.1.toNatClampNeg a3), (upd uI.2.2.2.2 uI.1.toNatClampNeg a4)))) := D_I hD
    refine lv_aload_n hx hb dX2_append_51 rfl (lv_at hl 0 rfl) ?_
    refine lv_dup hx hb dX2_append_52 rfl ?_
    refine va_get (D := (dC, dI)) (ci := 2) (v := .int uI.1) (C := RX2) (T := TX2) (N := 5) hx hb hts inX2 hown hK hP 0 rfl rfl 0 (by decide) (hts _ qf_X2_9) (fun _ h9 => h9) rfl dX2_append_53 ?_
    refine lv_iconst (v := (1 : Int32)) hx hb dX2_append_56 (by decide) ?_
    refine lv_iadd hx hb dX2_append_57 ?_
    refine va_put (D := (dC, dI)) (ci := 2) (v := .int (uI.1 + (1 : Int32))) (ty := .int) (C := RX2) (T := TX2) (N := 5) hx hb hts inX2 tyX2 tyX2_ok nmX2 hown hK hP hD hS 0 rfl rfl 0 (by decide) (hts _ qf_X2_9) (fun _ h9 => h9) rfl (tyX2_ok 0 (by decide)) rfl rfl (Nat.le_of_ble_eq_true rfl) dX2_append_58 (fun H locs hP _ hS => ?_)
    have hP : va_P (dC, dI) vwCl ((wX2 cI cZ i0 i1 i2 i3 i4 ((uI.1 + (1 : Int32)), (upd uI.2.1 uI.1.toNatClampNeg a1), (upd uI.2.2.1 uI.1.toNatClampNeg a2), (upd uI.2.2.2.1 uI.1.toNatClampNeg a3), (upd uI.2.2.2.2 uI.1.toNatClampNeg a4)))) H := hP
    have hD : va_D A ((wX2 cI cZ i0 i1 i2 i3 i4 ((uI.1 + (1 : Int32)), (upd uI.2.1 uI.1.toNatClampNeg a1), (upd uI.2.2.1 uI.1.toNatClampNeg a2), (upd uI.2.2.2.1 uI.1.toNatClampNeg a3), (upd uI.2.2.2.2 uI.1.toNatClampNeg a4)))) := D_I hD
    have hok := Option.some.inj hok
    subst hok
    exact eWv S hr hlk hP hS (Nat.le_of_ble_eq_true rfl) (Nat.le_of_ble_eq_true rfl) dX2_append_61
  · have hok := iq hok hc
    have hok := Option.some.inj hok
    subst hok
    exact eWv S hr hlk hP hS (Nat.le_of_ble_eq_true rfl) (Nat.le_of_ble_eq_true rfl) dX2_append_9
theorem hd_X2_findMostThrilling : yX2_findMostThrilling.cls = RX2 ∧ yX2_findMostThrilling.cls ≠ "java/lang/invoke/MethodHandle" ∧ yX2_findMostThrilling.cls ≠ "java/lang/invoke/VarHandle" ∧ (parseMethodDescriptor yX2_findMostThrilling.desc).map (fun d => d.parameters.length) = some 0 := by decide +kernel
def p_X2_findMostThrilling_J32 (rec4 : tX2 → Int32 → Int32 → Option Int32) (uI : tX2) (l32_2 : Int32) : Option Int32 :=
  rec4 uI l32_2 (l32_2 + 1)
def p_X2_findMostThrilling_L4 : Nat → tX2 → Int32 → Int32 → Option Int32
  | 0, _, _, _ => none
  | n + 1, uI, l4_1, l4_2 =>
    if uI.1 ≤ l4_2 then
      some l4_1
    else
      if l4_1 = (-1 : Int32) then
        p_X2_findMostThrilling_J32 (p_X2_findMostThrilling_L4 n) uI l4_2
      else
        gd l4_2 108 (
        gd l4_1 108 (
        if (uI.2.2.2.1 l4_2.toNatClampNeg) ≤ (uI.2.2.2.1 l4_1.toNatClampNeg) then
          (p_X2_findMostThrilling_L4 n) uI l4_1 (l4_2 + 1)
        else
          p_X2_findMostThrilling_J32 (p_X2_findMostThrilling_L4 n) uI l4_2))
def p_X2_findMostThrilling (uI : tX2) : Option Int32 :=
  p_X2_findMostThrilling_L4 200 uI (-1 : Int32) (0 : Int32)
set_option maxHeartbeats 4000000 in
set_option maxRecDepth 100000 in
theorem c_X2_findMostThrilling (l : Launch) (dC : Nat → ClassId) (dI : Nat → Nat → Nat) (cI cZ : ClassId) (i0 i1 i2 i3 i4 : Nat) (uI : tX2) {z : Int32} (hok : p_X2_findMostThrilling uI = some z) : Met l yX2_findMostThrilling (Cond.code yX2_findMostThrilling cX2_findMostThrilling 3 (some .int) :: lw_all) { frames := 0, cells := 0, slots := 0, locals := 0 } (prR (dC, dI) vwCl (TYS cI cZ) ((wX2 cI cZ i0 i1 i2 i3 i4 uI)) [.ref i0]) (vp_Si (fun r => r = z)) 0 0 (fun _ => False) := by
  refine oM (by decide) (Nat.le_of_ble_eq_true rfl) ?_
  intro p e s m args below meth c S hr hlk hnm hB ls hl
  have hx := S.1
  have hb := S.2.1
  have hml := S.2.2.1
  have hown : s.vm.findClass RX2 = some m.cls := S.2.2.2.1
  have hts := S.2.2.2.2
  have S : CallFix p m c cX2_findMostThrilling 3 s args lw_all RX2 := S
  have hl : lv_has ls 3 [(0, .ref i0)] := hl
  obtain ⟨hP, hK⟩ := hB
  have hP : va_P (dC, dI) vwCl ((wX2 cI cZ i0 i1 i2 i3 i4 uI)) s.heap := hP
  have L4 : ∀ n4 : Nat, ∀ (l4_1 : Int32) (l4_2 : Int32) (ls : Array Slot) (hl : lv_has ls 3 [(0, .ref i0), (1, .int l4_1), (2, .int l4_2)]) (hok : p_X2_findMostThrilling_L4 n4 uI l4_1 l4_2 = some z), W p l e { frames := 0, cells := 0, slots := 0, locals := 0 } s m args below meth c s.heap [] 0 0 (MQ below (vp_Si (fun r => r = z)) args s 0 0 (fun _ => False)) (F0 m 4 ls []) := by
    intro n4
    induction n4 with
    | zero =>
      intro l4_1 l4_2 ls hl hok
      rw [p_X2_findMostThrilling_L4] at hok
      cases hok
    | succ n4 ih4 =>
      have J32 : ∀ (l32_2 : Int32) (ls : Array Slot) (hl : lv_has ls 3 [(0, .ref i0), (2, .int l32_2)]) (hok : p_X2_findMostThrilling_J32 (p_X2_findMostThrilling_L4 n4) uI l32_2 = some z), W p l e { frames := 0, cells := 0, slots := 0, locals := 0 } s m args below meth c s.heap [] 0 0 (MQ below (vp_Si (fun r => r = z)) args s 0 0 (fun _ => False)) (F0 m 32 ls []) := by
        intro l32_2 ls hl hok
        unfold p_X2_findMostThrilling_J32 at hok
        refine lv_iload_n hx hb dX2_findMostThrilling_32 rfl (lv_at hl 1 rfl) ?_
        refine lv_istore_n (lv' := [(1, .int l32_2), (0, .ref i0), (2, .int l32_2)]) hx hb dX2_findMostThrilling_33 rfl hl (by decide) rfl (fun ls hl => ?_)
        refine lv_iinc (v := (l32_2 + 1)) (lv' := [(2, .int (l32_2 + 1)), (1, .int l32_2), (0, .ref i0)]) hx hb dX2_findMostThrilling_34 hl (k := 2) rfl rfl (by decide) rfl (fun ls hl => ?_)
        refine lv_goto (tgt := 4) hx hb dX2_findMostThrilling_37 (by decide) ?_
        exact ih4 l32_2 (l32_2 + 1) _ (lv_sub hl [2, 1, 0] rfl) hok
      intro l4_1 l4_2 ls hl hok
      rw [p_X2_findMostThrilling_L4] at hok
      refine lv_iload_n hx hb dX2_findMostThrilling_4 rfl (lv_at hl 2 rfl) ?_
      refine lv_aload_n hx hb dX2_findMostThrilling_5 rfl (lv_at hl 0 rfl) ?_
      refine va_get (D := (dC, dI)) (ci := 2) (v := .int uI.1) (C := RX2) (T := TX2) (N := 5) hx hb hts inX2 hown hK hP 0 rfl rfl 0 (by decide) (hts _ qf_X2_9) (fun _ h9 => h9) rfl dX2_findMostThrilling_6 ?_
      refine lv_icmp_ge (tgt := 40) hx hb dX2_findMostThrilling_9 (by decide) (fun hc => ?_) (fun hc => ?_)
      · have hok := ip hok hc
        refine lv_iload_n hx hb dX2_findMostThrilling_40 rfl (lv_at hl 1 rfl) ?_
        exact eRi S hr hlk (Option.some.inj hok) dX2_findMostThrilling_41
      · have hok := iq hok hc
        refine lv_iload_n hx hb dX2_findMostThrilling_12 rfl (lv_at hl 1 rfl) ?_
        refine lv_iconst (v := (-1 : Int32)) hx hb dX2_findMostThrilling_13 (by decide) ?_
        refine lv_icmp_eq (tgt := 32) hx hb dX2_findMostThrilling_14 (by decide) (fun hc => ?_) (fun hc => ?_)
        · have hok := ip hok hc
          exact J32 l4_2 _ (lv_sub hl [0, 2] rfl) hok
        · have hok := iq hok hc
          refine lv_aload_n hx hb dX2_findMostThrilling_17 rfl (lv_at hl 0 rfl) ?_
          refine va_get (D := (dC, dI)) (ci := 2) (v := .ref i3) (C := RX2) (T := TX2) (N := 5) hx hb hts inX2 hown hK hP 0 rfl rfl 3 (by decide) (hts _ qf_X2_22) (fun _ h9 => h9) rfl dX2_findMostThrilling_18 ?_
          refine lv_iload_n hx hb dX2_findMostThrilling_21 rfl (lv_at hl 2 rfl) ?_
          obtain ⟨hi1, hok⟩ := gd_some hok
          refine va_iald hx hb hK hP 3 0 rfl rfl hi1 dX2_findMostThrilling_22 ?_
          refine lv_aload_n hx hb dX2_findMostThrilling_23 rfl (lv_at hl 0 rfl) ?_
          refine va_get (D := (dC, dI)) (ci := 2) (v := .ref i3) (C := RX2) (T := TX2) (N := 5) hx hb hts inX2 hown hK hP 0 rfl rfl 3 (by decide) (hts _ qf_X2_22) (fun _ h9 => h9) rfl dX2_findMostThrilling_24 ?_
          refine lv_iload_n hx hb dX2_findMostThrilling_27 rfl (lv_at hl 1 rfl) ?_
          obtain ⟨hi2, hok⟩ := gd_some hok
          refine va_iald hx hb hK hP 3 0 rfl rfl hi2 dX2_findMostThrilling_28 ?_
          refine lv_icmp_le (tgt := 34) hx hb dX2_findMostThrilling_29 (by decide) (fun hc => ?_) (fun hc => ?_)
          · have hok := ip hok hc
            refine lv_iinc (v := (l4_2 + 1)) (lv' := [(2, .int (l4_2 + 1)), (0, .ref i0), (1, .int l4_1)]) hx hb dX2_findMostThrilling_34 hl (k := 2) rfl rfl (by decide) rfl (fun ls hl => ?_)
            refine lv_goto (tgt := 4) hx hb dX2_findMostThrilling_37 (by decide) ?_
            exact ih4 l4_1 (l4_2 + 1) _ (lv_sub hl [1, 2, 0] rfl) hok
          · have hok := iq hok hc
            exact J32 l4_2 _ (lv_sub hl [0, 2] rfl) hok
  unfold p_X2_findMostThrilling at hok
  refine lv_iconst (v := (-1 : Int32)) hx hb dX2_findMostThrilling_0 (by decide) ?_
  refine lv_istore_n (lv' := [(1, .int (-1 : Int32)), (0, .ref i0)]) hx hb dX2_findMostThrilling_1 rfl hl (by decide) rfl (fun ls hl => ?_)
  refine lv_iconst (v := (0 : Int32)) hx hb dX2_findMostThrilling_2 (by decide) ?_
  refine lv_istore_n (lv' := [(2, .int (0 : Int32)), (1, .int (-1 : Int32)), (0, .ref i0)]) hx hb dX2_findMostThrilling_3 rfl hl (by decide) rfl (fun ls hl => ?_)
  exact L4 200 (-1 : Int32) (0 : Int32) _ (lv_sub hl [2, 1, 0] rfl) hok
theorem hd_X2_findLongestWait : yX2_findLongestWait.cls = RX2 ∧ yX2_findLongestWait.cls ≠ "java/lang/invoke/MethodHandle" ∧ yX2_findLongestWait.cls ≠ "java/lang/invoke/VarHandle" ∧ (parseMethodDescriptor yX2_findLongestWait.desc).map (fun d => d.parameters.length) = some 0 := by decide +kernel
def p_X2_findLongestWait_L4 : Nat → tX2 → Int32 → Int32 → Option Int32
  | 0, _, _, _ => none
  | n + 1, uI, l4_1, l4_2 =>
    if uI.1 ≤ l4_2 then
      some l4_1
    else
      gd l4_2 108 (
      gd (l4_2 - (1 : Int32)) 108 (
      (p_X2_findLongestWait_L4 n) uI (if l4_1 < ((uI.2.2.2.2 l4_2.toNatClampNeg) - (uI.2.2.2.2 (l4_2 - (1 : Int32)).toNatClampNeg)) then ((uI.2.2.2.2 l4_2.toNatClampNeg) - (uI.2.2.2.2 (l4_2 - (1 : Int32)).toNatClampNeg)) else l4_1) (l4_2 + 1)))
def p_X2_findLongestWait (uI : tX2) : Option Int32 :=
  p_X2_findLongestWait_L4 200 uI (0 : Int32) (1 : Int32)
set_option maxHeartbeats 4000000 in
set_option maxRecDepth 100000 in
theorem c_X2_findLongestWait (l : Launch) (dC : Nat → ClassId) (dI : Nat → Nat → Nat) (cI cZ : ClassId) (i0 i1 i2 i3 i4 : Nat) (uI : tX2) {z : Int32} (hok : p_X2_findLongestWait uI = some z) : Met l yX2_findLongestWait (Cond.code yX2_findLongestWait cX2_findLongestWait 3 (some .int) :: lw_all) { frames := 1, cells := 0, slots := 0, locals := 21 } (prR (dC, dI) vwCl (TYS cI cZ) ((wX2 cI cZ i0 i1 i2 i3 i4 uI)) [.ref i0]) (vp_Si (fun r => r = z)) 0 0 (fun _ => False) := by
  refine oM (by decide) (Nat.le_of_ble_eq_true rfl) ?_
  intro p e s m args below meth c S hr hlk hnm hB ls hl
  have hx := S.1
  have hb := S.2.1
  have hml := S.2.2.1
  have hown : s.vm.findClass RX2 = some m.cls := S.2.2.2.1
  have hts := S.2.2.2.2
  have S : CallFix p m c cX2_findLongestWait 3 s args lw_all RX2 := S
  have hl : lv_has ls 3 [(0, .ref i0)] := hl
  obtain ⟨hP, hK⟩ := hB
  have hP : va_P (dC, dI) vwCl ((wX2 cI cZ i0 i1 i2 i3 i4 uI)) s.heap := hP
  have L4 : ∀ n4 : Nat, ∀ (l4_1 : Int32) (l4_2 : Int32) (ls : Array Slot) (hl : lv_has ls 3 [(0, .ref i0), (1, .int l4_1), (2, .int l4_2)]) (hok : p_X2_findLongestWait_L4 n4 uI l4_1 l4_2 = some z), W p l e { frames := 1, cells := 0, slots := 0, locals := 21 } s m args below meth c s.heap [] 0 0 (MQ below (vp_Si (fun r => r = z)) args s 0 0 (fun _ => False)) (F0 m 4 ls []) := by
    intro n4
    induction n4 with
    | zero =>
      intro l4_1 l4_2 ls hl hok
      rw [p_X2_findLongestWait_L4] at hok
      cases hok
    | succ n4 ih4 =>
      intro l4_1 l4_2 ls hl hok
      rw [p_X2_findLongestWait_L4] at hok
      refine lv_iload_n hx hb dX2_findLongestWait_4 rfl (lv_at hl 2 rfl) ?_
      refine lv_aload_n hx hb dX2_findLongestWait_5 rfl (lv_at hl 0 rfl) ?_
      refine va_get (D := (dC, dI)) (ci := 2) (v := .int uI.1) (C := RX2) (T := TX2) (N := 5) hx hb hts inX2 hown hK hP 0 rfl rfl 0 (by decide) (hts _ qf_X2_9) (fun _ h9 => h9) rfl dX2_findLongestWait_6 ?_
      refine lv_icmp_ge (tgt := 38) hx hb dX2_findLongestWait_9 (by decide) (fun hc => ?_) (fun hc => ?_)
      · have hok := ip hok hc
        refine lv_iload_n hx hb dX2_findLongestWait_38 rfl (lv_at hl 1 rfl) ?_
        exact eRi S hr hlk (Option.some.inj hok) dX2_findLongestWait_39
      · have hok := iq hok hc
        refine lv_iload_n hx hb dX2_findLongestWait_12 rfl (lv_at hl 1 rfl) ?_
        refine lv_aload_n hx hb dX2_findLongestWait_13 rfl (lv_at hl 0 rfl) ?_
        refine va_get (D := (dC, dI)) (ci := 2) (v := .ref i4) (C := RX2) (T := TX2) (N := 5) hx hb hts inX2 hown hK hP 0 rfl rfl 4 (by decide) (hts _ qf_X2_25) (fun _ h9 => h9) rfl dX2_findLongestWait_14 ?_
        refine lv_iload_n hx hb dX2_findLongestWait_17 rfl (lv_at hl 2 rfl) ?_
        obtain ⟨hi1, hok⟩ := gd_some hok
        refine va_iald hx hb hK hP 4 0 rfl rfl hi1 dX2_findLongestWait_18 ?_
        refine lv_aload_n hx hb dX2_findLongestWait_19 rfl (lv_at hl 0 rfl) ?_
        refine va_get (D := (dC, dI)) (ci := 2) (v := .ref i4) (C := RX2) (T := TX2) (N := 5) hx hb hts inX2 hown hK hP 0 rfl rfl 4 (by decide) (hts _ qf_X2_25) (fun _ h9 => h9) rfl dX2_findLongestWait_20 ?_
        refine lv_iload_n hx hb dX2_findLongestWait_23 rfl (lv_at hl 2 rfl) ?_
        refine lv_iconst (v := (1 : Int32)) hx hb dX2_findLongestWait_24 (by decide) ?_
        refine lv_isub hx hb dX2_findLongestWait_25 ?_
        obtain ⟨hi2, hok⟩ := gd_some hok
        refine va_iald hx hb hK hP 4 0 rfl rfl hi2 dX2_findLongestWait_26 ?_
        refine lv_isub hx hb dX2_findLongestWait_27 ?_
        refine va_mmax hx hb (hml.trans hl.1.symm) hown (hts _ qm_X2_28) (hts _ qt_Math_max) (hts _ qn_Math) (hts _ qc_Math_max) (Nat.le_of_ble_eq_true rfl) (Nat.le_of_ble_eq_true rfl) (Nat.le_of_ble_eq_true rfl) (Nat.le_of_ble_eq_true rfl) dX2_findLongestWait_28 ?_
        refine lv_istore_n (lv' := [(1, .int (if l4_1 < ((uI.2.2.2.2 l4_2.toNatClampNeg) - (uI.2.2.2.2 (l4_2 - (1 : Int32)).toNatClampNeg)) then ((uI.2.2.2.2 l4_2.toNatClampNeg) - (uI.2.2.2.2 (l4_2 - (1 : Int32)).toNatClampNeg)) else l4_1)), (0, .ref i0), (2, .int l4_2)]) hx hb dX2_findLongestWait_31 rfl hl (by decide) rfl (fun ls hl => ?_)
        refine lv_iinc (v := (l4_2 + 1)) (lv' := [(2, .int (l4_2 + 1)), (1, .int (if l4_1 < ((uI.2.2.2.2 l4_2.toNatClampNeg) - (uI.2.2.2.2 (l4_2 - (1 : Int32)).toNatClampNeg)) then ((uI.2.2.2.2 l4_2.toNatClampNeg) - (uI.2.2.2.2 (l4_2 - (1 : Int32)).toNatClampNeg)) else l4_1)), (0, .ref i0)]) hx hb dX2_findLongestWait_32 hl (k := 2) rfl rfl (by decide) rfl (fun ls hl => ?_)
        refine lv_goto (tgt := 4) hx hb dX2_findLongestWait_35 (by decide) ?_
        exact ih4 (if l4_1 < ((uI.2.2.2.2 l4_2.toNatClampNeg) - (uI.2.2.2.2 (l4_2 - (1 : Int32)).toNatClampNeg)) then ((uI.2.2.2.2 l4_2.toNatClampNeg) - (uI.2.2.2.2 (l4_2 - (1 : Int32)).toNatClampNeg)) else l4_1) (l4_2 + 1) _ (lv_sub hl [2, 1, 0] rfl) hok
  unfold p_X2_findLongestWait at hok
  refine lv_iconst (v := (0 : Int32)) hx hb dX2_findLongestWait_0 (by decide) ?_
  refine lv_istore_n (lv' := [(1, .int (0 : Int32)), (0, .ref i0)]) hx hb dX2_findLongestWait_1 rfl hl (by decide) rfl (fun ls hl => ?_)
  refine lv_iconst (v := (1 : Int32)) hx hb dX2_findLongestWait_2 (by decide) ?_
  refine lv_istore_n (lv' := [(2, .int (1 : Int32)), (1, .int (0 : Int32)), (0, .ref i0)]) hx hb dX2_findLongestWait_3 rfl hl (by decide) rfl (fun ls hl => ?_)
  exact L4 200 (0 : Int32) (1 : Int32) _ (lv_sub hl [2, 1, 0] rfl) hok
theorem hd_X2_countClimbs : yX2_countClimbs.cls = RX2 ∧ yX2_countClimbs.cls ≠ "java/lang/invoke/MethodHandle" ∧ yX2_countClimbs.cls ≠ "java/lang/invoke/VarHandle" ∧ (parseMethodDescriptor yX2_countClimbs.desc).map (fun d => d.parameters.length) = some 0 := by decide +kernel
def p_X2_countClimbs_L4 : Nat → tX2 → Int32 → Int32 → Option Int32
  | 0, _, _, _ => none
  | n + 1, uI, l4_1, l4_2 =>
    if uI.1 ≤ l4_2 then
      some l4_1
    else
      gd l4_2 108 (
      gd (l4_2 - (1 : Int32)) 108 (
      if (uI.2.1 l4_2.toNatClampNeg) ≤ (uI.2.1 (l4_2 - (1 : Int32)).toNatClampNeg) then
        (p_X2_countClimbs_L4 n) uI l4_1 (l4_2 + 1)
      else
        (p_X2_countClimbs_L4 n) uI (l4_1 + 1) (l4_2 + 1)))
def p_X2_countClimbs (uI : tX2) : Option Int32 :=
  p_X2_countClimbs_L4 200 uI (0 : Int32) (1 : Int32)
set_option maxHeartbeats 4000000 in
set_option maxRecDepth 100000 in
theorem c_X2_countClimbs (l : Launch) (dC : Nat → ClassId) (dI : Nat → Nat → Nat) (cI cZ : ClassId) (i0 i1 i2 i3 i4 : Nat) (uI : tX2) {z : Int32} (hok : p_X2_countClimbs uI = some z) : Met l yX2_countClimbs (Cond.code yX2_countClimbs cX2_countClimbs 3 (some .int) :: lw_all) { frames := 0, cells := 0, slots := 0, locals := 0 } (prR (dC, dI) vwCl (TYS cI cZ) ((wX2 cI cZ i0 i1 i2 i3 i4 uI)) [.ref i0]) (vp_Si (fun r => r = z)) 0 0 (fun _ => False) := by
  refine oM (by decide) (Nat.le_of_ble_eq_true rfl) ?_
  intro p e s m args below meth c S hr hlk hnm hB ls hl
  have hx := S.1
  have hb := S.2.1
  have hml := S.2.2.1
  have hown : s.vm.findClass RX2 = some m.cls := S.2.2.2.1
  have hts := S.2.2.2.2
  have S : CallFix p m c cX2_countClimbs 3 s args lw_all RX2 := S
  have hl : lv_has ls 3 [(0, .ref i0)] := hl
  obtain ⟨hP, hK⟩ := hB
  have hP : va_P (dC, dI) vwCl ((wX2 cI cZ i0 i1 i2 i3 i4 uI)) s.heap := hP
  have L4 : ∀ n4 : Nat, ∀ (l4_1 : Int32) (l4_2 : Int32) (ls : Array Slot) (hl : lv_has ls 3 [(0, .ref i0), (1, .int l4_1), (2, .int l4_2)]) (hok : p_X2_countClimbs_L4 n4 uI l4_1 l4_2 = some z), W p l e { frames := 0, cells := 0, slots := 0, locals := 0 } s m args below meth c s.heap [] 0 0 (MQ below (vp_Si (fun r => r = z)) args s 0 0 (fun _ => False)) (F0 m 4 ls []) := by
    intro n4
    induction n4 with
    | zero =>
      intro l4_1 l4_2 ls hl hok
      rw [p_X2_countClimbs_L4] at hok
      cases hok
    | succ n4 ih4 =>
      intro l4_1 l4_2 ls hl hok
      rw [p_X2_countClimbs_L4] at hok
      refine lv_iload_n hx hb dX2_countClimbs_4 rfl (lv_at hl 2 rfl) ?_
      refine lv_aload_n hx hb dX2_countClimbs_5 rfl (lv_at hl 0 rfl) ?_
      refine va_get (D := (dC, dI)) (ci := 2) (v := .int uI.1) (C := RX2) (T := TX2) (N := 5) hx hb hts inX2 hown hK hP 0 rfl rfl 0 (by decide) (hts _ qf_X2_9) (fun _ h9 => h9) rfl dX2_countClimbs_6 ?_
      refine lv_icmp_ge (tgt := 38) hx hb dX2_countClimbs_9 (by decide) (fun hc => ?_) (fun hc => ?_)
      · have hok := ip hok hc
        refine lv_iload_n hx hb dX2_countClimbs_38 rfl (lv_at hl 1 rfl) ?_
        exact eRi S hr hlk (Option.some.inj hok) dX2_countClimbs_39
      · have hok := iq hok hc
        refine lv_aload_n hx hb dX2_countClimbs_12 rfl (lv_at hl 0 rfl) ?_
        refine va_get (D := (dC, dI)) (ci := 2) (v := .ref i1) (C := RX2) (T := TX2) (N := 5) hx hb hts inX2 hown hK hP 0 rfl rfl 1 (by decide) (hts _ qf_X2_15) (fun _ h9 => h9) rfl dX2_countClimbs_13 ?_
        refine lv_iload_n hx hb dX2_countClimbs_16 rfl (lv_at hl 2 rfl) ?_
        obtain ⟨hi1, hok⟩ := gd_some hok
        refine va_iald hx hb hK hP 1 0 rfl rfl hi1 dX2_countClimbs_17 ?_
        refine lv_aload_n hx hb dX2_countClimbs_18 rfl (lv_at hl 0 rfl) ?_
        refine va_get (D := (dC, dI)) (ci := 2) (v := .ref i1) (C := RX2) (T := TX2) (N := 5) hx hb hts inX2 hown hK hP 0 rfl rfl 1 (by decide) (hts _ qf_X2_15) (fun _ h9 => h9) rfl dX2_countClimbs_19 ?_
        refine lv_iload_n hx hb dX2_countClimbs_22 rfl (lv_at hl 2 rfl) ?_
        refine lv_iconst (v := (1 : Int32)) hx hb dX2_countClimbs_23 (by decide) ?_
        refine lv_isub hx hb dX2_countClimbs_24 ?_
        obtain ⟨hi2, hok⟩ := gd_some hok
        refine va_iald hx hb hK hP 1 0 rfl rfl hi2 dX2_countClimbs_25 ?_
        refine lv_icmp_le (tgt := 32) hx hb dX2_countClimbs_26 (by decide) (fun hc => ?_) (fun hc => ?_)
        · have hok := ip hok hc
          refine lv_iinc (v := (l4_2 + 1)) (lv' := [(2, .int (l4_2 + 1)), (0, .ref i0), (1, .int l4_1)]) hx hb dX2_countClimbs_32 hl (k := 2) rfl rfl (by decide) rfl (fun ls hl => ?_)
          refine lv_goto (tgt := 4) hx hb dX2_countClimbs_35 (by decide) ?_
          exact ih4 l4_1 (l4_2 + 1) _ (lv_sub hl [1, 2, 0] rfl) hok
        · have hok := iq hok hc
          refine lv_iinc (v := (l4_1 + 1)) (lv' := [(1, .int (l4_1 + 1)), (0, .ref i0), (2, .int l4_2)]) hx hb dX2_countClimbs_29 hl (k := 1) rfl rfl (by decide) rfl (fun ls hl => ?_)
          refine lv_iinc (v := (l4_2 + 1)) (lv' := [(2, .int (l4_2 + 1)), (1, .int (l4_1 + 1)), (0, .ref i0)]) hx hb dX2_countClimbs_32 hl (k := 2) rfl rfl (by decide) rfl (fun ls hl => ?_)
          refine lv_goto (tgt := 4) hx hb dX2_countClimbs_35 (by decide) ?_
          exact ih4 (l4_1 + 1) (l4_2 + 1) _ (lv_sub hl [2, 1, 0] rfl) hok
  unfold p_X2_countClimbs at hok
  refine lv_iconst (v := (0 : Int32)) hx hb dX2_countClimbs_0 (by decide) ?_
  refine lv_istore_n (lv' := [(1, .int (0 : Int32)), (0, .ref i0)]) hx hb dX2_countClimbs_1 rfl hl (by decide) rfl (fun ls hl => ?_)
  refine lv_iconst (v := (1 : Int32)) hx hb dX2_countClimbs_2 (by decide) ?_
  refine lv_istore_n (lv' := [(2, .int (1 : Int32)), (1, .int (0 : Int32)), (0, .ref i0)]) hx hb dX2_countClimbs_3 rfl hl (by decide) rfl (fun ls hl => ?_)
  exact L4 200 (0 : Int32) (1 : Int32) _ (lv_sub hl [2, 1, 0] rfl) hok
theorem hd_X3_judge : yX3_judge.cls = RX3 ∧ yX3_judge.cls ≠ "java/lang/invoke/MethodHandle" ∧ yX3_judge.cls ≠ "java/lang/invoke/VarHandle" ∧ (parseMethodDescriptor yX3_judge.desc).map (fun d => d.parameters.length) = some 3 := by decide +kernel
def p_X3_judge_J33 (uM : tX3) (l33_4 : Int32) : Option Int32 :=
  some (if (0 : Int32) < (if l33_4 < (10 : Int32) then l33_4 else (10 : Int32)) then (if l33_4 < (10 : Int32) then l33_4 else (10 : Int32)) else (0 : Int32))
def p_X3_judge_J20 (uM : tX3) (l20_1 : Int32) (l20_2 : Int32) (l20_4 : Int32) : Option Int32 :=
  gd l20_1 4 (
  if (uM.2.2 l20_1.toNatClampNeg) = l20_2 then
    p_X3_judge_J33 uM (l20_4 + (-3 : Int32))
  else
    p_X3_judge_J33 uM l20_4)
def p_X3_judge (uM : tX3) (a1 : Int32) (a2 : Int32) (a3 : Int32) : Option Int32 :=
  gd a1 4 (
  if (uM.2.1 a1.toNatClampNeg) = a2 then
    p_X3_judge_J20 uM a1 a2 (((4 : Int32) + (a3 / (3 : Int32))) + 2)
  else
    p_X3_judge_J20 uM a1 a2 ((4 : Int32) + (a3 / (3 : Int32))))
set_option maxHeartbeats 4000000 in
set_option maxRecDepth 100000 in
theorem c_X3_judge (l : Launch) (dC : Nat → ClassId) (dI : Nat → Nat → Nat) (cI cZ : ClassId) (m0 m1 m2 : Nat) (uM : tX3) (a1 : Int32) (a2 : Int32) (a3 : Int32) {z : Int32} (hok : p_X3_judge uM a1 a2 a3 = some z) : Met l yX3_judge (Cond.code yX3_judge cX3_judge 5 (some .int) :: lw_all) { frames := 1, cells := 0, slots := 0, locals := 21 } (prR (dC, dI) vwCl (TYS cI cZ) ((wX3 cI cZ m0 m1 m2 uM)) [.ref m0, .int a1, .int a2, .int a3]) (vp_Si (fun r => r = z)) 0 0 (fun _ => False) := by
  refine oM (by decide) (Nat.le_of_ble_eq_true rfl) ?_
  intro p e s m args below meth c S hr hlk hnm hB ls hl
  have hx := S.1
  have hb := S.2.1
  have hml := S.2.2.1
  have hown : s.vm.findClass RX3 = some m.cls := S.2.2.2.1
  have hts := S.2.2.2.2
  have S : CallFix p m c cX3_judge 5 s args lw_all RX3 := S
  have hl : lv_has ls 5 [(0, .ref m0), (1, .int a1), (2, .int a2), (3, .int a3)] := hl
  obtain ⟨hP, hK⟩ := hB
  have hP : va_P (dC, dI) vwCl ((wX3 cI cZ m0 m1 m2 uM)) s.heap := hP
  have J33 : ∀ (l33_4 : Int32) (ls : Array Slot) (hl : lv_has ls 5 [(4, .int l33_4)]) (hok : p_X3_judge_J33 uM l33_4 = some z), W p l e { frames := 1, cells := 0, slots := 0, locals := 21 } s m args below meth c s.heap [] 0 0 (MQ below (vp_Si (fun r => r = z)) args s 0 0 (fun _ => False)) (F0 m 33 ls []) := by
    intro l33_4 ls hl hok
    unfold p_X3_judge_J33 at hok
    refine lv_iconst (v := (0 : Int32)) hx hb dX3_judge_33 (by decide) ?_
    refine lv_bipush (v := (10 : Int32)) hx hb dX3_judge_34 (by decide) ?_
    refine lv_iload hx hb dX3_judge_36 (lv_at hl 0 rfl) ?_
    refine va_mmin hx hb (hml.trans hl.1.symm) hown (hts _ qm_X3_22) (hts _ qt_Math_min) (hts _ qn_Math) (hts _ qc_Math_min) (Nat.le_of_ble_eq_true rfl) (Nat.le_of_ble_eq_true rfl) (Nat.le_of_ble_eq_true rfl) (Nat.le_of_ble_eq_true rfl) dX3_judge_38 ?_
    refine va_mmax hx hb (hml.trans hl.1.symm) hown (hts _ qm_X3_28) (hts _ qt_Math_max) (hts _ qn_Math) (hts _ qc_Math_max) (Nat.le_of_ble_eq_true rfl) (Nat.le_of_ble_eq_true rfl) (Nat.le_of_ble_eq_true rfl) (Nat.le_of_ble_eq_true rfl) dX3_judge_41 ?_
    exact eRi S hr hlk (Option.some.inj hok) dX3_judge_44
  have J20 : ∀ (l20_1 : Int32) (l20_2 : Int32) (l20_4 : Int32) (ls : Array Slot) (hl : lv_has ls 5 [(0, .ref m0), (1, .int l20_1), (2, .int l20_2), (4, .int l20_4)]) (hok : p_X3_judge_J20 uM l20_1 l20_2 l20_4 = some z), W p l e { frames := 1, cells := 0, slots := 0, locals := 21 } s m args below meth c s.heap [] 0 0 (MQ below (vp_Si (fun r => r = z)) args s 0 0 (fun _ => False)) (F0 m 20 ls []) := by
    intro l20_1 l20_2 l20_4 ls hl hok
    unfold p_X3_judge_J20 at hok
    refine lv_aload_n hx hb dX3_judge_20 rfl (lv_at hl 0 rfl) ?_
    refine va_get (D := (dC, dI)) (ci := 3) (v := .ref m2) (C := RX3) (T := TX3) (N := 3) hx hb hts inX3 hown hK hP 0 rfl rfl 2 (by decide) (hts _ qf_X3_19) (fun _ h9 => h9) rfl dX3_judge_21 ?_
    refine lv_iload_n hx hb dX3_judge_24 rfl (lv_at hl 1 rfl) ?_
    obtain ⟨hi2, hok⟩ := gd_some hok
    refine va_iald hx hb hK hP 2 0 rfl rfl hi2 dX3_judge_25 ?_
    refine lv_iload_n hx hb dX3_judge_26 rfl (lv_at hl 2 rfl) ?_
    refine lv_icmp_ne (tgt := 33) hx hb dX3_judge_27 (by decide) (fun hc => ?_) (fun hc => ?_)
    · have hok := iq hok hc
      exact J33 l20_4 _ (lv_sub hl [3] rfl) hok
    · have hok := ip hok hc
      refine lv_iinc (v := (l20_4 + (-3 : Int32))) (lv' := [(4, .int (l20_4 + (-3 : Int32))), (0, .ref m0), (1, .int l20_1), (2, .int l20_2)]) hx hb dX3_judge_30 hl (k := 3) rfl rfl (by decide) rfl (fun ls hl => ?_)
      exact J33 (l20_4 + (-3 : Int32)) _ (lv_sub hl [0] rfl) hok
  unfold p_X3_judge at hok
  refine lv_iconst (v := (4 : Int32)) hx hb dX3_judge_0 (by decide) ?_
  refine lv_iload_n hx hb dX3_judge_1 rfl (lv_at hl 3 rfl) ?_
  refine lv_iconst (v := (3 : Int32)) hx hb dX3_judge_2 (by decide) ?_
  refine lv_idiv hx hb dX3_judge_3 (by decide) ?_
  refine lv_iadd hx hb dX3_judge_4 ?_
  refine lv_istore (lv' := [(4, .int ((4 : Int32) + (a3 / (3 : Int32)))), (0, .ref m0), (1, .int a1), (2, .int a2), (3, .int a3)]) hx hb dX3_judge_5 hl (by decide) rfl (fun ls hl => ?_)
  refine lv_aload_n hx hb dX3_judge_7 rfl (lv_at hl 1 rfl) ?_
  refine va_get (D := (dC, dI)) (ci := 3) (v := .ref m1) (C := RX3) (T := TX3) (N := 3) hx hb hts inX3 hown hK hP 0 rfl rfl 1 (by decide) (hts _ qf_X3_15) (fun _ h9 => h9) rfl dX3_judge_8 ?_
  refine lv_iload_n hx hb dX3_judge_11 rfl (lv_at hl 2 rfl) ?_
  obtain ⟨hi1, hok⟩ := gd_some hok
  refine va_iald hx hb hK hP 1 0 rfl rfl hi1 dX3_judge_12 ?_
  refine lv_iload_n hx hb dX3_judge_13 rfl (lv_at hl 3 rfl) ?_
  refine lv_icmp_ne (tgt := 20) hx hb dX3_judge_14 (by decide) (fun hc => ?_) (fun hc => ?_)
  · have hok := iq hok hc
    exact J20 a1 a2 ((4 : Int32) + (a3 / (3 : Int32))) _ (lv_sub hl [1, 2, 3, 0] rfl) hok
  · have hok := ip hok hc
    refine lv_iinc (v := (((4 : Int32) + (a3 / (3 : Int32))) + 2)) (lv' := [(4, .int (((4 : Int32) + (a3 / (3 : Int32))) + 2)), (0, .ref m0), (1, .int a1), (2, .int a2), (3, .int a3)]) hx hb dX3_judge_17 hl (k := 0) rfl rfl (by decide) rfl (fun ls hl => ?_)
    exact J20 a1 a2 (((4 : Int32) + (a3 / (3 : Int32))) + 2) _ (lv_sub hl [1, 2, 3, 0] rfl) hok
